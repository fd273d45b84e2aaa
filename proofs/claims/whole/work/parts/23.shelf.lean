/-! ===== the reference's shelves ===== -/
abbrev Sm : Type := (Nat → Nat → Nat) × (Nat → Nat → Int32)
def MSh (h : AH) (S : Sm) : Prop := ∀ d, d < 8 → h.1 21 0 d = nI (S.1 0 d) ∧ (S.1 0 d = 1 → h.1 21 1 d = nI (S.1 1 d) ∧ h.1 21 2 d = nI (S.1 2 d)) ∧ (S.1 0 d = 2 → h.1 21 3 d = nI (S.1 3 d) ∧ h.1 21 4 d = nI (S.1 4 d) ∧ ∀ i, i < 100 → h.1 22 0 (100 * d + i) = S.2 d i)
def WS (S : Sm) : Prop := ∀ d, d < 8 → S.1 0 d ≤ 2 ∧ (S.1 0 d = 1 → S.1 1 d ≤ 7 ∧ S.1 2 d ≤ 9) ∧ (S.1 0 d = 2 → S.1 3 d ≤ 2 ∧ S.1 4 d ≤ 100)
theorem MSh_eq {h h' : AH} {S : Sm} (h1 : ∀ b i, h'.1 21 b i = h.1 21 b i) (h2 : ∀ i, h'.1 22 0 i = h.1 22 0 i) (k : MSh h S) : MSh h' S := by
  intro d hd
  obtain ⟨a, b, c⟩ := k d hd
  refine ⟨by rw [h1, a], fun q => ?_, fun q => ?_⟩
  · rw [h1, h1]; exact b q
  · obtain ⟨c1, c2, c3⟩ := c q
    exact ⟨by rw [h1, c1], by rw [h1, c2], fun i hi => by rw [h2, c3 i hi]⟩
theorem MSh_keep {h h' : AH} {S : Sm} (q : keepM h h') (k : MSh h S) : MSh h' S := MSh_eq (fun b i => q.2 21 b i (by omega)) (fun i => q.2 22 0 i (by omega)) k
theorem MSh_only {h h' : AH} {S : Sm} {j : Nat} (q : only 16 j h h') (k : MSh h S) : MSh h' S := MSh_eq (fun b i => by rw [q.2 21 b (by omega)]) (fun i => by rw [q.2 22 0 (by omega)]) k
def rwR (S : Sm) (d y : Int32) : Int32 := if ¬ cel d then iI (-1) else if S.1 0 (nN d) = 0 then iI (-11) else if S.1 0 (nN d) ≠ 2 ∨ (¬ y < 0 ∧ nI (S.1 3 (nN d)) ≠ y) then iI (-12) else nI 0
def S_X11_wrongRow (d y : Int32) (h : AH) (K : Int32 → AH → Prop) : Prop := ∃ S, MSh h S ∧ WS S ∧ K (rwR S d y) h
def T_X11_wrongRow : List AV → AH → (Int32 → AH → Prop) → Prop := fun as h K => match as with
  | [.inr (.inr (.inl q0)), .inl q1, .inl q2] => tif (Nat.beq q0.1 15 && Nat.beq q0.2 0) (S_X11_wrongRow q1 q2 h K)
  | _ => False

def M_X11_wrongRow : MI := (RX11, cX11_wrongRow, 3, [(0, .iload_n 1, []), (1, .invokestatic 226, []), (4, .ifCond .ne 7, [11]), (7, .iconst (-1), []), (8, .goto 47, [55]), (11, .aload_n 0, []), (12, .getfield 35, []), (15, .iload_n 1, []), (16, .iaload, []), (17, .ifCond .ne 8, [25]), (20, .bipush (-11), []), (22, .goto 33, [55]), (25, .aload_n 0, []), (26, .getfield 35, []), (29, .iload_n 1, []), (30, .iaload, []), (31, .iconst 2, []), (32, .if_icmp .ne 17, [49]), (35, .iload_n 2, []), (36, .ifCond .lt 18, [54]), (39, .aload_n 0, []), (40, .getfield 44, []), (43, .iload_n 1, []), (44, .iaload, []), (45, .iload_n 2, []), (46, .if_icmp .eq 8, [54]), (49, .bipush (-12), []), (51, .goto 4, [55]), (54, .iconst 0, []), (55, .ireturn, [])], [(35, (15, 16, 1, 21, 0)), (44, (15, 19, 1, 21, 3))], [], [], [(679, (1, 2, 42, 0, 0, .inl T_X11_isShelf))], 2, 42, 0, 0)
theorem ok_X11_wrongRow : MOK M_X11_wrongRow := ⟨by decide +kernel, List.forall_mem_cons.mpr ⟨fl_RX11_35, List.forall_mem_cons.mpr ⟨fl_RX11_44, fun _ h => absurd h List.not_mem_nil⟩⟩, fun _ h => absurd h List.not_mem_nil, fun _ h => absurd h List.not_mem_nil, List.forall_mem_cons.mpr ⟨⟨Nat.le_of_ble_eq_true rfl, Nat.le_of_ble_eq_true rfl, cr_RX11_679⟩, fun _ h => absurd h List.not_mem_nil⟩⟩
set_option maxRecDepth 100000 in
theorem vc_X11_wrongRow {K : Int32 → AH → Prop} {h : AH} (p1 : Int32) (p2 : Int32) (H : S_X11_isShelf p1 h (fun x2 h1 => ((¬ x2 = 0) → inR p1 8 ∧ ((¬ (h1.1 21 0 p1.toNatClampNeg) = 0) → inR p1 8 ∧ ((¬ (h1.1 21 0 p1.toNatClampNeg) = (nI 2)) → K (iI (-12)) h1) ∧ (¬ (¬ (h1.1 21 0 p1.toNatClampNeg) = (nI 2)) → ((p2 < 0) → K (nI 0) h1) ∧ (¬ (p2 < 0) → inR p1 8 ∧ (((h1.1 21 3 p1.toNatClampNeg) = p2) → K (nI 0) h1) ∧ (¬ ((h1.1 21 3 p1.toNatClampNeg) = p2) → K (iI (-12)) h1)))) ∧ (¬ (¬ (h1.1 21 0 p1.toNatClampNeg) = 0) → K (iI (-11)) h1)) ∧ (¬ (¬ x2 = 0) → K (iI (-1)) h1))) : AW M_X11_wrongRow (.inl K) 0 [some (aR 15 0), some (aI p1), some (aI p2)] [] h 0 0 := AW_go (cuts := []) ok_X11_wrongRow 400 H

theorem snd_X11_wrongRow (d y : Int32) {h : AH} {K : Int32 → AH → Prop} (k : S_X11_wrongRow d y h K) : AW M_X11_wrongRow (.inl K) 0 [some (aR 15 0), some (aI d), some (aI y)] [] h 0 0 := by
  obtain ⟨S, hs, hw, k⟩ := k
  refine vc_X11_wrongRow d y ?_
  unfold S_X11_isShelf
  simp only [if10_eq]
  unfold rwR at k
  refine ⟨fun q => ?_, fun q => ?_⟩
  · have q := Decidable.not_not.mp q
    rw [if_neg (fun z => z q)] at k
    obtain ⟨m, hm, rfl⟩ := in8_iff.mp q
    unfold nN at k
    rw [n_cl (by omega)] at k
    obtain ⟨a, b, c⟩ := hs m hm
    obtain ⟨w1, w2, w3⟩ := hw m hm
    simp (disch := omega) only [n_inT, n_cl, true_and, a, n_eq0, n_eq]
    refine ⟨fun q0 => ⟨fun q2 => ?_, fun q2 => ⟨fun q3 => ?_, fun q3 => ⟨fun q4 => ?_, fun q4 => ?_⟩⟩⟩, fun q0 => ?_⟩
    · rw [if_neg q0, if_pos (Or.inl q2)] at k; exact k
    · rw [if_neg q0, if_neg (by rintro (z | z); exact q2 z; exact z.1 q3)] at k; exact k
    · rw [(c (Decidable.not_not.mp q2)).1] at q4
      rw [if_neg q0, if_neg (by rintro (z | z); exact q2 z; exact z.2 q4)] at k; exact k
    · rw [(c (Decidable.not_not.mp q2)).1] at q4
      rw [if_neg q0, if_pos (Or.inr ⟨q3, q4⟩)] at k; exact k
    · rw [if_pos (Decidable.not_not.mp q0)] at k; exact k
  · rw [if_pos (fun z => q (fun y => y z))] at k; exact k
theorem tr_X11_wrongRow : ∀ (as : List AV) (h : AH) (K : Int32 → AH → Prop), T_X11_wrongRow as h K → ∃ (q : Nat) (r : List AV), as = aR 15 q :: r := by
  intro as h K hk
  match as, hk with
  | [.inr (.inr (.inl q0)), .inl q1, .inl q2], hk =>
    obtain ⟨hb, hk⟩ := tif_inv hk
    simp only [Bool.and_eq_true] at hb
    obtain ⟨e0, e1⟩ := hb
    obtain ⟨a0, b0⟩ := q0
    have f0 : a0 = 15 := Nat.eq_of_beq_eq_true e0
    subst f0
    have f1 : b0 = 0 := Nat.eq_of_beq_eq_true e1
    subst f1
    exact ⟨_, _, rfl⟩
theorem tw_X11_wrongRow : ∀ (as : List AV) (h : AH) (K : Int32 → AH → Prop), T_X11_wrongRow as h K → (ini as).length ≤ mNL M_X11_wrongRow ∧ AW M_X11_wrongRow (.inl K) 0 (initL (mNL M_X11_wrongRow) as) [] h 0 0 := by
  intro as h K hk
  match as, hk with
  | [.inr (.inr (.inl q0)), .inl q1, .inl q2], hk =>
    obtain ⟨hb, hk⟩ := tif_inv hk
    simp only [Bool.and_eq_true] at hb
    obtain ⟨e0, e1⟩ := hb
    obtain ⟨a0, b0⟩ := q0
    have f0 : a0 = 15 := Nat.eq_of_beq_eq_true e0
    subst f0
    have f1 : b0 = 0 := Nat.eq_of_beq_eq_true e1
    subst f1
    exact ⟨Nat.le_of_ble_eq_true rfl, snd_X11_wrongRow q1 q2 hk⟩
theorem cr_RX11_423 : CR RX11 (kIns 423) (3, 3, 64, 0, 0, .inl T_X11_wrongRow) := crV_i (t := 15) (M := M_X11_wrongRow) (by decide) rfl (by decide) rfl (inG (i := 994) (w := Cond.methodLink RX11 141 yX11_wrongRow) (by decide +kernel) rfl) (inG (i := 996) (w := Cond.instanceMethod yX11_wrongRow) (by decide +kernel) rfl) (inG (i := 40) (w := Cond.initialized RX11) (by decide +kernel) rfl) (inG (i := 15) (w := Cond.selects RX11 yX11_wrongRow yX11_wrongRow) (by decide +kernel) rfl) (inG (i := 997) (w := Cond.code yX11_wrongRow cX11_wrongRow 3 (some .int)) (by decide +kernel) rfl) ⟨by decide +kernel, by decide +kernel, by decide +kernel⟩ tr_X11_wrongRow tw_X11_wrongRow

def rwK (S : Sm) (d : Int32) : Int32 := if ¬ cel d then iI (-1) else if S.1 0 (nN d) = 0 then iI (-11) else if S.1 0 (nN d) = 2 then iI (-12) else nI 0
def S_X11_wrongKept (d : Int32) (h : AH) (K : Int32 → AH → Prop) : Prop := ∃ S, MSh h S ∧ WS S ∧ K (rwK S d) h
def T_X11_wrongKept : List AV → AH → (Int32 → AH → Prop) → Prop := fun as h K => match as with
  | [.inr (.inr (.inl q0)), .inl q1] => tif (Nat.beq q0.1 15 && Nat.beq q0.2 0) (S_X11_wrongKept q1 h K)
  | _ => False

def M_X11_wrongKept : MI := (RX11, cX11_wrongKept, 2, [(0, .iload_n 1, []), (1, .invokestatic 226, []), (4, .ifCond .ne 7, [11]), (7, .iconst (-1), []), (8, .goto 33, [41]), (11, .aload_n 0, []), (12, .getfield 35, []), (15, .iload_n 1, []), (16, .iaload, []), (17, .ifCond .ne 8, [25]), (20, .bipush (-11), []), (22, .goto 19, [41]), (25, .aload_n 0, []), (26, .getfield 35, []), (29, .iload_n 1, []), (30, .iaload, []), (31, .iconst 2, []), (32, .if_icmp .ne 8, [40]), (35, .bipush (-12), []), (37, .goto 4, [41]), (40, .iconst 0, []), (41, .ireturn, [])], [(35, (15, 16, 1, 21, 0))], [], [], [(679, (1, 2, 42, 0, 0, .inl T_X11_isShelf))], 2, 42, 0, 0)
theorem ok_X11_wrongKept : MOK M_X11_wrongKept := ⟨by decide +kernel, List.forall_mem_cons.mpr ⟨fl_RX11_35, fun _ h => absurd h List.not_mem_nil⟩, fun _ h => absurd h List.not_mem_nil, fun _ h => absurd h List.not_mem_nil, List.forall_mem_cons.mpr ⟨⟨Nat.le_of_ble_eq_true rfl, Nat.le_of_ble_eq_true rfl, cr_RX11_679⟩, fun _ h => absurd h List.not_mem_nil⟩⟩
set_option maxRecDepth 100000 in
theorem vc_X11_wrongKept {K : Int32 → AH → Prop} {h : AH} (p1 : Int32) (H : S_X11_isShelf p1 h (fun x2 h1 => ((¬ x2 = 0) → inR p1 8 ∧ ((¬ (h1.1 21 0 p1.toNatClampNeg) = 0) → inR p1 8 ∧ ((¬ (h1.1 21 0 p1.toNatClampNeg) = (nI 2)) → K (nI 0) h1) ∧ (¬ (¬ (h1.1 21 0 p1.toNatClampNeg) = (nI 2)) → K (iI (-12)) h1)) ∧ (¬ (¬ (h1.1 21 0 p1.toNatClampNeg) = 0) → K (iI (-11)) h1)) ∧ (¬ (¬ x2 = 0) → K (iI (-1)) h1))) : AW M_X11_wrongKept (.inl K) 0 [some (aR 15 0), some (aI p1)] [] h 0 0 := AW_go (cuts := []) ok_X11_wrongKept 400 H

theorem snd_X11_wrongKept (d : Int32) {h : AH} {K : Int32 → AH → Prop} (k : S_X11_wrongKept d h K) : AW M_X11_wrongKept (.inl K) 0 [some (aR 15 0), some (aI d)] [] h 0 0 := by
  obtain ⟨S, hs, hw, k⟩ := k
  refine vc_X11_wrongKept d ?_
  unfold S_X11_isShelf
  simp only [if10_eq]
  unfold rwK at k
  refine ⟨fun q => ?_, fun q => ?_⟩
  · have q := Decidable.not_not.mp q
    rw [if_neg (fun z => z q)] at k
    obtain ⟨m, hm, rfl⟩ := in8_iff.mp q
    unfold nN at k
    rw [n_cl (by omega)] at k
    obtain ⟨a, b, c⟩ := hs m hm
    obtain ⟨w1, w2, w3⟩ := hw m hm
    simp (disch := omega) only [n_inT, n_cl, true_and, a, n_eq0, n_eq]
    refine ⟨fun q0 => ⟨fun q2 => ?_, fun q2 => ?_⟩, fun q0 => ?_⟩
    · rw [if_neg q0, if_neg q2] at k; exact k
    · rw [if_neg q0, if_pos (Decidable.not_not.mp q2)] at k; exact k
    · rw [if_pos (Decidable.not_not.mp q0)] at k; exact k
  · rw [if_pos (fun z => q (fun y => y z))] at k; exact k
theorem tr_X11_wrongKept : ∀ (as : List AV) (h : AH) (K : Int32 → AH → Prop), T_X11_wrongKept as h K → ∃ (q : Nat) (r : List AV), as = aR 15 q :: r := by
  intro as h K hk
  match as, hk with
  | [.inr (.inr (.inl q0)), .inl q1], hk =>
    obtain ⟨hb, hk⟩ := tif_inv hk
    simp only [Bool.and_eq_true] at hb
    obtain ⟨e0, e1⟩ := hb
    obtain ⟨a0, b0⟩ := q0
    have f0 : a0 = 15 := Nat.eq_of_beq_eq_true e0
    subst f0
    have f1 : b0 = 0 := Nat.eq_of_beq_eq_true e1
    subst f1
    exact ⟨_, _, rfl⟩
theorem tw_X11_wrongKept : ∀ (as : List AV) (h : AH) (K : Int32 → AH → Prop), T_X11_wrongKept as h K → (ini as).length ≤ mNL M_X11_wrongKept ∧ AW M_X11_wrongKept (.inl K) 0 (initL (mNL M_X11_wrongKept) as) [] h 0 0 := by
  intro as h K hk
  match as, hk with
  | [.inr (.inr (.inl q0)), .inl q1], hk =>
    obtain ⟨hb, hk⟩ := tif_inv hk
    simp only [Bool.and_eq_true] at hb
    obtain ⟨e0, e1⟩ := hb
    obtain ⟨a0, b0⟩ := q0
    have f0 : a0 = 15 := Nat.eq_of_beq_eq_true e0
    subst f0
    have f1 : b0 = 0 := Nat.eq_of_beq_eq_true e1
    subst f1
    exact ⟨Nat.le_of_ble_eq_true rfl, snd_X11_wrongKept q1 hk⟩
theorem cr_RX11_483 : CR RX11 (kIns 483) (2, 3, 63, 0, 0, .inl T_X11_wrongKept) := crV_i (t := 15) (M := M_X11_wrongKept) (by decide) rfl (by decide) rfl (inG (i := 1109) (w := Cond.methodLink RX11 161 yX11_wrongKept) (by decide +kernel) rfl) (inG (i := 1111) (w := Cond.instanceMethod yX11_wrongKept) (by decide +kernel) rfl) (inG (i := 40) (w := Cond.initialized RX11) (by decide +kernel) rfl) (inG (i := 23) (w := Cond.selects RX11 yX11_wrongKept yX11_wrongKept) (by decide +kernel) rfl) (inG (i := 1112) (w := Cond.code yX11_wrongKept cX11_wrongKept 2 (some .int)) (by decide +kernel) rfl) ⟨by decide +kernel, by decide +kernel, by decide +kernel⟩ tr_X11_wrongKept tw_X11_wrongKept

theorem rwR_cases {S : Sm} (hw : WS S) (d : Int32) : (∃ m, m < 8 ∧ d = nI m ∧ S.1 0 m = 2 ∧ rwR S d (iI (-1)) = nI 0) ∨ rwR S d (iI (-1)) ≠ nI 0 := by
  unfold rwR
  by_cases h : cel d
  · rw [if_neg (fun z => z h)]
    obtain ⟨m, hm, rfl⟩ := in8_iff.mp h
    unfold nN
    rw [n_cl (by omega)]
    by_cases h0 : S.1 0 m = 0
    · rw [if_pos h0]; exact Or.inr (by decide)
    · rw [if_neg h0]
      by_cases h2 : S.1 0 m = 2
      · rw [if_neg (by rintro (z | z); exact z h2; exact z.1 (by decide))]; exact Or.inl ⟨m, hm, rfl, h2, rfl⟩
      · rw [if_pos (Or.inl h2)]; exact Or.inr (by decide)
  · rw [if_pos h]; exact Or.inr (by decide)
theorem rwK_cases {S : Sm} (hw : WS S) (d : Int32) : (∃ m, m < 8 ∧ d = nI m ∧ S.1 0 m = 1 ∧ rwK S d = nI 0) ∨ rwK S d ≠ nI 0 := by
  unfold rwK
  by_cases h : cel d
  · rw [if_neg (fun z => z h)]
    obtain ⟨m, hm, rfl⟩ := in8_iff.mp h
    unfold nN
    rw [n_cl (by omega)]
    have := (hw m hm).1
    by_cases h0 : S.1 0 m = 0
    · rw [if_pos h0]; exact Or.inr (by decide)
    · rw [if_neg h0]
      by_cases h2 : S.1 0 m = 2
      · rw [if_pos h2]; exact Or.inr (by decide)
      · rw [if_neg h2]; exact Or.inl ⟨m, hm, rfl, by omega, rfl⟩
  · rw [if_pos h]; exact Or.inr (by decide)
def onlyS (h h' : AH) : Prop := h'.2 = h.2 ∧ ∀ a b, a ≠ 21 → a ≠ 22 → h'.1 a b = h.1 a b
theorem onlyS_rfl (h : AH) : onlyS h h := ⟨rfl, fun _ _ _ _ => rfl⟩
theorem onlyS_tr {h h1 h2 : AH} (a : onlyS h h1) (b : onlyS h1 h2) : onlyS h h2 := ⟨b.1.trans a.1, fun x y q1 q2 => (b.2 x y q1 q2).trans (a.2 x y q1 q2)⟩
theorem onlyS_w {h : AH} {t p i : Nat} {x : Int32} (ht : t = 21 ∨ t = 22) : onlyS h (wI h t p i x) := ⟨rfl, fun a b q1 q2 => uI_ne (fun e => by have := (Prod.mk.inj e).1; omega)⟩
def uS (S : Sm) (k d x : Nat) : Sm := (uV S.1 k d x, S.2)
def M_keep (S : Sm) (d w k f : Int32) : Int32 × Sm := if cel d ∧ w01 w ∧ (w = nI 1 → (nI 0 ≤ k ∧ k ≤ nI 7) ∧ (nI 0 ≤ f ∧ f ≤ nI 9)) then (nI 0, uS (uS (uS S 0 (nN d) (nN w)) 1 (nN d) (nN k)) 2 (nN d) (nN f)) else (iI (-1), S)
def S_X11_keep (d w k f : Int32) (h : AH) (K : Int32 → AH → Prop) : Prop := ∃ S, MSh h S ∧ WS S ∧ ∀ h', onlyS h h' → MSh h' (M_keep S d w k f).2 → K (M_keep S d w k f).1 h'
def T_X11_keep : List AV → AH → (Int32 → AH → Prop) → Prop := fun as h K => match as with
  | [.inr (.inr (.inl q0)), .inl q1, .inl q2, .inl q3, .inl q4] => tif (Nat.beq q0.1 15 && Nat.beq q0.2 0) (S_X11_keep q1 q2 q3 q4 h K)
  | _ => False

def M_X11_keep : MI := (RX11, cX11_keep, 5, [(0, .iload_n 1, []), (1, .invokestatic 226, []), (4, .ifCond .eq 38, [42]), (7, .iload_n 2, []), (8, .iconst 0, []), (9, .iconst 1, []), (10, .invokestatic 53, []), (13, .ifCond .eq 29, [42]), (16, .iload_n 2, []), (17, .iconst 1, []), (18, .if_icmp .ne 26, [44]), (21, .iload_n 3, []), (22, .iconst 0, []), (23, .bipush 7, []), (25, .invokestatic 53, []), (28, .ifCond .eq 14, [42]), (31, .iload 4, []), (33, .iconst 0, []), (34, .bipush 9, []), (36, .invokestatic 53, []), (39, .ifCond .ne 5, [44]), (42, .iconst (-1), []), (43, .ireturn, []), (44, .aload_n 0, []), (45, .getfield 35, []), (48, .iload_n 1, []), (49, .iload_n 2, []), (50, .iastore, []), (51, .aload_n 0, []), (52, .getfield 38, []), (55, .iload_n 1, []), (56, .iload_n 3, []), (57, .iastore, []), (58, .aload_n 0, []), (59, .getfield 41, []), (62, .iload_n 1, []), (63, .iload 4, []), (65, .iastore, []), (66, .iconst 0, []), (67, .ireturn, [])], [(35, (15, 16, 1, 21, 0)), (38, (15, 17, 1, 21, 1)), (41, (15, 18, 1, 21, 2))], [], [], [(679, (1, 2, 42, 0, 0, .inl T_X11_isShelf)), (160, (3, 1, 22, 0, 0, .inl T_X11_isIn))], 2, 42, 0, 0)
theorem ok_X11_keep : MOK M_X11_keep := ⟨by decide +kernel, List.forall_mem_cons.mpr ⟨fl_RX11_35, List.forall_mem_cons.mpr ⟨fl_RX11_38, List.forall_mem_cons.mpr ⟨fl_RX11_41, fun _ h => absurd h List.not_mem_nil⟩⟩⟩, fun _ h => absurd h List.not_mem_nil, fun _ h => absurd h List.not_mem_nil, List.forall_mem_cons.mpr ⟨⟨Nat.le_of_ble_eq_true rfl, Nat.le_of_ble_eq_true rfl, cr_RX11_679⟩, List.forall_mem_cons.mpr ⟨⟨Nat.le_of_ble_eq_true rfl, Nat.le_of_ble_eq_true rfl, cr_RX11_160⟩, fun _ h => absurd h List.not_mem_nil⟩⟩⟩
set_option maxRecDepth 100000 in
theorem vc_X11_keep {K : Int32 → AH → Prop} {h : AH} (p1 : Int32) (p2 : Int32) (p3 : Int32) (p4 : Int32) (H : S_X11_isShelf p1 h (fun x2 h1 => ((x2 = 0) → K (iI (-1)) h1) ∧ (¬ (x2 = 0) → S_X11_isIn p2 (nI 0) (nI 1) h1 (fun x4 h3 => ((x4 = 0) → K (iI (-1)) h3) ∧ (¬ (x4 = 0) → ((¬ p2 = (nI 1)) → inR p1 8 ∧ inR p1 8 ∧ inR p1 8 ∧ K (nI 0) (wI (wI (wI h3 21 0 p1.toNatClampNeg p2) 21 1 p1.toNatClampNeg p3) 21 2 p1.toNatClampNeg p4)) ∧ (¬ (¬ p2 = (nI 1)) → S_X11_isIn p3 (nI 0) (nI 7) h3 (fun x6 h5 => ((x6 = 0) → K (iI (-1)) h5) ∧ (¬ (x6 = 0) → S_X11_isIn p4 (nI 0) (nI 9) h5 (fun x8 h7 => ((¬ x8 = 0) → inR p1 8 ∧ inR p1 8 ∧ inR p1 8 ∧ K (nI 0) (wI (wI (wI h7 21 0 p1.toNatClampNeg p2) 21 1 p1.toNatClampNeg p3) 21 2 p1.toNatClampNeg p4)) ∧ (¬ (¬ x8 = 0) → K (iI (-1)) h7)))))))))) : AW M_X11_keep (.inl K) 0 [some (aR 15 0), some (aI p1), some (aI p2), some (aI p3), some (aI p4)] [] h 0 0 := AW_go (cuts := []) ok_X11_keep 400 H

theorem MSh_kp {h : AH} {S : Sm} {m i : Nat} {k f : Int32} (hs : MSh h S) (hm : m < 8) (hi : i ≤ 1) (hk : i = 1 → k = nI (nN k) ∧ f = nI (nN f)) : MSh (wI (wI (wI h 21 0 m (nI i)) 21 1 m k) 21 2 m f) (uS (uS (uS S 0 m i) 1 m (nN k)) 2 m (nN f)) := by
  intro d hd
  unfold uS
  show uI (uI (uI h.1 21 0 m (nI i)) 21 1 m k) 21 2 m f 21 0 d = _ ∧ (_ → uI (uI (uI h.1 21 0 m (nI i)) 21 1 m k) 21 2 m f 21 1 d = _ ∧ uI (uI (uI h.1 21 0 m (nI i)) 21 1 m k) 21 2 m f 21 2 d = _) ∧ (_ → uI (uI (uI h.1 21 0 m (nI i)) 21 1 m k) 21 2 m f 21 3 d = _ ∧ uI (uI (uI h.1 21 0 m (nI i)) 21 1 m k) 21 2 m f 21 4 d = _ ∧ ∀ j, j < 100 → uI (uI (uI h.1 21 0 m (nI i)) 21 1 m k) 21 2 m f 22 0 (100 * d + j) = _)
  obtain ⟨a, b, c⟩ := hs d hd
  by_cases e : d = m
  · subst e
    simp only [uV, uI]
    simp
    refine ⟨fun q => ?_, fun q => by omega⟩
    obtain ⟨h1, h2⟩ := hk q
    exact ⟨h1, h2⟩
  · simp only [uV, uI]
    simp [e]
    exact ⟨a, b, c⟩
theorem snd_X11_keep (d w k f : Int32) {h : AH} {K : Int32 → AH → Prop} (kk : S_X11_keep d w k f h K) : AW M_X11_keep (.inl K) 0 [some (aR 15 0), some (aI d), some (aI w), some (aI k), some (aI f)] [] h 0 0 := by
  obtain ⟨S, hs, hw, kk⟩ := kk
  refine vc_X11_keep d w k f ?_
  unfold S_X11_isShelf S_X11_isIn
  simp only [if10_eq]
  unfold M_keep at kk
  refine ⟨fun q => ?_, fun q => ⟨fun q2 => ?_, fun q2 => ?_⟩⟩
  · rw [if_neg (fun z => q z.1)] at kk; exact kk h (onlyS_rfl h) hs
  · rw [if_neg (fun z => q2 z.2.1)] at kk; exact kk h (onlyS_rfl h) hs
  · have q := Decidable.not_not.mp q
    have q2 := Decidable.not_not.mp q2
    obtain ⟨m, hm, rfl⟩ := in8_iff.mp q
    obtain ⟨i, hi, rfl⟩ := (in_n (by omega)).mp q2
    have go : (nI i = nI 1 → (nI 0 ≤ k ∧ k ≤ nI 7) ∧ (nI 0 ≤ f ∧ f ≤ nI 9)) → K (nI 0) (wI (wI (wI h 21 0 m (nI i)) 21 1 m k) 21 2 m f) := by
      intro hq
      rw [if_pos ⟨q, q2, hq⟩] at kk
      unfold nN at kk
      rw [n_cl (show m < 2147483648 by omega), n_cl (show i < 2147483648 by omega)] at kk
      refine kk _ (onlyS_tr (onlyS_tr (onlyS_w (by omega)) (onlyS_w (by omega))) (onlyS_w (by omega))) (MSh_kp hs hm hi (fun e => ?_))
      obtain ⟨z1, z2⟩ := hq (by rw [e])
      obtain ⟨k', hk', rfl⟩ := (in_n (by omega)).mp z1
      obtain ⟨f', hf', rfl⟩ := (in_n (by omega)).mp z2
      unfold nN
      rw [n_cl (by omega), n_cl (by omega)]
      exact ⟨rfl, rfl⟩
    simp (disch := omega) only [n_inT, n_cl, true_and]
    refine ⟨fun q3 => go (fun z => absurd z q3), fun q3 => ⟨fun q4 => ?_, fun q4 => ⟨fun q5 => go (fun _ => ⟨Decidable.not_not.mp q4, Decidable.not_not.mp q5⟩), fun q5 => ?_⟩⟩⟩
    · rw [if_neg (fun z => q4 (z.2.2 (Decidable.not_not.mp q3)).1)] at kk; exact kk h (onlyS_rfl h) hs
    · rw [if_neg (fun z => q5 (fun y => y (z.2.2 (Decidable.not_not.mp q3)).2))] at kk; exact kk h (onlyS_rfl h) hs
theorem tr_X11_keep : ∀ (as : List AV) (h : AH) (K : Int32 → AH → Prop), T_X11_keep as h K → ∃ (q : Nat) (r : List AV), as = aR 15 q :: r := by
  intro as h K hk
  match as, hk with
  | [.inr (.inr (.inl q0)), .inl q1, .inl q2, .inl q3, .inl q4], hk =>
    obtain ⟨hb, hk⟩ := tif_inv hk
    simp only [Bool.and_eq_true] at hb
    obtain ⟨e0, e1⟩ := hb
    obtain ⟨a0, b0⟩ := q0
    have f0 : a0 = 15 := Nat.eq_of_beq_eq_true e0
    subst f0
    have f1 : b0 = 0 := Nat.eq_of_beq_eq_true e1
    subst f1
    exact ⟨_, _, rfl⟩
theorem tw_X11_keep : ∀ (as : List AV) (h : AH) (K : Int32 → AH → Prop), T_X11_keep as h K → (ini as).length ≤ mNL M_X11_keep ∧ AW M_X11_keep (.inl K) 0 (initL (mNL M_X11_keep) as) [] h 0 0 := by
  intro as h K hk
  match as, hk with
  | [.inr (.inr (.inl q0)), .inl q1, .inl q2, .inl q3, .inl q4], hk =>
    obtain ⟨hb, hk⟩ := tif_inv hk
    simp only [Bool.and_eq_true] at hb
    obtain ⟨e0, e1⟩ := hb
    obtain ⟨a0, b0⟩ := q0
    have f0 : a0 = 15 := Nat.eq_of_beq_eq_true e0
    subst f0
    have f1 : b0 = 0 := Nat.eq_of_beq_eq_true e1
    subst f1
    exact ⟨Nat.le_of_ble_eq_true rfl, snd_X11_keep q1 q2 q3 q4 hk⟩

def M_row (S : Sm) (d s n : Int32) : Int32 × Sm := if ¬ cel d ∨ ¬ (nI 0 ≤ s ∧ s ≤ nI 2) ∨ ¬ n ≤ nI 100 then (iI (-1), S) else if ¬ 0 ≤ n then (iI (-14), S) else (nI 0, (uV (uV (uV S.1 0 (nN d) 2) 3 (nN d) (nN s)) 4 (nN d) (nN n), fun a i => if a = nN d then nI 0 else S.2 a i))
def S_X11_row (d s n : Int32) (h : AH) (K : Int32 → AH → Prop) : Prop := ∃ S, MSh h S ∧ WS S ∧ ∀ h', onlyS h h' → MSh h' (M_row S d s n).2 → K (M_row S d s n).1 h'
def T_X11_row : List AV → AH → (Int32 → AH → Prop) → Prop := fun as h K => match as with
  | [.inr (.inr (.inl q0)), .inl q1, .inl q2, .inl q3] => tif (Nat.beq q0.1 15 && Nat.beq q0.2 0) (S_X11_row q1 q2 q3 h K)
  | _ => False

def M_X11_row : MI := (RX11, cX11_row, 5, [(0, .iload_n 1, []), (1, .invokestatic 226, []), (4, .ifCond .eq 18, [22]), (7, .iload_n 2, []), (8, .iconst 0, []), (9, .iconst 2, []), (10, .invokestatic 53, []), (13, .ifCond .eq 9, [22]), (16, .iload_n 3, []), (17, .bipush 100, []), (19, .if_icmp .le 5, [24]), (22, .iconst (-1), []), (23, .ireturn, []), (24, .iload_n 3, []), (25, .ifCond .ge 6, [31]), (28, .bipush (-14), []), (30, .ireturn, []), (31, .aload_n 0, []), (32, .getfield 35, []), (35, .iload_n 1, []), (36, .iconst 2, []), (37, .iastore, []), (38, .aload_n 0, []), (39, .getfield 44, []), (42, .iload_n 1, []), (43, .iload_n 2, []), (44, .iastore, []), (45, .aload_n 0, []), (46, .getfield 47, []), (49, .iload_n 1, []), (50, .iload_n 3, []), (51, .iastore, []), (52, .iconst 0, []), (53, .istore 4, []), (55, .iload 4, []), (57, .bipush 100, []), (59, .if_icmp .ge 22, [81]), (62, .aload_n 0, []), (63, .getfield 50, []), (66, .bipush 100, []), (68, .iload_n 1, []), (69, .imul, []), (70, .iload 4, []), (72, .iadd, []), (73, .iconst 0, []), (74, .iastore, []), (75, .iinc 4 1, []), (78, .goto (-23), [55]), (81, .iconst 0, []), (82, .ireturn, [])], [(35, (15, 16, 1, 21, 0)), (44, (15, 19, 1, 21, 3)), (47, (15, 20, 1, 21, 4)), (50, (15, 21, 1, 22, 0))], [], [], [(679, (1, 2, 42, 0, 0, .inl T_X11_isShelf)), (160, (3, 1, 22, 0, 0, .inl T_X11_isIn))], 2, 42, 0, 0)
theorem ok_X11_row : MOK M_X11_row := ⟨by decide +kernel, List.forall_mem_cons.mpr ⟨fl_RX11_35, List.forall_mem_cons.mpr ⟨fl_RX11_44, List.forall_mem_cons.mpr ⟨fl_RX11_47, List.forall_mem_cons.mpr ⟨fl_RX11_50, fun _ h => absurd h List.not_mem_nil⟩⟩⟩⟩, fun _ h => absurd h List.not_mem_nil, fun _ h => absurd h List.not_mem_nil, List.forall_mem_cons.mpr ⟨⟨Nat.le_of_ble_eq_true rfl, Nat.le_of_ble_eq_true rfl, cr_RX11_679⟩, List.forall_mem_cons.mpr ⟨⟨Nat.le_of_ble_eq_true rfl, Nat.le_of_ble_eq_true rfl, cr_RX11_160⟩, fun _ h => absurd h List.not_mem_nil⟩⟩⟩
set_option maxRecDepth 100000 in
theorem vc_X11_row {K : Int32 → AH → Prop} {h : AH} (p1 : Int32) (p2 : Int32) (p3 : Int32) (H : S_X11_isShelf p1 h (fun x2 h1 => ((x2 = 0) → K (iI (-1)) h1) ∧ (¬ (x2 = 0) → S_X11_isIn p2 (nI 0) (nI 2) h1 (fun x4 h3 => ((x4 = 0) → K (iI (-1)) h3) ∧ (¬ (x4 = 0) → ((p3 ≤ (nI 100)) → ((0 ≤ p3) → inR p1 8 ∧ inR p1 8 ∧ inR p1 8 ∧ AW M_X11_row (.inl K) 55 [some (aR 15 0), some (aI p1), none, none, some (aI (nI 0))] [] (wI (wI (wI h3 21 0 p1.toNatClampNeg (nI 2)) 21 3 p1.toNatClampNeg p2) 21 4 p1.toNatClampNeg p3) 0 0) ∧ (¬ (0 ≤ p3) → K (iI (-14)) h3)) ∧ (¬ (p3 ≤ (nI 100)) → K (iI (-1)) h3)))))) : AW M_X11_row (.inl K) 0 [some (aR 15 0), some (aI p1), some (aI p2), some (aI p3), none] [] h 0 0 := AW_go (cuts := [(55, [true, true, false, false, true])]) ok_X11_row 400 H
set_option maxRecDepth 100000 in
theorem vc_X11_row_55 {K : Int32 → AH → Prop} {h : AH}  (l1 : Int32) (l4 : Int32) (H : (((nI 100) ≤ l4) → K (nI 0) h) ∧ (¬ ((nI 100) ≤ l4) → inR (((nI 100) * l1) + l4) 800 ∧ AW M_X11_row (.inl K) 55 [some (aR 15 0), some (aI l1), none, none, some (aI (l4 + (nI 1)))] [] (wI h 22 0 (((nI 100) * l1) + l4).toNatClampNeg (nI 0)) 0 0)) : AW M_X11_row (.inl K) 55 [some (aR 15 0), some (aI l1), none, none, some (aI l4)] [] h 0 0 := AW_go (cuts := [(55, [true, true, false, false, true])]) ok_X11_row 400 H

theorem lp_X11_row {m : Nat} {h0 : AH} {K : Int32 → AH → Prop} (hm : m < 8) (k : ∀ h', h'.2 = h0.2 → (∀ a b i, ¬ (a = 22 ∧ b = 0 ∧ 100 * m ≤ i ∧ i < 100 * m + 100) → h'.1 a b i = h0.1 a b i) → (∀ i, i < 100 → h'.1 22 0 (100 * m + i) = nI 0) → K (nI 0) h') : ∀ r c h, c + r = 100 → h.2 = h0.2 → (∀ a b i, ¬ (a = 22 ∧ b = 0 ∧ 100 * m ≤ i ∧ i < 100 * m + 100) → h.1 a b i = h0.1 a b i) → (∀ i, i < c → h.1 22 0 (100 * m + i) = nI 0) → AW M_X11_row (.inl K) 55 [some (aR 15 0), some (aI (nI m)), none, none, some (aI (nI c))] [] h 0 0 := by
  intro r
  induction r with
  | zero =>
    intro c h hc h1 h2 h3
    refine vc_X11_row_55 (nI m) (nI c) ?_
    simp (disch := omega) only [n_le]
    exact ⟨fun _ => k h h1 h2 (fun i hi => h3 i (by omega)), fun q => absurd (by omega) q⟩
  | succ r ih =>
    intro c h hc h1 h2 h3
    refine vc_X11_row_55 (nI m) (nI c) ?_
    simp (disch := omega) only [n_le, pk_mul, nI_add, n_inT, n_cl, true_and]
    refine ⟨fun q => by omega, fun _ => ih (c + 1) _ (by omega) h1 (fun a b i q => ?_) (fun i hi => ?_)⟩
    · show uI h.1 22 0 (100 * m + c) (nI 0) a b i = _
      unfold uI
      rw [if_neg (fun z => q ⟨z.1, z.2.1, by omega, by omega⟩)]
      exact h2 a b i q
    · show uI h.1 22 0 (100 * m + c) (nI 0) 22 0 (100 * m + i) = _
      by_cases e : i = c
      · subst e; rw [uI_at]
      · rw [uI_ni (by omega)]; exact h3 i (by omega)
theorem snd_X11_row (d s n : Int32) {h : AH} {K : Int32 → AH → Prop} (k : S_X11_row d s n h K) : AW M_X11_row (.inl K) 0 [some (aR 15 0), some (aI d), some (aI s), some (aI n), none] [] h 0 0 := by
  obtain ⟨S, hs, hw, k⟩ := k
  refine vc_X11_row d s n ?_
  unfold S_X11_isShelf S_X11_isIn
  simp only [if10_eq]
  unfold M_row at k
  refine ⟨fun q => ?_, fun q => ⟨fun q2 => ?_, fun q2 => ⟨fun q3 => ⟨fun q4 => ?_, fun q4 => ?_⟩, fun q3 => ?_⟩⟩⟩
  · rw [if_pos (Or.inl q)] at k; exact k h (onlyS_rfl h) hs
  · rw [if_pos (Or.inr (Or.inl q2))] at k; exact k h (onlyS_rfl h) hs
  · have q := Decidable.not_not.mp q
    have q2 := Decidable.not_not.mp q2
    rw [if_neg (by rintro (z | z | z); exact z q; exact z q2; exact z q3), if_neg (fun z => z q4)] at k
    obtain ⟨m, hm, rfl⟩ := in8_iff.mp q
    obtain ⟨i, hi, rfl⟩ := (in_n (by omega)).mp q2
    obtain ⟨l, hl, rfl⟩ := (in_n (by omega)).mp ⟨q4, q3⟩
    unfold nN at k
    rw [n_cl (show m < 2147483648 by omega), n_cl (show i < 2147483648 by omega), n_cl (show l < 2147483648 by omega)] at k
    simp (disch := omega) only [n_inT, n_cl, true_and]
    refine lp_X11_row (h0 := wI (wI (wI h 21 0 m (nI 2)) 21 3 m (nI i)) 21 4 m (nI l)) hm (fun h' e1 e2 e3 => k h' ⟨e1, fun a b z1 z2 => ?_⟩ ?_) 100 0 _ (by omega) rfl (fun _ _ _ _ => rfl) (fun z hz => by omega)
    · funext j
      rw [e2 a b j (by omega)]
      show uI (uI (uI h.1 21 0 m (nI 2)) 21 3 m (nI i)) 21 4 m (nI l) a b j = _
      rw [uI_nt z1, uI_nt z1, uI_nt z1]
    · intro d hd
      obtain ⟨a, b, c⟩ := hs d hd
      have g21 : ∀ b j, h'.1 21 b j = uI (uI (uI h.1 21 0 m (nI 2)) 21 3 m (nI i)) 21 4 m (nI l) 21 b j := fun b j => e2 21 b j (by omega)
      rw [g21, g21, g21, g21, g21]
      by_cases e : d = m
      · subst e
        simp only [uV, uI]
        simp
        exact fun j hj => e3 j hj
      · simp only [uV, uI]
        simp [e]
        refine ⟨a, b, fun q => ⟨(c q).1, (c q).2.1, fun j hj => ?_⟩⟩
        rw [e2 22 0 _ (by omega)]
        show uI (uI (uI h.1 21 0 m (nI 2)) 21 3 m (nI i)) 21 4 m (nI l) 22 0 _ = _
        rw [uI_nt (by omega), uI_nt (by omega), uI_nt (by omega)]
        exact (c q).2.2 j hj
  · have q := Decidable.not_not.mp q
    have q2 := Decidable.not_not.mp q2
    rw [if_neg (by rintro (z | z | z); exact z q; exact z q2; exact z q3), if_pos q4] at k; exact k h (onlyS_rfl h) hs
  · rw [if_pos (Or.inr (Or.inr q3))] at k; exact k h (onlyS_rfl h) hs
theorem tr_X11_row : ∀ (as : List AV) (h : AH) (K : Int32 → AH → Prop), T_X11_row as h K → ∃ (q : Nat) (r : List AV), as = aR 15 q :: r := by
  intro as h K hk
  match as, hk with
  | [.inr (.inr (.inl q0)), .inl q1, .inl q2, .inl q3], hk =>
    obtain ⟨hb, hk⟩ := tif_inv hk
    simp only [Bool.and_eq_true] at hb
    obtain ⟨e0, e1⟩ := hb
    obtain ⟨a0, b0⟩ := q0
    have f0 : a0 = 15 := Nat.eq_of_beq_eq_true e0
    subst f0
    have f1 : b0 = 0 := Nat.eq_of_beq_eq_true e1
    subst f1
    exact ⟨_, _, rfl⟩
theorem tw_X11_row : ∀ (as : List AV) (h : AH) (K : Int32 → AH → Prop), T_X11_row as h K → (ini as).length ≤ mNL M_X11_row ∧ AW M_X11_row (.inl K) 0 (initL (mNL M_X11_row) as) [] h 0 0 := by
  intro as h K hk
  match as, hk with
  | [.inr (.inr (.inl q0)), .inl q1, .inl q2, .inl q3], hk =>
    obtain ⟨hb, hk⟩ := tif_inv hk
    simp only [Bool.and_eq_true] at hb
    obtain ⟨e0, e1⟩ := hb
    obtain ⟨a0, b0⟩ := q0
    have f0 : a0 = 15 := Nat.eq_of_beq_eq_true e0
    subst f0
    have f1 : b0 = 0 := Nat.eq_of_beq_eq_true e1
    subst f1
    exact ⟨Nat.le_of_ble_eq_true rfl, snd_X11_row q1 q2 q3 hk⟩


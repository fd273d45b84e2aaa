/-! ===== the reference: rows put, copied; costs, failures; sheep bought ===== -/
def cutS (s : Nat) (v : Int32) : Int32 := if s = 0 then v.toInt8.toInt32 else if s = 1 then v.toInt16.toInt32 else v
def uE (S : Sm) (d i : Nat) (x : Int32) : Sm := (S.1, fun a j => if a = d ∧ j = i then x else S.2 a j)
def M_put (S : Sm) (d i v : Int32) : Int32 × Sm := if rwR S d (iI (-1)) ≠ nI 0 then (rwR S d (iI (-1)), S) else if ¬ (nI 0 ≤ i ∧ i ≤ nI (S.1 4 (nN d)) - nI 1) then (iI (-13), S) else (nI 0, uE S (nN d) (nN i) (cutS (S.1 3 (nN d)) v))
def S_X11_put (d i v : Int32) (h : AH) (K : Int32 → AH → Prop) : Prop := ∃ S, MSh h S ∧ WS S ∧ ∀ h', onlyS h h' → MSh h' (M_put S d i v).2 → K (M_put S d i v).1 h'
def T_X11_put : List AV → AH → (Int32 → AH → Prop) → Prop := fun as h K => match as with
  | [.inr (.inr (.inl q0)), .inl q1, .inl q2, .inl q3] => tif (Nat.beq q0.1 15 && Nat.beq q0.2 0) (S_X11_put q1 q2 q3 h K)
  | _ => False

def M_X11_put : MI := (RX11, cX11_put, 5, [(0, .aload_n 0, []), (1, .iload_n 1, []), (2, .iconst (-1), []), (3, .invokevirtual 141, []), (6, .istore 4, []), (8, .iload 4, []), (10, .ifCond .eq 6, [16]), (13, .iload 4, []), (15, .ireturn, []), (16, .iload_n 2, []), (17, .iconst 0, []), (18, .aload_n 0, []), (19, .getfield 47, []), (22, .iload_n 1, []), (23, .iaload, []), (24, .iconst 1, []), (25, .isub, []), (26, .invokestatic 53, []), (29, .ifCond .ne 6, [35]), (32, .bipush (-13), []), (34, .ireturn, []), (35, .aload_n 0, []), (36, .getfield 50, []), (39, .bipush 100, []), (41, .iload_n 1, []), (42, .imul, []), (43, .iload_n 2, []), (44, .iadd, []), (45, .aload_n 0, []), (46, .getfield 44, []), (49, .iload_n 1, []), (50, .iaload, []), (51, .ifCond .ne 8, [59]), (54, .iload_n 3, []), (55, .i2b, []), (56, .goto 19, [75]), (59, .aload_n 0, []), (60, .getfield 44, []), (63, .iload_n 1, []), (64, .iaload, []), (65, .iconst 1, []), (66, .if_icmp .ne 8, [74]), (69, .iload_n 3, []), (70, .i2s, []), (71, .goto 4, [75]), (74, .iload_n 3, []), (75, .iastore, []), (76, .iconst 0, []), (77, .ireturn, [])], [(47, (15, 20, 1, 21, 4)), (50, (15, 21, 1, 22, 0)), (44, (15, 19, 1, 21, 3))], [], [], [(423, (3, 3, 64, 0, 0, .inl T_X11_wrongRow)), (160, (3, 1, 22, 0, 0, .inl T_X11_isIn))], 3, 64, 0, 0)
theorem ok_X11_put : MOK M_X11_put := ⟨by decide +kernel, List.forall_mem_cons.mpr ⟨fl_RX11_47, List.forall_mem_cons.mpr ⟨fl_RX11_50, List.forall_mem_cons.mpr ⟨fl_RX11_44, fun _ h => absurd h List.not_mem_nil⟩⟩⟩, fun _ h => absurd h List.not_mem_nil, fun _ h => absurd h List.not_mem_nil, List.forall_mem_cons.mpr ⟨⟨Nat.le_of_ble_eq_true rfl, Nat.le_of_ble_eq_true rfl, cr_RX11_423⟩, List.forall_mem_cons.mpr ⟨⟨Nat.le_of_ble_eq_true rfl, Nat.le_of_ble_eq_true rfl, cr_RX11_160⟩, fun _ h => absurd h List.not_mem_nil⟩⟩⟩
set_option maxRecDepth 100000 in
theorem vc_X11_put {K : Int32 → AH → Prop} {h : AH} (p1 : Int32) (p2 : Int32) (p3 : Int32) (H : S_X11_wrongRow p1 (iI (-1)) h (fun x2 h1 => ((x2 = 0) → inR p1 8 ∧ S_X11_isIn p2 (nI 0) ((h1.1 21 4 p1.toNatClampNeg) - (nI 1)) h1 (fun x4 h3 => ((¬ x4 = 0) → inR p1 8 ∧ ((¬ (h3.1 21 3 p1.toNatClampNeg) = 0) → inR p1 8 ∧ ((¬ (h3.1 21 3 p1.toNatClampNeg) = (nI 1)) → inR (((nI 100) * p1) + p2) 800 ∧ K (nI 0) (wI h3 22 0 (((nI 100) * p1) + p2).toNatClampNeg p3)) ∧ (¬ (¬ (h3.1 21 3 p1.toNatClampNeg) = (nI 1)) → inR (((nI 100) * p1) + p2) 800 ∧ K (nI 0) (wI h3 22 0 (((nI 100) * p1) + p2).toNatClampNeg p3.toInt16.toInt32))) ∧ (¬ (¬ (h3.1 21 3 p1.toNatClampNeg) = 0) → inR (((nI 100) * p1) + p2) 800 ∧ K (nI 0) (wI h3 22 0 (((nI 100) * p1) + p2).toNatClampNeg p3.toInt8.toInt32))) ∧ (¬ (¬ x4 = 0) → K (iI (-13)) h3))) ∧ (¬ (x2 = 0) → K x2 h1))) : AW M_X11_put (.inl K) 0 [some (aR 15 0), some (aI p1), some (aI p2), some (aI p3), none] [] h 0 0 := AW_go (cuts := []) ok_X11_put 400 H

theorem MSh_uE {h : AH} {S : Sm} {m i : Nat} {x : Int32} (hs : MSh h S) (hm : m < 8) (hi : i < 100) : MSh (wI h 22 0 (100 * m + i) x) (uE S m i x) := by
  intro d hd
  obtain ⟨a, b, c⟩ := hs d hd
  have g : ∀ b j, (wI h 22 0 (100 * m + i) x).1 21 b j = h.1 21 b j := fun b j => wI_nt (by omega)
  rw [g, g, g, g, g]
  refine ⟨a, b, fun q => ⟨(c q).1, (c q).2.1, fun j hj => ?_⟩⟩
  show uI h.1 22 0 (100 * m + i) x 22 0 (100 * d + j) = if d = m ∧ j = i then x else S.2 d j
  by_cases e : d = m ∧ j = i
  · rw [if_pos e, e.1, e.2, uI_at]
  · rw [if_neg e, uI_ni (by omega)]
    exact (c q).2.2 j hj
theorem snd_X11_put (d i v : Int32) {h : AH} {K : Int32 → AH → Prop} (k : S_X11_put d i v h K) : AW M_X11_put (.inl K) 0 [some (aR 15 0), some (aI d), some (aI i), some (aI v), none] [] h 0 0 := by
  obtain ⟨S, hs, hw, k⟩ := k
  refine vc_X11_put d i v ⟨S, hs, hw, ?_⟩
  unfold S_X11_isIn
  unfold M_put at k
  rcases rwR_cases hw d with ⟨m, hm, rfl, h2, e⟩ | e
  case inr =>
    rw [if_pos e] at k
    exact ⟨fun q => absurd q e, fun _ => k h (onlyS_rfl h) hs⟩
  refine ⟨fun _ => ?_, fun q => absurd e q⟩
  rw [if_neg (fun z => z e)] at k
  unfold nN at k
  rw [n_cl (show m < 2147483648 by omega)] at k
  obtain ⟨a, b, c⟩ := hs m hm
  obtain ⟨c1, c2, c3⟩ := c h2
  have hw3 := (hw m hm).2.2 h2
  simp (disch := omega) only [n_inT, n_cl, true_and, c1, c2, if10_eq, n_eq0, n_eq]
  refine ⟨fun q => ?_, fun q => ?_⟩
  · have q := Decidable.not_not.mp q
    rw [if_neg (fun z => z q)] at k
    obtain ⟨j, hj, rfl⟩ := (in_iff (by omega)).mp q
    rw [n_cl (show j < 2147483648 by omega)] at k
    simp (disch := omega) only [pk_mul, nI_add, n_inT, n_cl, true_and]
    have k2 := k _ (onlyS_w (h := h) (t := 22) (p := 0) (i := 100 * m + j) (x := cutS (S.1 3 m) v) (by omega)) (MSh_uE hs hm (by omega))
    unfold cutS at k2
    refine ⟨fun q1 => ⟨fun q2 => ?_, fun q2 => ?_⟩, fun q1 => ?_⟩
    · rw [if_neg q1, if_neg q2] at k2; exact k2
    · rw [if_neg q1, if_pos (Decidable.not_not.mp q2)] at k2; exact k2
    · rw [if_pos (Decidable.not_not.mp q1)] at k2; exact k2
  · rw [if_pos (fun z => q (fun y => y z))] at k; exact k h (onlyS_rfl h) hs
theorem tr_X11_put : ∀ (as : List AV) (h : AH) (K : Int32 → AH → Prop), T_X11_put as h K → ∃ (q : Nat) (r : List AV), as = aR 15 q :: r := by
  intro as h K hk
  match as, hk with
  | [.inr (.inr (.inl q0)), .inl q1, .inl q2, .inl q3], hk =>
    obtain ⟨hb, hk⟩ := tif_inv hk
    simp only [Bool.and_eq_true] at hb
    obtain ⟨e0, e1⟩ := hb
    obtain ⟨a0, b0⟩ := q0
    have f0 : a0 = 15 := Nat.eq_of_beq_eq_true e0
    subst f0
    have f1 : b0 = 0 := Nat.eq_of_beq_eq_true e1
    subst f1
    exact ⟨_, _, rfl⟩
theorem tw_X11_put : ∀ (as : List AV) (h : AH) (K : Int32 → AH → Prop), T_X11_put as h K → (ini as).length ≤ mNL M_X11_put ∧ AW M_X11_put (.inl K) 0 (initL (mNL M_X11_put) as) [] h 0 0 := by
  intro as h K hk
  match as, hk with
  | [.inr (.inr (.inl q0)), .inl q1, .inl q2, .inl q3], hk =>
    obtain ⟨hb, hk⟩ := tif_inv hk
    simp only [Bool.and_eq_true] at hb
    obtain ⟨e0, e1⟩ := hb
    obtain ⟨a0, b0⟩ := q0
    have f0 : a0 = 15 := Nat.eq_of_beq_eq_true e0
    subst f0
    have f1 : b0 = 0 := Nat.eq_of_beq_eq_true e1
    subst f1
    exact ⟨Nat.le_of_ble_eq_true rfl, snd_X11_put q1 q2 q3 hk⟩

def elT (S : Sm) (d i : Int32) : Nat := if ¬ cel d then 1 else if S.1 0 (nN d) ≠ 2 ∨ ¬ (nI 0 ≤ i ∧ i ≤ nI (S.1 4 (nN d)) - nI 1) then 2 else 0
def elV (S : Sm) (d i : Int32) : Int64 := if elT S d i = 0 then (S.2 (nN d) (nN i)).toInt64 else Int64.ofNat 0
def S_X11_element (d i : Int32) (h : AH) (K : Int64 → AH → Prop) : Prop := ∃ S, MSh h S ∧ WS S ∧ K (elV S d i) (wI h 15 0 22 (nI (elT S d i)))
def T_X11_element : List AV → AH → (Int64 → AH → Prop) → Prop := fun as h K => match as with
  | [.inr (.inr (.inl q0)), .inl q1, .inl q2] => tif (Nat.beq q0.1 15 && Nat.beq q0.2 0) (S_X11_element q1 q2 h K)
  | _ => False

def M_X11_element : MI := (RX11, cX11_element, 3, [(0, .aload_n 0, []), (1, .iload_n 1, []), (2, .invokestatic 226, []), (5, .ifCond .ne 7, [12]), (8, .iconst 1, []), (9, .goto 34, [43]), (12, .aload_n 0, []), (13, .getfield 35, []), (16, .iload_n 1, []), (17, .iaload, []), (18, .iconst 2, []), (19, .if_icmp .ne 19, [38]), (22, .iload_n 2, []), (23, .iconst 0, []), (24, .aload_n 0, []), (25, .getfield 47, []), (28, .iload_n 1, []), (29, .iaload, []), (30, .iconst 1, []), (31, .isub, []), (32, .invokestatic 53, []), (35, .ifCond .ne 7, [42]), (38, .iconst 2, []), (39, .goto 4, [43]), (42, .iconst 0, []), (43, .putfield 245, []), (46, .aload_n 0, []), (47, .getfield 245, []), (50, .ifCond .ne 18, [68]), (53, .aload_n 0, []), (54, .getfield 50, []), (57, .bipush 100, []), (59, .iload_n 1, []), (60, .imul, []), (61, .iload_n 2, []), (62, .iadd, []), (63, .iaload, []), (64, .i2l, []), (65, .goto 4, [69]), (68, .lconst 0, []), (69, .lreturn, [])], [(35, (15, 16, 1, 21, 0)), (47, (15, 20, 1, 21, 4)), (245, (15, 22, 0, 0, 0)), (50, (15, 21, 1, 22, 0))], [], [], [(679, (1, 2, 42, 0, 0, .inl T_X11_isShelf)), (160, (3, 1, 22, 0, 0, .inl T_X11_isIn))], 2, 42, 0, 0)
theorem ok_X11_element : MOK M_X11_element := ⟨by decide +kernel, List.forall_mem_cons.mpr ⟨fl_RX11_35, List.forall_mem_cons.mpr ⟨fl_RX11_47, List.forall_mem_cons.mpr ⟨fl_RX11_245, List.forall_mem_cons.mpr ⟨fl_RX11_50, fun _ h => absurd h List.not_mem_nil⟩⟩⟩⟩, fun _ h => absurd h List.not_mem_nil, fun _ h => absurd h List.not_mem_nil, List.forall_mem_cons.mpr ⟨⟨Nat.le_of_ble_eq_true rfl, Nat.le_of_ble_eq_true rfl, cr_RX11_679⟩, List.forall_mem_cons.mpr ⟨⟨Nat.le_of_ble_eq_true rfl, Nat.le_of_ble_eq_true rfl, cr_RX11_160⟩, fun _ h => absurd h List.not_mem_nil⟩⟩⟩
set_option maxRecDepth 100000 in
theorem vc_X11_element {K : Int64 → AH → Prop} {h : AH} (p1 : Int32) (p2 : Int32) (H : S_X11_isShelf p1 h (fun x2 h1 => ((¬ x2 = 0) → inR p1 8 ∧ ((¬ (h1.1 21 0 p1.toNatClampNeg) = (nI 2)) → ((¬ ((wI h1 15 0 22 (nI 2)).1 15 0 22) = 0) → K (Int64.ofNat 0) (wI h1 15 0 22 (nI 2))) ∧ (¬ (¬ ((wI h1 15 0 22 (nI 2)).1 15 0 22) = 0) → inR (((nI 100) * p1) + p2) 800 ∧ K (((wI h1 15 0 22 (nI 2)).1 22 0 (((nI 100) * p1) + p2).toNatClampNeg).toInt64) (wI h1 15 0 22 (nI 2)))) ∧ (¬ (¬ (h1.1 21 0 p1.toNatClampNeg) = (nI 2)) → inR p1 8 ∧ S_X11_isIn p2 (nI 0) ((h1.1 21 4 p1.toNatClampNeg) - (nI 1)) h1 (fun x4 h3 => ((¬ x4 = 0) → ((¬ ((wI h3 15 0 22 (nI 0)).1 15 0 22) = 0) → K (Int64.ofNat 0) (wI h3 15 0 22 (nI 0))) ∧ (¬ (¬ ((wI h3 15 0 22 (nI 0)).1 15 0 22) = 0) → inR (((nI 100) * p1) + p2) 800 ∧ K (((wI h3 15 0 22 (nI 0)).1 22 0 (((nI 100) * p1) + p2).toNatClampNeg).toInt64) (wI h3 15 0 22 (nI 0)))) ∧ (¬ (¬ x4 = 0) → ((¬ ((wI h3 15 0 22 (nI 2)).1 15 0 22) = 0) → K (Int64.ofNat 0) (wI h3 15 0 22 (nI 2))) ∧ (¬ (¬ ((wI h3 15 0 22 (nI 2)).1 15 0 22) = 0) → inR (((nI 100) * p1) + p2) 800 ∧ K (((wI h3 15 0 22 (nI 2)).1 22 0 (((nI 100) * p1) + p2).toNatClampNeg).toInt64) (wI h3 15 0 22 (nI 2))))))) ∧ (¬ (¬ x2 = 0) → ((¬ ((wI h1 15 0 22 (nI 1)).1 15 0 22) = 0) → K (Int64.ofNat 0) (wI h1 15 0 22 (nI 1))) ∧ (¬ (¬ ((wI h1 15 0 22 (nI 1)).1 15 0 22) = 0) → inR (((nI 100) * p1) + p2) 800 ∧ K (((wI h1 15 0 22 (nI 1)).1 22 0 (((nI 100) * p1) + p2).toNatClampNeg).toInt64) (wI h1 15 0 22 (nI 1)))))) : AW M_X11_element (.inr (.inr (.inl K))) 0 [some (aR 15 0), some (aI p1), some (aI p2)] [] h 0 0 := AW_go (cuts := []) ok_X11_element 400 H

theorem snd_X11_element (d i : Int32) {h : AH} {K : Int64 → AH → Prop} (k : S_X11_element d i h K) : AW M_X11_element (.inr (.inr (.inl K))) 0 [some (aR 15 0), some (aI d), some (aI i)] [] h 0 0 := by
  obtain ⟨S, hs, hw, k⟩ := k
  refine vc_X11_element d i ?_
  unfold S_X11_isIn S_X11_isShelf
  simp only [if10_eq, wI_at]
  refine ⟨fun q => ?_, fun q => ⟨fun _ => ?_, fun z => absurd (fun z2 => by cases z2) z⟩⟩
  · have q := Decidable.not_not.mp q
    obtain ⟨m, hm, rfl⟩ := in8_iff.mp q
    obtain ⟨a, b, c⟩ := hs m hm
    have hw1 := (hw m hm).1
    simp (disch := omega) only [n_inT, n_cl, true_and, a, n_eq]
    refine ⟨fun q1 => ⟨fun _ => ?_, fun z => absurd (fun z2 => by cases z2) z⟩, fun q1 => ?_⟩
    · have e : elT S (nI m) i = 2 := by unfold elT; rw [if_neg (fun z => z q)]; unfold nN; rw [n_cl (by omega), if_pos (Or.inl q1)]
      unfold elV at k
      rw [e, if_neg (by decide)] at k
      exact k
    · have q1 := Decidable.not_not.mp q1
      obtain ⟨c1, c2, c3⟩ := c q1
      rw [c2]
      have hw3 := (hw m hm).2.2 q1
      refine ⟨fun q2 => ⟨fun z => absurd rfl z, fun _ => ?_⟩, fun q2 => ⟨fun _ => ?_, fun z => absurd (fun z2 => by cases z2) z⟩⟩
      · have q2 := Decidable.not_not.mp q2
        have e : elT S (nI m) i = 0 := by unfold elT; rw [if_neg (fun z => z q)]; unfold nN; rw [n_cl (by omega), if_neg (by rintro (z | z); exact z q1; exact z q2)]
        obtain ⟨j, hj, rfl⟩ := (in_iff (by omega)).mp q2
        unfold elV at k
        rw [e, if_pos rfl] at k
        unfold nN at k
        rw [n_cl (by omega), n_cl (by omega)] at k
        simp (disch := omega) only [pk_mul, nI_add, n_inT, n_cl, true_and]
        rw [uI_nt (by omega), c3 j (by omega)]
        exact k
      · have e : elT S (nI m) i = 2 := by unfold elT; rw [if_neg (fun z => z q)]; unfold nN; rw [n_cl (by omega), if_pos (Or.inr (fun z => q2 (fun y => y z)))]
        unfold elV at k
        rw [e, if_neg (by decide)] at k
        exact k
  · have e : elT S d i = 1 := by unfold elT; rw [if_pos (fun z => q (fun y => y z))]
    unfold elV at k
    rw [e, if_neg (by decide)] at k
    exact k
theorem tr_X11_element : ∀ (as : List AV) (h : AH) (K : Int64 → AH → Prop), T_X11_element as h K → ∃ (q : Nat) (r : List AV), as = aR 15 q :: r := by
  intro as h K hk
  match as, hk with
  | [.inr (.inr (.inl q0)), .inl q1, .inl q2], hk =>
    obtain ⟨hb, hk⟩ := tif_inv hk
    simp only [Bool.and_eq_true] at hb
    obtain ⟨e0, e1⟩ := hb
    obtain ⟨a0, b0⟩ := q0
    have f0 : a0 = 15 := Nat.eq_of_beq_eq_true e0
    subst f0
    have f1 : b0 = 0 := Nat.eq_of_beq_eq_true e1
    subst f1
    exact ⟨_, _, rfl⟩
theorem tw_X11_element : ∀ (as : List AV) (h : AH) (K : Int64 → AH → Prop), T_X11_element as h K → (ini as).length ≤ mNL M_X11_element ∧ AW M_X11_element (.inr (.inr (.inl K))) 0 (initL (mNL M_X11_element) as) [] h 0 0 := by
  intro as h K hk
  match as, hk with
  | [.inr (.inr (.inl q0)), .inl q1, .inl q2], hk =>
    obtain ⟨hb, hk⟩ := tif_inv hk
    simp only [Bool.and_eq_true] at hb
    obtain ⟨e0, e1⟩ := hb
    obtain ⟨a0, b0⟩ := q0
    have f0 : a0 = 15 := Nat.eq_of_beq_eq_true e0
    subst f0
    have f1 : b0 = 0 := Nat.eq_of_beq_eq_true e1
    subst f1
    exact ⟨Nat.le_of_ble_eq_true rfl, snd_X11_element q1 q2 hk⟩

def S_X11_thrown (h : AH) (K : Int32 → AH → Prop) : Prop := K (h.1 15 0 22) h
def T_X11_thrown : List AV → AH → (Int32 → AH → Prop) → Prop := fun as h K => match as with
  | [.inr (.inr (.inl q0))] => tif (Nat.beq q0.1 15 && Nat.beq q0.2 0) (S_X11_thrown h K)
  | _ => False

def M_X11_thrown : MI := (RX11, cX11_thrown, 1, [(0, .aload_n 0, []), (1, .getfield 245, []), (4, .ireturn, [])], [(245, (15, 22, 0, 0, 0))], [], [], [], 0, 0, 0, 0)
theorem ok_X11_thrown : MOK M_X11_thrown := ⟨by decide +kernel, List.forall_mem_cons.mpr ⟨fl_RX11_245, fun _ h => absurd h List.not_mem_nil⟩, fun _ h => absurd h List.not_mem_nil, fun _ h => absurd h List.not_mem_nil, fun _ h => absurd h List.not_mem_nil⟩
set_option maxRecDepth 100000 in
theorem vc_X11_thrown {K : Int32 → AH → Prop} {h : AH}  (H : K (h.1 15 0 22) h) : AW M_X11_thrown (.inl K) 0 [some (aR 15 0)] [] h 0 0 := AW_go (cuts := []) ok_X11_thrown 400 H

theorem snd_X11_thrown {h : AH} {K : Int32 → AH → Prop} (k : S_X11_thrown h K) : AW M_X11_thrown (.inl K) 0 [some (aR 15 0)] [] h 0 0 := vc_X11_thrown k
theorem tr_X11_thrown : ∀ (as : List AV) (h : AH) (K : Int32 → AH → Prop), T_X11_thrown as h K → ∃ (q : Nat) (r : List AV), as = aR 15 q :: r := by
  intro as h K hk
  match as, hk with
  | [.inr (.inr (.inl q0))], hk =>
    obtain ⟨hb, hk⟩ := tif_inv hk
    simp only [Bool.and_eq_true] at hb
    obtain ⟨e0, e1⟩ := hb
    obtain ⟨a0, b0⟩ := q0
    have f0 : a0 = 15 := Nat.eq_of_beq_eq_true e0
    subst f0
    have f1 : b0 = 0 := Nat.eq_of_beq_eq_true e1
    subst f1
    exact ⟨_, _, rfl⟩
theorem tw_X11_thrown : ∀ (as : List AV) (h : AH) (K : Int32 → AH → Prop), T_X11_thrown as h K → (ini as).length ≤ mNL M_X11_thrown ∧ AW M_X11_thrown (.inl K) 0 (initL (mNL M_X11_thrown) as) [] h 0 0 := by
  intro as h K hk
  match as, hk with
  | [.inr (.inr (.inl q0))], hk =>
    obtain ⟨hb, hk⟩ := tif_inv hk
    simp only [Bool.and_eq_true] at hb
    obtain ⟨e0, e1⟩ := hb
    obtain ⟨a0, b0⟩ := q0
    have f0 : a0 = 15 := Nat.eq_of_beq_eq_true e0
    subst f0
    have f1 : b0 = 0 := Nat.eq_of_beq_eq_true e1
    subst f1
    exact ⟨Nat.le_of_ble_eq_true rfl, snd_X11_thrown  hk⟩

def S_X11_costBy (k f : Int32) (h : AH) (K : Int32 → AH → Prop) : Prop := ∃ i j, i ≤ 7 ∧ j ≤ 9 ∧ k = nI i ∧ f = nI j ∧ K (nI (cstk i j)) h
def T_X11_costBy : List AV → AH → (Int32 → AH → Prop) → Prop := fun as h K => match as with
  | [.inl q0, .inl q1] => S_X11_costBy q0 q1 h K
  | _ => False

def M_X11_costBy : MI := (RX11, cX11_costBy, 2, [(0, .iload_n 0, []), (1, .tableswitch 65 1 7 #[43, 45, 49, 56, 59, 63, 63], [66, 44, 46, 50, 57, 60, 64, 64]), (44, .iconst 2, []), (45, .ireturn, []), (46, .iconst 3, []), (47, .iload_n 1, []), (48, .iadd, []), (49, .ireturn, []), (50, .bipush 6, []), (52, .iconst 2, []), (53, .iload_n 1, []), (54, .imul, []), (55, .iadd, []), (56, .ireturn, []), (57, .bipush 6, []), (59, .ireturn, []), (60, .iconst 4, []), (61, .iload_n 1, []), (62, .iadd, []), (63, .ireturn, []), (64, .iconst 1, []), (65, .ireturn, []), (66, .iconst 3, []), (67, .ireturn, [])], [], [], [], [], 0, 0, 0, 0)
theorem ok_X11_costBy : MOK M_X11_costBy := ⟨by decide +kernel, fun _ h => absurd h List.not_mem_nil, fun _ h => absurd h List.not_mem_nil, fun _ h => absurd h List.not_mem_nil, fun _ h => absurd h List.not_mem_nil⟩
set_option maxRecDepth 100000 in
theorem vc_X11_costBy {K : Int32 → AH → Prop} {h : AH} (p0 : Int32) (p1 : Int32) (H : (p0.toInt < 1 ∨ 7 < p0.toInt → K (nI 3) h) ∧ (p0 = nI 1 → K (nI 2) h) ∧ (p0 = nI 2 → K ((nI 3) + p1) h) ∧ (p0 = nI 3 → K ((nI 6) + ((nI 2) * p1)) h) ∧ (p0 = nI 4 → K (nI 6) h) ∧ (p0 = nI 5 → K ((nI 4) + p1) h) ∧ (p0 = nI 6 → K (nI 1) h) ∧ (p0 = nI 7 → K (nI 1) h) ∧ True) : AW M_X11_costBy (.inl K) 0 [some (aI p0), some (aI p1)] [] h 0 0 := AW_go (cuts := []) ok_X11_costBy 400 H

theorem snd_X11_costBy (k f : Int32) {h : AH} {K : Int32 → AH → Prop} (kk : S_X11_costBy k f h K) : AW M_X11_costBy (.inl K) 0 [some (aI k), some (aI f)] [] h 0 0 := by
  obtain ⟨i, j, hi, hj, rfl, rfl, kk⟩ := kk
  refine vc_X11_costBy (nI i) (nI j) ?_
  unfold cstk at kk
  simp (disch := omega) only [n_toInt, n_eq, nI_add, pk_mul]
  grind
theorem tw_X11_costBy : ∀ (as : List AV) (h : AH) (K : Int32 → AH → Prop), T_X11_costBy as h K → (ini as).length ≤ mNL M_X11_costBy ∧ AW M_X11_costBy (.inl K) 0 (initL (mNL M_X11_costBy) as) [] h 0 0 := by
  intro as h K hk
  match as, hk with
  | [.inl q0, .inl q1], hk =>
    exact ⟨Nat.le_of_ble_eq_true rfl, snd_X11_costBy q0 q1 hk⟩
theorem cr_RX11_745 : CR RX11 (kIns 745) (2, 1, 21, 0, 0, .inl T_X11_costBy) := crS_i (M := M_X11_costBy) (by decide) rfl (inG (i := 1325) (w := Cond.methodLink RX11 248 yX11_costBy) (by decide +kernel) rfl) (inG (i := 1326) (w := Cond.static yX11_costBy) (by decide +kernel) rfl) (inG (i := 40) (w := Cond.initialized RX11) (by decide +kernel) rfl) (inG (i := 1327) (w := Cond.code yX11_costBy cX11_costBy 2 (some .int)) (by decide +kernel) rfl) ⟨by decide +kernel, by decide +kernel, by decide +kernel⟩ tw_X11_costBy

def R_cost (S : Sm) (d : Int32) : Int32 := if rwK S d ≠ nI 0 then rwK S d else nI (cstk (S.1 1 (nN d)) (S.1 2 (nN d)))
def S_X11_cost (d : Int32) (h : AH) (K : Int32 → AH → Prop) : Prop := ∃ S, MSh h S ∧ WS S ∧ K (R_cost S d) h
def T_X11_cost : List AV → AH → (Int32 → AH → Prop) → Prop := fun as h K => match as with
  | [.inr (.inr (.inl q0)), .inl q1] => tif (Nat.beq q0.1 15 && Nat.beq q0.2 0) (S_X11_cost q1 h K)
  | _ => False

def M_X11_cost : MI := (RX11, cX11_cost, 3, [(0, .aload_n 0, []), (1, .iload_n 1, []), (2, .invokevirtual 161, []), (5, .istore_n 2, []), (6, .iload_n 2, []), (7, .ifCond .eq 7, [14]), (10, .iload_n 2, []), (11, .goto 18, [29]), (14, .aload_n 0, []), (15, .getfield 38, []), (18, .iload_n 1, []), (19, .iaload, []), (20, .aload_n 0, []), (21, .getfield 41, []), (24, .iload_n 1, []), (25, .iaload, []), (26, .invokestatic 248, []), (29, .ireturn, [])], [(38, (15, 17, 1, 21, 1)), (41, (15, 18, 1, 21, 2))], [], [], [(483, (2, 3, 63, 0, 0, .inl T_X11_wrongKept)), (745, (2, 1, 21, 0, 0, .inl T_X11_costBy))], 3, 63, 0, 0)
theorem ok_X11_cost : MOK M_X11_cost := ⟨by decide +kernel, List.forall_mem_cons.mpr ⟨fl_RX11_38, List.forall_mem_cons.mpr ⟨fl_RX11_41, fun _ h => absurd h List.not_mem_nil⟩⟩, fun _ h => absurd h List.not_mem_nil, fun _ h => absurd h List.not_mem_nil, List.forall_mem_cons.mpr ⟨⟨Nat.le_of_ble_eq_true rfl, Nat.le_of_ble_eq_true rfl, cr_RX11_483⟩, List.forall_mem_cons.mpr ⟨⟨Nat.le_of_ble_eq_true rfl, Nat.le_of_ble_eq_true rfl, cr_RX11_745⟩, fun _ h => absurd h List.not_mem_nil⟩⟩⟩
set_option maxRecDepth 100000 in
theorem vc_X11_cost {K : Int32 → AH → Prop} {h : AH} (p1 : Int32) (H : S_X11_wrongKept p1 h (fun x2 h1 => ((x2 = 0) → inR p1 8 ∧ inR p1 8 ∧ S_X11_costBy (h1.1 21 1 p1.toNatClampNeg) (h1.1 21 2 p1.toNatClampNeg) h1 (fun x4 h3 => K x4 h3)) ∧ (¬ (x2 = 0) → K x2 h1))) : AW M_X11_cost (.inl K) 0 [some (aR 15 0), some (aI p1), none] [] h 0 0 := AW_go (cuts := []) ok_X11_cost 400 H

theorem snd_X11_cost (d : Int32) {h : AH} {K : Int32 → AH → Prop} (k : S_X11_cost d h K) : AW M_X11_cost (.inl K) 0 [some (aR 15 0), some (aI d), none] [] h 0 0 := by
  obtain ⟨S, hs, hw, k⟩ := k
  refine vc_X11_cost d ⟨S, hs, hw, ?_⟩
  unfold R_cost at k
  rcases rwK_cases hw d with ⟨m, hm, rfl, h2, e⟩ | e
  case inr =>
    rw [if_pos e] at k
    exact ⟨fun q => absurd q e, fun _ => k⟩
  refine ⟨fun _ => ?_, fun q => absurd e q⟩
  rw [if_neg (fun z => z e)] at k
  unfold nN at k
  rw [n_cl (show m < 2147483648 by omega)] at k
  obtain ⟨a, b, c⟩ := hs m hm
  obtain ⟨b1, b2⟩ := b h2
  have hb := (hw m hm).2.1 h2
  simp (disch := omega) only [n_inT, n_cl, true_and, b1, b2]
  exact ⟨_, _, hb.1, hb.2, rfl, rfl, k⟩
theorem tr_X11_cost : ∀ (as : List AV) (h : AH) (K : Int32 → AH → Prop), T_X11_cost as h K → ∃ (q : Nat) (r : List AV), as = aR 15 q :: r := by
  intro as h K hk
  match as, hk with
  | [.inr (.inr (.inl q0)), .inl q1], hk =>
    obtain ⟨hb, hk⟩ := tif_inv hk
    simp only [Bool.and_eq_true] at hb
    obtain ⟨e0, e1⟩ := hb
    obtain ⟨a0, b0⟩ := q0
    have f0 : a0 = 15 := Nat.eq_of_beq_eq_true e0
    subst f0
    have f1 : b0 = 0 := Nat.eq_of_beq_eq_true e1
    subst f1
    exact ⟨_, _, rfl⟩
theorem tw_X11_cost : ∀ (as : List AV) (h : AH) (K : Int32 → AH → Prop), T_X11_cost as h K → (ini as).length ≤ mNL M_X11_cost ∧ AW M_X11_cost (.inl K) 0 (initL (mNL M_X11_cost) as) [] h 0 0 := by
  intro as h K hk
  match as, hk with
  | [.inr (.inr (.inl q0)), .inl q1], hk =>
    obtain ⟨hb, hk⟩ := tif_inv hk
    simp only [Bool.and_eq_true] at hb
    obtain ⟨e0, e1⟩ := hb
    obtain ⟨a0, b0⟩ := q0
    have f0 : a0 = 15 := Nat.eq_of_beq_eq_true e0
    subst f0
    have f1 : b0 = 0 := Nat.eq_of_beq_eq_true e1
    subst f1
    exact ⟨Nat.le_of_ble_eq_true rfl, snd_X11_cost q1 hk⟩

def R_toss (S : Sm) (d : Int32) : Int32 := if rwK S d ≠ nI 0 then rwK S d else if S.1 1 (nN d) = 7 ∨ S.1 2 (nN d) = 0 then iI (-15) else if S.1 1 (nN d) = 3 then nI (200 + cstk (S.1 1 (nN d)) (S.1 2 (nN d))) else if S.1 1 (nN d) = 2 ∨ S.1 1 (nN d) = 5 then nI (100 + S.1 2 (nN d)) else nI (S.1 2 (nN d))
def S_X11_toss (d : Int32) (h : AH) (K : Int32 → AH → Prop) : Prop := ∃ S, MSh h S ∧ WS S ∧ K (R_toss S d) h
def T_X11_toss : List AV → AH → (Int32 → AH → Prop) → Prop := fun as h K => match as with
  | [.inr (.inr (.inl q0)), .inl q1] => tif (Nat.beq q0.1 15 && Nat.beq q0.2 0) (S_X11_toss q1 h K)
  | _ => False

def M_X11_toss : MI := (RX11, cX11_toss, 5, [(0, .aload_n 0, []), (1, .iload_n 1, []), (2, .invokevirtual 161, []), (5, .istore_n 2, []), (6, .iload_n 2, []), (7, .ifCond .eq 5, [12]), (10, .iload_n 2, []), (11, .ireturn, []), (12, .aload_n 0, []), (13, .getfield 38, []), (16, .iload_n 1, []), (17, .iaload, []), (18, .istore_n 3, []), (19, .aload_n 0, []), (20, .getfield 41, []), (23, .iload_n 1, []), (24, .iaload, []), (25, .istore 4, []), (27, .iload_n 3, []), (28, .bipush 7, []), (30, .if_icmp .eq 8, [38]), (33, .iload 4, []), (35, .ifCond .ne 6, [41]), (38, .bipush (-15), []), (40, .ireturn, []), (41, .iload_n 3, []), (42, .iconst 3, []), (43, .if_icmp .ne 16, [59]), (46, .sipush 200, []), (49, .iload_n 3, []), (50, .iload 4, []), (52, .invokestatic 248, []), (55, .iadd, []), (56, .goto 23, [79]), (59, .iload_n 3, []), (60, .iconst 2, []), (61, .if_icmp .eq 8, [69]), (64, .iload_n 3, []), (65, .iconst 5, []), (66, .if_icmp .ne 11, [77]), (69, .bipush 100, []), (71, .iload 4, []), (73, .iadd, []), (74, .goto 5, [79]), (77, .iload 4, []), (79, .ireturn, [])], [(38, (15, 17, 1, 21, 1)), (41, (15, 18, 1, 21, 2))], [], [], [(483, (2, 3, 63, 0, 0, .inl T_X11_wrongKept)), (745, (2, 1, 21, 0, 0, .inl T_X11_costBy))], 3, 63, 0, 0)
theorem ok_X11_toss : MOK M_X11_toss := ⟨by decide +kernel, List.forall_mem_cons.mpr ⟨fl_RX11_38, List.forall_mem_cons.mpr ⟨fl_RX11_41, fun _ h => absurd h List.not_mem_nil⟩⟩, fun _ h => absurd h List.not_mem_nil, fun _ h => absurd h List.not_mem_nil, List.forall_mem_cons.mpr ⟨⟨Nat.le_of_ble_eq_true rfl, Nat.le_of_ble_eq_true rfl, cr_RX11_483⟩, List.forall_mem_cons.mpr ⟨⟨Nat.le_of_ble_eq_true rfl, Nat.le_of_ble_eq_true rfl, cr_RX11_745⟩, fun _ h => absurd h List.not_mem_nil⟩⟩⟩
set_option maxRecDepth 100000 in
theorem vc_X11_toss {K : Int32 → AH → Prop} {h : AH} (p1 : Int32) (H : S_X11_wrongKept p1 h (fun x2 h1 => ((x2 = 0) → inR p1 8 ∧ inR p1 8 ∧ (((h1.1 21 1 p1.toNatClampNeg) = (nI 7)) → K (iI (-15)) h1) ∧ (¬ ((h1.1 21 1 p1.toNatClampNeg) = (nI 7)) → ((¬ (h1.1 21 2 p1.toNatClampNeg) = 0) → ((¬ (h1.1 21 1 p1.toNatClampNeg) = (nI 3)) → (((h1.1 21 1 p1.toNatClampNeg) = (nI 2)) → K ((nI 100) + (h1.1 21 2 p1.toNatClampNeg)) h1) ∧ (¬ ((h1.1 21 1 p1.toNatClampNeg) = (nI 2)) → ((¬ (h1.1 21 1 p1.toNatClampNeg) = (nI 5)) → K (h1.1 21 2 p1.toNatClampNeg) h1) ∧ (¬ (¬ (h1.1 21 1 p1.toNatClampNeg) = (nI 5)) → K ((nI 100) + (h1.1 21 2 p1.toNatClampNeg)) h1))) ∧ (¬ (¬ (h1.1 21 1 p1.toNatClampNeg) = (nI 3)) → S_X11_costBy (h1.1 21 1 p1.toNatClampNeg) (h1.1 21 2 p1.toNatClampNeg) h1 (fun x4 h3 => K ((nI 200) + x4) h3))) ∧ (¬ (¬ (h1.1 21 2 p1.toNatClampNeg) = 0) → K (iI (-15)) h1))) ∧ (¬ (x2 = 0) → K x2 h1))) : AW M_X11_toss (.inl K) 0 [some (aR 15 0), some (aI p1), none, none, none] [] h 0 0 := AW_go (cuts := []) ok_X11_toss 400 H

theorem snd_X11_toss (d : Int32) {h : AH} {K : Int32 → AH → Prop} (k : S_X11_toss d h K) : AW M_X11_toss (.inl K) 0 [some (aR 15 0), some (aI d), none, none, none] [] h 0 0 := by
  obtain ⟨S, hs, hw, k⟩ := k
  refine vc_X11_toss d ⟨S, hs, hw, ?_⟩
  unfold R_toss at k
  rcases rwK_cases hw d with ⟨m, hm, rfl, h2, e⟩ | e
  case inr =>
    rw [if_pos e] at k
    exact ⟨fun q => absurd q e, fun _ => k⟩
  refine ⟨fun _ => ?_, fun q => absurd e q⟩
  rw [if_neg (fun z => z e)] at k
  unfold nN at k
  rw [n_cl (show m < 2147483648 by omega)] at k
  obtain ⟨a, b, c⟩ := hs m hm
  obtain ⟨b1, b2⟩ := b h2
  have hb := (hw m hm).2.1 h2
  simp (disch := omega) only [n_inT, n_cl, true_and, b1, b2, n_eq, n_eq0, nI_add]
  refine ⟨fun q1 => ?_, fun q1 => ⟨fun q2 => ⟨fun q3 => ⟨fun q4 => ?_, fun q4 => ⟨fun q5 => ?_, fun q5 => ?_⟩⟩, fun q3 => ⟨_, _, hb.1, hb.2, rfl, rfl, ?_⟩⟩, fun q2 => ?_⟩⟩
  · rw [if_pos (Or.inl q1)] at k; exact k
  · rw [if_neg (by rintro (z | z); exact q1 z; exact q2 z), if_neg q3, if_pos (Or.inl q4)] at k; exact k
  · rw [if_neg (by rintro (z | z); exact q1 z; exact q2 z), if_neg q3, if_neg (by rintro (z | z); exact q4 z; exact q5 z)] at k; exact k
  · rw [if_neg (by rintro (z | z); exact q1 z; exact q2 z), if_neg q3, if_pos (Or.inr (Decidable.not_not.mp q5))] at k; exact k
  · rw [if_neg (by rintro (z | z); exact q1 z; exact q2 z), if_pos (Decidable.not_not.mp q3)] at k
    rw [nI_add]
    exact k
  · rw [if_pos (Or.inr (Decidable.not_not.mp q2))] at k; exact k
theorem tr_X11_toss : ∀ (as : List AV) (h : AH) (K : Int32 → AH → Prop), T_X11_toss as h K → ∃ (q : Nat) (r : List AV), as = aR 15 q :: r := by
  intro as h K hk
  match as, hk with
  | [.inr (.inr (.inl q0)), .inl q1], hk =>
    obtain ⟨hb, hk⟩ := tif_inv hk
    simp only [Bool.and_eq_true] at hb
    obtain ⟨e0, e1⟩ := hb
    obtain ⟨a0, b0⟩ := q0
    have f0 : a0 = 15 := Nat.eq_of_beq_eq_true e0
    subst f0
    have f1 : b0 = 0 := Nat.eq_of_beq_eq_true e1
    subst f1
    exact ⟨_, _, rfl⟩
theorem tw_X11_toss : ∀ (as : List AV) (h : AH) (K : Int32 → AH → Prop), T_X11_toss as h K → (ini as).length ≤ mNL M_X11_toss ∧ AW M_X11_toss (.inl K) 0 (initL (mNL M_X11_toss) as) [] h 0 0 := by
  intro as h K hk
  match as, hk with
  | [.inr (.inr (.inl q0)), .inl q1], hk =>
    obtain ⟨hb, hk⟩ := tif_inv hk
    simp only [Bool.and_eq_true] at hb
    obtain ⟨e0, e1⟩ := hb
    obtain ⟨a0, b0⟩ := q0
    have f0 : a0 = 15 := Nat.eq_of_beq_eq_true e0
    subst f0
    have f1 : b0 = 0 := Nat.eq_of_beq_eq_true e1
    subst f1
    exact ⟨Nat.le_of_ble_eq_true rfl, snd_X11_toss q1 hk⟩

def adS (V : Vm) (i j : Nat) : Vm := uV (uV (uV V 8 (V 10 1) i) 9 (V 10 1) j) 10 1 (V 10 1 + 1)
theorem RV_add {h : AH} {V : Vm} {i j : Nat} (hw : WF V) (hr : RV (h.1 16 0) V) (h7 : V 10 1 < 7) : RV ((wI (wI (wI h 16 0 (48 + 2 * V 10 1) (nI i)) 16 0 (48 + 2 * V 10 1 + 1) (nI j)) 16 0 1 (nI (V 10 1 + 1))).1 16 0) (adS V i j) := by
  have h4 := hw.1
  have l0 : adS V i j 10 0 = V 10 0 := by unfold adS; rw [uV_ne (by omega), uV_ne (by omega), uV_ne (by omega)]
  have l1 : adS V i j 10 1 = V 10 1 + 1 := by unfold adS; rw [uV_at]
  intro t k hk
  show uI (uI (uI h.1 16 0 (48 + 2 * V 10 1) (nI i)) 16 0 (48 + 2 * V 10 1 + 1) (nI j)) 16 0 1 (nI (V 10 1 + 1)) 16 0 (ro t k) = _
  have ht : t ≤ 10 := by
    rcases Nat.lt_or_ge 10 t with h | h
    · unfold vLim at hk; split at hk <;> omega
    · exact h
  match t, ht with
  | 0, _ =>
    have hk2 : k < vLim V 0 := by simp only [vLim, l0, l1] at hk ⊢; omega
    have hlt := hk2
    simp only [vLim] at hlt
    have e := hr 0 k hk2
    simp only [ro] at e ⊢
    rw [uI_ni (by omega), uI_ni (by omega), uI_ni (by omega), e]
    unfold adS
    rw [uV_ne (by omega), uV_ne (by omega), uV_ne (by omega)]
  | 1, _ =>
    have hk2 : k < vLim V 1 := by simp only [vLim, l0, l1] at hk ⊢; omega
    have hlt := hk2
    simp only [vLim] at hlt
    have e := hr 1 k hk2
    simp only [ro] at e ⊢
    rw [uI_ni (by omega), uI_ni (by omega), uI_ni (by omega), e]
    unfold adS
    rw [uV_ne (by omega), uV_ne (by omega), uV_ne (by omega)]
  | 2, _ =>
    have hk2 : k < vLim V 2 := by simp only [vLim, l0, l1] at hk ⊢; omega
    have hlt := hk2
    simp only [vLim] at hlt
    have e := hr 2 k hk2
    simp only [ro] at e ⊢
    rw [uI_ni (by omega), uI_ni (by omega), uI_ni (by omega), e]
    unfold adS
    rw [uV_ne (by omega), uV_ne (by omega), uV_ne (by omega)]
  | 3, _ =>
    have hk2 : k < vLim V 3 := by simp only [vLim, l0, l1] at hk ⊢; omega
    have hlt := hk2
    simp only [vLim] at hlt
    have e := hr 3 k hk2
    simp only [ro] at e ⊢
    rw [uI_ni (by omega), uI_ni (by omega), uI_ni (by omega), e]
    unfold adS
    rw [uV_ne (by omega), uV_ne (by omega), uV_ne (by omega)]
  | 4, _ =>
    have hk2 : k < vLim V 4 := by simp only [vLim, l0, l1] at hk ⊢; omega
    have hlt := hk2
    simp only [vLim] at hlt
    have e := hr 4 k hk2
    simp only [ro] at e ⊢
    rw [uI_ni (by omega), uI_ni (by omega), uI_ni (by omega), e]
    unfold adS
    rw [uV_ne (by omega), uV_ne (by omega), uV_ne (by omega)]
  | 5, _ =>
    have hk2 : k < vLim V 5 := by simp only [vLim, l0, l1] at hk ⊢; omega
    have hlt := hk2
    simp only [vLim] at hlt
    have e := hr 5 k hk2
    simp only [ro] at e ⊢
    rw [uI_ni (by omega), uI_ni (by omega), uI_ni (by omega), e]
    unfold adS
    rw [uV_ne (by omega), uV_ne (by omega), uV_ne (by omega)]
  | 6, _ =>
    have hk2 : k < vLim V 6 := by simp only [vLim, l0, l1] at hk ⊢; omega
    have hlt := hk2
    simp only [vLim] at hlt
    have e := hr 6 k hk2
    simp only [ro] at e ⊢
    rw [uI_ni (by omega), uI_ni (by omega), uI_ni (by omega), e]
    unfold adS
    rw [uV_ne (by omega), uV_ne (by omega), uV_ne (by omega)]
  | 7, _ =>
    have hk2 : k < vLim V 7 := by simp only [vLim, l0, l1] at hk ⊢; omega
    have hlt := hk2
    simp only [vLim] at hlt
    have e := hr 7 k hk2
    simp only [ro] at e ⊢
    rw [uI_ni (by omega), uI_ni (by omega), uI_ni (by omega), e]
    unfold adS
    rw [uV_ne (by omega), uV_ne (by omega), uV_ne (by omega)]
  | 8, _ =>
    simp only [vLim, l1] at hk
    simp only [ro]
    by_cases e : k = V 10 1
    · subst e
      rw [uI_ni (by omega), uI_ni (by omega), uI_at]
      unfold adS
      rw [uV_ne (by omega), uV_ne (by omega), uV_at]
    · have e2 := hr 8 k (show k < V 10 1 by omega)
      simp only [ro] at e2
      rw [uI_ni (by omega), uI_ni (by omega), uI_ni (by omega), e2]
      unfold adS
      rw [uV_ne (by omega), uV_ne (by omega), uV_ne (by omega)]
  | 9, _ =>
    simp only [vLim, l1] at hk
    simp only [ro]
    by_cases e : k = V 10 1
    · subst e
      rw [uI_ni (by omega), uI_at]
      unfold adS
      rw [uV_ne (by omega), uV_at]
    · have e2 := hr 9 k (show k < V 10 1 by omega)
      simp only [ro] at e2
      rw [uI_ni (by omega), uI_ni (by omega), uI_ni (by omega), e2]
      unfold adS
      rw [uV_ne (by omega), uV_ne (by omega), uV_ne (by omega)]
  | 10, _ =>
    simp only [vLim] at hk
    simp only [ro]
    by_cases e : k = 1
    · subst e
      rw [uI_at, l1]
    · have e2 := hr 10 k (show k < 4 by omega)
      simp only [ro] at e2
      rw [uI_ni (by omega), uI_ni (by omega), uI_ni (by omega), e2]
      unfold adS
      rw [uV_ne (by omega), uV_ne (by omega), uV_ne (by omega)]
theorem WF_add {V : Vm} {i j : Nat} (hw : WF V) (h7 : V 10 1 < 7) (hi : i ≤ 7) (hj : j ≤ 9) : WF (adS V i j) := by
  have l0 : adS V i j 10 0 = V 10 0 := by unfold adS; rw [uV_ne (by omega), uV_ne (by omega), uV_ne (by omega)]
  have l1 : adS V i j 10 1 = V 10 1 + 1 := by unfold adS; rw [uV_at]
  have l2 : adS V i j 10 2 = V 10 2 := by unfold adS; rw [uV_ne (by omega), uV_ne (by omega), uV_ne (by omega)]
  have l3 : adS V i j 10 3 = V 10 3 := by unfold adS; rw [uV_ne (by omega), uV_ne (by omega), uV_ne (by omega)]
  have lo : ∀ t k, t < 8 → adS V i j t k = V t k := fun t k ht => by unfold adS; rw [uV_ne (by omega), uV_ne (by omega), uV_ne (by omega)]
  obtain ⟨a, b, c, d, e, f, g⟩ := hw
  unfold WF
  rw [l0, l1, l2, l3]
  refine ⟨a, by omega, c, d, fun k hk => ?_, fun k hk => ?_, fun k hk => ?_⟩
  · rw [lo 0 k (by omega), lo 1 k (by omega), lo 2 k (by omega)]; exact e k hk
  · rw [lo 4 k (by omega), lo 5 k (by omega), lo 6 k (by omega), lo 7 k (by omega)]; exact f k hk
  · unfold adS
    rw [uV_ne (by omega), uV_ne (by omega)]
    by_cases ek : k = V 10 1
    · subst ek
      rw [uV_at, uV_ne (by omega), uV_at]
      exact ⟨hi, hj⟩
    · rw [uV_ne (by omega), uV_ne (by omega), uV_ne (by omega), uV_ne (by omega)]
      exact g k (by omega)
def S_X11_addsSheep (k f : Int32) (h : AH) (K : AH → Prop) : Prop := ∃ V i j, RV (h.1 16 0) V ∧ WF V ∧ V 10 1 < 7 ∧ k = nI i ∧ f = nI j ∧ ∀ h', only 16 0 h h' → RV (h'.1 16 0) (adS V i j) → K h'
def T_X11_addsSheep : List AV → AH → (AH → Prop) → Prop := fun as h K => match as with
  | [.inr (.inr (.inl q0)), .inl q1, .inl q2] => tif (Nat.beq q0.1 15 && Nat.beq q0.2 0) (S_X11_addsSheep q1 q2 h K)
  | _ => False

def M_X11_addsSheep : MI := (RX11, cX11_addsSheep, 3, [(0, .aload_n 0, []), (1, .getfield 9, []), (4, .bipush 48, []), (6, .iconst 2, []), (7, .aload_n 0, []), (8, .getfield 9, []), (11, .iconst 1, []), (12, .iaload, []), (13, .imul, []), (14, .iadd, []), (15, .iload_n 1, []), (16, .iastore, []), (17, .aload_n 0, []), (18, .getfield 9, []), (21, .bipush 48, []), (23, .iconst 2, []), (24, .aload_n 0, []), (25, .getfield 9, []), (28, .iconst 1, []), (29, .iaload, []), (30, .imul, []), (31, .iadd, []), (32, .iconst 1, []), (33, .iadd, []), (34, .iload_n 2, []), (35, .iastore, []), (36, .aload_n 0, []), (37, .getfield 9, []), (40, .iconst 1, []), (41, .dup2, []), (42, .iaload, []), (43, .iconst 1, []), (44, .iadd, []), (45, .iastore, []), (46, .return_, [])], [(9, (15, 0, 1, 16, 0))], [], [], [], 0, 0, 0, 0)
theorem ok_X11_addsSheep : MOK M_X11_addsSheep := ⟨by decide +kernel, List.forall_mem_cons.mpr ⟨fl_RX11_9, fun _ h => absurd h List.not_mem_nil⟩, fun _ h => absurd h List.not_mem_nil, fun _ h => absurd h List.not_mem_nil, fun _ h => absurd h List.not_mem_nil⟩
set_option maxRecDepth 100000 in
theorem vc_X11_addsSheep {K : AH → Prop} {h : AH} (p1 : Int32) (p2 : Int32) (H : inR (nI 1) 62 ∧ inR ((nI 48) + ((nI 2) * (h.1 16 0 (nI 1).toNatClampNeg))) 62 ∧ inR (nI 1) 62 ∧ inR (((nI 48) + ((nI 2) * ((wI h 16 0 ((nI 48) + ((nI 2) * (h.1 16 0 (nI 1).toNatClampNeg))).toNatClampNeg p1).1 16 0 (nI 1).toNatClampNeg))) + (nI 1)) 62 ∧ inR (nI 1) 62 ∧ inR (nI 1) 62 ∧ K (wI (wI (wI h 16 0 ((nI 48) + ((nI 2) * (h.1 16 0 (nI 1).toNatClampNeg))).toNatClampNeg p1) 16 0 (((nI 48) + ((nI 2) * ((wI h 16 0 ((nI 48) + ((nI 2) * (h.1 16 0 (nI 1).toNatClampNeg))).toNatClampNeg p1).1 16 0 (nI 1).toNatClampNeg))) + (nI 1)).toNatClampNeg p2) 16 0 (nI 1).toNatClampNeg (((wI (wI h 16 0 ((nI 48) + ((nI 2) * (h.1 16 0 (nI 1).toNatClampNeg))).toNatClampNeg p1) 16 0 (((nI 48) + ((nI 2) * ((wI h 16 0 ((nI 48) + ((nI 2) * (h.1 16 0 (nI 1).toNatClampNeg))).toNatClampNeg p1).1 16 0 (nI 1).toNatClampNeg))) + (nI 1)).toNatClampNeg p2).1 16 0 (nI 1).toNatClampNeg) + (nI 1)))) : AW M_X11_addsSheep (.inr (.inl K)) 0 [some (aR 15 0), some (aI p1), some (aI p2)] [] h 0 0 := AW_go (cuts := []) ok_X11_addsSheep 400 H

theorem snd_X11_addsSheep (k f : Int32) {h : AH} {K : AH → Prop} (kk : S_X11_addsSheep k f h K) : AW M_X11_addsSheep (.inr (.inl K)) 0 [some (aR 15 0), some (aI k), some (aI f)] [] h 0 0 := by
  obtain ⟨V, i, j, hr, hw, h7, rfl, rfl, kk⟩ := kk
  refine vc_X11_addsSheep (nI i) (nI j) ?_
  have e1 := (RVs hr).2.2.2.2.2.2.2.2.2.2.2.1
  simp (disch := omega) only [n_inT, n_cl, true_and, e1, pk_mul, nI_add, uI_ni]
  exact kk _ (only_tr (only_tr (only_wI ..) (only_wI ..)) (only_wI ..)) (RV_add hw hr h7)
theorem tr_X11_addsSheep : ∀ (as : List AV) (h : AH) (K : AH → Prop), T_X11_addsSheep as h K → ∃ (q : Nat) (r : List AV), as = aR 15 q :: r := by
  intro as h K hk
  match as, hk with
  | [.inr (.inr (.inl q0)), .inl q1, .inl q2], hk =>
    obtain ⟨hb, hk⟩ := tif_inv hk
    simp only [Bool.and_eq_true] at hb
    obtain ⟨e0, e1⟩ := hb
    obtain ⟨a0, b0⟩ := q0
    have f0 : a0 = 15 := Nat.eq_of_beq_eq_true e0
    subst f0
    have f1 : b0 = 0 := Nat.eq_of_beq_eq_true e1
    subst f1
    exact ⟨_, _, rfl⟩
theorem tw_X11_addsSheep : ∀ (as : List AV) (h : AH) (K : AH → Prop), T_X11_addsSheep as h K → (ini as).length ≤ mNL M_X11_addsSheep ∧ AW M_X11_addsSheep (.inr (.inl K)) 0 (initL (mNL M_X11_addsSheep) as) [] h 0 0 := by
  intro as h K hk
  match as, hk with
  | [.inr (.inr (.inl q0)), .inl q1, .inl q2], hk =>
    obtain ⟨hb, hk⟩ := tif_inv hk
    simp only [Bool.and_eq_true] at hb
    obtain ⟨e0, e1⟩ := hb
    obtain ⟨a0, b0⟩ := q0
    have f0 : a0 = 15 := Nat.eq_of_beq_eq_true e0
    subst f0
    have f1 : b0 = 0 := Nat.eq_of_beq_eq_true e1
    subst f1
    exact ⟨Nat.le_of_ble_eq_true rfl, snd_X11_addsSheep q1 q2 hk⟩
theorem cr_RX11_372 : CR RX11 (kIns 372) (3, 1, 22, 0, 0, .inr (.inl T_X11_addsSheep)) := crV_v (t := 15) (M := M_X11_addsSheep) (by decide) rfl (by decide) rfl (inG (i := 1032) (w := Cond.methodLink RX11 124 yX11_addsSheep) (by decide +kernel) rfl) (inG (i := 1034) (w := Cond.instanceMethod yX11_addsSheep) (by decide +kernel) rfl) (inG (i := 40) (w := Cond.initialized RX11) (by decide +kernel) rfl) (inG (i := 20) (w := Cond.selects RX11 yX11_addsSheep yX11_addsSheep) (by decide +kernel) rfl) (inG (i := 1035) (w := Cond.code yX11_addsSheep cX11_addsSheep 3 (none)) (by decide +kernel) rfl) ⟨by decide +kernel, by decide +kernel, by decide +kernel⟩ tr_X11_addsSheep tw_X11_addsSheep

def M_buys (S : Sm) (V : Vm) (d : Int32) : Int32 × Vm := if rwK S d ≠ nI 0 then (rwK S d, V) else if V 10 1 = 7 then (iI (-2), V) else (nI (V 10 1), adS V (S.1 1 (nN d)) (S.1 2 (nN d)))
def S_X11_buys (d : Int32) (h : AH) (K : Int32 → AH → Prop) : Prop := ∃ S V, MSh h S ∧ WS S ∧ RV (h.1 16 0) V ∧ WF V ∧ ∀ h', only 16 0 h h' → RV (h'.1 16 0) (M_buys S V d).2 → K (M_buys S V d).1 h'
def T_X11_buys : List AV → AH → (Int32 → AH → Prop) → Prop := fun as h K => match as with
  | [.inr (.inr (.inl q0)), .inl q1] => tif (Nat.beq q0.1 15 && Nat.beq q0.2 0) (S_X11_buys q1 h K)
  | _ => False

def M_X11_buys : MI := (RX11, cX11_buys, 3, [(0, .aload_n 0, []), (1, .iload_n 1, []), (2, .invokevirtual 161, []), (5, .istore_n 2, []), (6, .iload_n 2, []), (7, .ifCond .eq 5, [12]), (10, .iload_n 2, []), (11, .ireturn, []), (12, .aload_n 0, []), (13, .getfield 9, []), (16, .iconst 1, []), (17, .iaload, []), (18, .bipush 7, []), (20, .if_icmp .ne 6, [26]), (23, .bipush (-2), []), (25, .ireturn, []), (26, .aload_n 0, []), (27, .aload_n 0, []), (28, .getfield 38, []), (31, .iload_n 1, []), (32, .iaload, []), (33, .aload_n 0, []), (34, .getfield 41, []), (37, .iload_n 1, []), (38, .iaload, []), (39, .invokevirtual 124, []), (42, .aload_n 0, []), (43, .getfield 9, []), (46, .iconst 1, []), (47, .iaload, []), (48, .iconst 1, []), (49, .isub, []), (50, .ireturn, [])], [(9, (15, 0, 1, 16, 0)), (38, (15, 17, 1, 21, 1)), (41, (15, 18, 1, 21, 2))], [], [], [(483, (2, 3, 63, 0, 0, .inl T_X11_wrongKept)), (372, (3, 1, 22, 0, 0, .inr (.inl T_X11_addsSheep)))], 3, 63, 0, 0)
theorem ok_X11_buys : MOK M_X11_buys := ⟨by decide +kernel, List.forall_mem_cons.mpr ⟨fl_RX11_9, List.forall_mem_cons.mpr ⟨fl_RX11_38, List.forall_mem_cons.mpr ⟨fl_RX11_41, fun _ h => absurd h List.not_mem_nil⟩⟩⟩, fun _ h => absurd h List.not_mem_nil, fun _ h => absurd h List.not_mem_nil, List.forall_mem_cons.mpr ⟨⟨Nat.le_of_ble_eq_true rfl, Nat.le_of_ble_eq_true rfl, cr_RX11_483⟩, List.forall_mem_cons.mpr ⟨⟨Nat.le_of_ble_eq_true rfl, Nat.le_of_ble_eq_true rfl, cr_RX11_372⟩, fun _ h => absurd h List.not_mem_nil⟩⟩⟩
set_option maxRecDepth 100000 in
theorem vc_X11_buys {K : Int32 → AH → Prop} {h : AH} (p1 : Int32) (H : S_X11_wrongKept p1 h (fun x2 h1 => ((x2 = 0) → inR (nI 1) 62 ∧ ((¬ (h1.1 16 0 (nI 1).toNatClampNeg) = (nI 7)) → inR p1 8 ∧ inR p1 8 ∧ S_X11_addsSheep (h1.1 21 1 p1.toNatClampNeg) (h1.1 21 2 p1.toNatClampNeg) h1 (fun h3 => inR (nI 1) 62 ∧ K ((h3.1 16 0 (nI 1).toNatClampNeg) - (nI 1)) h3)) ∧ (¬ (¬ (h1.1 16 0 (nI 1).toNatClampNeg) = (nI 7)) → K (iI (-2)) h1)) ∧ (¬ (x2 = 0) → K x2 h1))) : AW M_X11_buys (.inl K) 0 [some (aR 15 0), some (aI p1), none] [] h 0 0 := AW_go (cuts := []) ok_X11_buys 400 H

theorem snd_X11_buys (d : Int32) {h : AH} {K : Int32 → AH → Prop} (k : S_X11_buys d h K) : AW M_X11_buys (.inl K) 0 [some (aR 15 0), some (aI d), none] [] h 0 0 := by
  obtain ⟨S, V, hs, hw, hr, hv, k⟩ := k
  refine vc_X11_buys d ⟨S, hs, hw, ?_⟩
  have h7 := hv.2.1
  unfold M_buys at k
  rcases rwK_cases hw d with ⟨m, hm, rfl, h2, e⟩ | e
  case inr =>
    rw [if_pos e] at k
    exact ⟨fun q => absurd q e, fun _ => k h (only_rfl ..) hr⟩
  refine ⟨fun _ => ?_, fun q => absurd e q⟩
  rw [if_neg (fun z => z e)] at k
  unfold nN at k
  rw [n_cl (show m < 2147483648 by omega)] at k
  obtain ⟨a, b, c⟩ := hs m hm
  obtain ⟨b1, b2⟩ := b h2
  have e1 := (RVs hr).2.2.2.2.2.2.2.2.2.2.2.1
  simp (disch := omega) only [n_inT, n_cl, true_and, b1, b2, e1, n_eq]
  refine ⟨fun q => ⟨V, _, _, hr, hv, by omega, rfl, rfl, fun h' o q' => ?_⟩, fun q => ?_⟩
  · rw [if_neg q] at k
    have e2 := (RVs q').2.2.2.2.2.2.2.2.2.2.2.1
    rw [e2, show adS V (S.1 1 m) (S.1 2 m) 10 1 = V 10 1 + 1 by unfold adS; rw [uV_at], n_sub (by omega), Nat.add_sub_cancel]
    exact k h' o q'
  · rw [if_pos (Decidable.not_not.mp q)] at k
    exact k h (only_rfl ..) hr
theorem tr_X11_buys : ∀ (as : List AV) (h : AH) (K : Int32 → AH → Prop), T_X11_buys as h K → ∃ (q : Nat) (r : List AV), as = aR 15 q :: r := by
  intro as h K hk
  match as, hk with
  | [.inr (.inr (.inl q0)), .inl q1], hk =>
    obtain ⟨hb, hk⟩ := tif_inv hk
    simp only [Bool.and_eq_true] at hb
    obtain ⟨e0, e1⟩ := hb
    obtain ⟨a0, b0⟩ := q0
    have f0 : a0 = 15 := Nat.eq_of_beq_eq_true e0
    subst f0
    have f1 : b0 = 0 := Nat.eq_of_beq_eq_true e1
    subst f1
    exact ⟨_, _, rfl⟩
theorem tw_X11_buys : ∀ (as : List AV) (h : AH) (K : Int32 → AH → Prop), T_X11_buys as h K → (ini as).length ≤ mNL M_X11_buys ∧ AW M_X11_buys (.inl K) 0 (initL (mNL M_X11_buys) as) [] h 0 0 := by
  intro as h K hk
  match as, hk with
  | [.inr (.inr (.inl q0)), .inl q1], hk =>
    obtain ⟨hb, hk⟩ := tif_inv hk
    simp only [Bool.and_eq_true] at hb
    obtain ⟨e0, e1⟩ := hb
    obtain ⟨a0, b0⟩ := q0
    have f0 : a0 = 15 := Nat.eq_of_beq_eq_true e0
    subst f0
    have f1 : b0 = 0 := Nat.eq_of_beq_eq_true e1
    subst f1
    exact ⟨Nat.le_of_ble_eq_true rfl, snd_X11_buys q1 hk⟩


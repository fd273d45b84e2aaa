/-! ===== what the calls answer, by the valley ===== -/
abbrev nN (x : Int32) : Nat := x.toNatClampNeg
abbrev shp (V : Vm) (a : Int32) : Prop := nI 0 ≤ a ∧ a ≤ nI (V 10 1) - nI 1
abbrev cel (c : Int32) : Prop := nI 0 ≤ c ∧ c ≤ nI 7
abbrev w01 (w : Int32) : Prop := nI 0 ≤ w ∧ w ≤ nI 1
def rfT (V : Vm) (a c : Int32) : Int32 := if shp V a ∧ cel c then (if vFl V (nN a) < nN c then iI (-3) else nI 0) else iI (-1)
theorem rfT_cases {V : Vm} (hw : WF V) (a c : Int32) : (∃ n m, n < V 10 1 ∧ m < 8 ∧ m ≤ vFl V n ∧ a = nI n ∧ c = nI m ∧ rfT V a c = nI 0) ∨ (rfT V a c ≠ nI 0) := by
  have h7 := hw.2.1
  by_cases h : shp V a ∧ cel c
  · obtain ⟨n, hn, rfl⟩ := (in_iff (by omega)).mp h.1
    obtain ⟨m, hm, rfl⟩ := in8_iff.mp h.2
    unfold rfT
    rw [if_pos h]
    unfold nN
    rw [n_cl (by omega), n_cl (by omega)]
    by_cases h2 : vFl V n < m
    · rw [if_pos h2]; exact Or.inr (by decide)
    · rw [if_neg h2]; exact Or.inl ⟨n, m, hn, hm, by omega, rfl, rfl, rfl⟩
  · unfold rfT
    rw [if_neg h]
    exact Or.inr (by decide)
theorem wT_use {V : Vm} {a c : Int32} {h : AH} {K : Int32 → AH → Prop} (hr : RV (h.1 16 0) V) (hw : WF V) (k : K (rfT V a c) h) : S_X11_wrongThrow a c h K := by
  have h7 := hw.2.1
  refine ⟨V, hr, hw, fun n m hn hm e1 e2 => ?_, fun q => ?_⟩
  · subst e1; subst e2
    unfold rfT at k
    rw [if_pos ⟨(in_iff (by omega)).mpr ⟨n, hn, rfl⟩, in8_iff.mpr ⟨m, hm, rfl⟩⟩] at k
    unfold nN at k
    rw [n_cl (by omega), n_cl (by omega)] at k
    exact k
  · unfold rfT at k
    rw [if_neg (fun z => ?_)] at k
    · exact k
    · obtain ⟨n, hn, e1⟩ := (in_iff (by omega)).mp z.1
      obtain ⟨m, hm, e2⟩ := in8_iff.mp z.2
      exact q ⟨n, m, hn, hm, e1, e2⟩
/-- a throw that is told: refused, or the throw -/
def S_X11_throwsOne (a c : Int32) (h : AH) (K : Int32 → AH → Prop) : Prop := ∃ V, RV (h.1 16 0) V ∧ WF V ∧ (rfT V a c ≠ nI 0 → K (rfT V a c) h) ∧ ∀ n m h', n < V 10 1 → m < 8 → a = nI n → c = nI m → rfT V a c = nI 0 → only 16 0 h h' → RV (h'.1 16 0) (thr V n m) → K (nI (brg V n m)) h'
def T_X11_throwsOne : List AV → AH → (Int32 → AH → Prop) → Prop := fun as h K => match as with
  | [.inr (.inr (.inl q0)), .inl q1, .inl q2] => tif (Nat.beq q0.1 15 && Nat.beq q0.2 0) (S_X11_throwsOne q1 q2 h K)
  | _ => False

def M_X11_throwsOne : MI := (RX11, cX11_throwsOne, 4, [(0, .aload_n 0, []), (1, .iload_n 1, []), (2, .iload_n 2, []), (3, .invokevirtual 165, []), (6, .istore_n 3, []), (7, .iload_n 3, []), (8, .ifCond .eq 7, [15]), (11, .iload_n 3, []), (12, .goto 12, [24]), (15, .aload_n 0, []), (16, .getfield 9, []), (19, .iload_n 1, []), (20, .iload_n 2, []), (21, .invokestatic 138, []), (24, .ireturn, [])], [(9, (15, 0, 1, 16, 0))], [], [], [(495, (3, 3, 65, 0, 0, .inl T_X11_wrongThrow)), (415, (3, 5, 116, 0, 0, .inl T_X11_throwIn))], 5, 116, 0, 0)
theorem ok_X11_throwsOne : MOK M_X11_throwsOne := ⟨by decide +kernel, List.forall_mem_cons.mpr ⟨fl_RX11_9, fun _ h => absurd h List.not_mem_nil⟩, fun _ h => absurd h List.not_mem_nil, fun _ h => absurd h List.not_mem_nil, List.forall_mem_cons.mpr ⟨⟨Nat.le_of_ble_eq_true rfl, Nat.le_of_ble_eq_true rfl, cr_RX11_495⟩, List.forall_mem_cons.mpr ⟨⟨Nat.le_of_ble_eq_true rfl, Nat.le_of_ble_eq_true rfl, cr_RX11_415⟩, fun _ h => absurd h List.not_mem_nil⟩⟩⟩
set_option maxRecDepth 100000 in
theorem vc_X11_throwsOne {K : Int32 → AH → Prop} {h : AH} (p1 : Int32) (p2 : Int32) (H : S_X11_wrongThrow p1 p2 h (fun x2 h1 => ((x2 = 0) → S_X11_throwIn 0 p1 p2 h1 (fun x4 h3 => K x4 h3)) ∧ (¬ (x2 = 0) → K x2 h1))) : AW M_X11_throwsOne (.inl K) 0 [some (aR 15 0), some (aI p1), some (aI p2), none] [] h 0 0 := AW_go (cuts := []) ok_X11_throwsOne 400 H

theorem snd_X11_throwsOne (a c : Int32) {h : AH} {K : Int32 → AH → Prop} (k : S_X11_throwsOne a c h K) : AW M_X11_throwsOne (.inl K) 0 [some (aR 15 0), some (aI a), some (aI c), none] [] h 0 0 := by
  obtain ⟨V, hr, hw, k1, k2⟩ := k
  refine vc_X11_throwsOne a c (wT_use hr hw ?_)
  rcases rfT_cases hw a c with ⟨n, m, hn, hm, hf, rfl, rfl, e⟩ | e
  · exact ⟨fun _ => ⟨V, n, m, ⟨hr, hw, hn, rfl⟩, hm, rfl, fun h' o q => k2 n m h' hn hm rfl rfl e o q⟩, fun q => absurd e q⟩
  · exact ⟨fun q => absurd q e, fun _ => k1 e⟩
theorem tr_X11_throwsOne : ∀ (as : List AV) (h : AH) (K : Int32 → AH → Prop), T_X11_throwsOne as h K → ∃ (q : Nat) (r : List AV), as = aR 15 q :: r := by
  intro as h K hk
  match as, hk with
  | [.inr (.inr (.inl q0)), .inl q1, .inl q2], hk =>
    obtain ⟨hb, hk⟩ := tif_inv hk
    simp only [Bool.and_eq_true] at hb
    obtain ⟨e0, e1⟩ := hb
    obtain ⟨a0, b0⟩ := q0
    have f0 : a0 = 15 := Nat.eq_of_beq_eq_true e0
    subst f0
    have f1 : b0 = 0 := Nat.eq_of_beq_eq_true e1
    subst f1
    exact ⟨_, _, rfl⟩
theorem tw_X11_throwsOne : ∀ (as : List AV) (h : AH) (K : Int32 → AH → Prop), T_X11_throwsOne as h K → (ini as).length ≤ mNL M_X11_throwsOne ∧ AW M_X11_throwsOne (.inl K) 0 (initL (mNL M_X11_throwsOne) as) [] h 0 0 := by
  intro as h K hk
  match as, hk with
  | [.inr (.inr (.inl q0)), .inl q1, .inl q2], hk =>
    obtain ⟨hb, hk⟩ := tif_inv hk
    simp only [Bool.and_eq_true] at hb
    obtain ⟨e0, e1⟩ := hb
    obtain ⟨a0, b0⟩ := q0
    have f0 : a0 = 15 := Nat.eq_of_beq_eq_true e0
    subst f0
    have f1 : b0 = 0 := Nat.eq_of_beq_eq_true e1
    subst f1
    exact ⟨Nat.le_of_ble_eq_true rfl, snd_X11_throwsOne q1 q2 hk⟩

def S_X11_waits (x : Int32) (h : AH) (K : Int32 → AH → Prop) : Prop := ∃ V, RV (h.1 16 0) V ∧ WF V ∧ (¬ (nI 1 ≤ x ∧ x ≤ nI 60) → K (iI (-1)) h) ∧ ∀ k h', 1 ≤ k → k ≤ 60 → x = nI k → only 16 0 h h' → RV (h'.1 16 0) (wai V k) → K (nI (wai V k 10 2)) h'
def T_X11_waits : List AV → AH → (Int32 → AH → Prop) → Prop := fun as h K => match as with
  | [.inr (.inr (.inl q0)), .inl q1] => tif (Nat.beq q0.1 15 && Nat.beq q0.2 0) (S_X11_waits q1 h K)
  | _ => False

def M_X11_waits : MI := (RX11, cX11_waits, 2, [(0, .iload_n 1, []), (1, .iconst 1, []), (2, .bipush 60, []), (4, .invokestatic 53, []), (7, .ifCond .ne 5, [12]), (10, .iconst (-1), []), (11, .ireturn, []), (12, .aload_n 0, []), (13, .getfield 9, []), (16, .iload_n 1, []), (17, .invokestatic 128, []), (20, .aload_n 0, []), (21, .getfield 9, []), (24, .iconst 2, []), (25, .iaload, []), (26, .ireturn, [])], [(9, (15, 0, 1, 16, 0))], [], [], [(160, (3, 1, 22, 0, 0, .inl T_X11_isIn)), (385, (2, 3, 65, 0, 0, .inr (.inl T_X11_waitIn)))], 3, 65, 0, 0)
theorem ok_X11_waits : MOK M_X11_waits := ⟨by decide +kernel, List.forall_mem_cons.mpr ⟨fl_RX11_9, fun _ h => absurd h List.not_mem_nil⟩, fun _ h => absurd h List.not_mem_nil, fun _ h => absurd h List.not_mem_nil, List.forall_mem_cons.mpr ⟨⟨Nat.le_of_ble_eq_true rfl, Nat.le_of_ble_eq_true rfl, cr_RX11_160⟩, List.forall_mem_cons.mpr ⟨⟨Nat.le_of_ble_eq_true rfl, Nat.le_of_ble_eq_true rfl, cr_RX11_385⟩, fun _ h => absurd h List.not_mem_nil⟩⟩⟩
set_option maxRecDepth 100000 in
theorem vc_X11_waits {K : Int32 → AH → Prop} {h : AH} (p1 : Int32) (H : S_X11_isIn p1 (nI 1) (nI 60) h (fun x2 h1 => ((¬ x2 = 0) → S_X11_waitIn 0 p1 h1 (fun h3 => inR (nI 2) 62 ∧ K (h3.1 16 0 (nI 2).toNatClampNeg) h3)) ∧ (¬ (¬ x2 = 0) → K (iI (-1)) h1))) : AW M_X11_waits (.inl K) 0 [some (aR 15 0), some (aI p1)] [] h 0 0 := AW_go (cuts := []) ok_X11_waits 400 H

theorem in60 {x : Int32} (h : nI 1 ≤ x ∧ x ≤ nI 60) : ∃ k, 1 ≤ k ∧ k ≤ 60 ∧ x = nI k := by
  have h0 : nI 0 ≤ x := Int32.le_iff_toInt_le.mpr (by have := Int32.le_iff_toInt_le.mp h.1; rw [n_toInt (by omega)] at this ⊢; omega)
  obtain ⟨k, hk, rfl⟩ := n_of (by omega) h0 h.2
  have := (n_le (by omega) (by omega)).mp h.1
  exact ⟨k, this, hk, rfl⟩
theorem snd_X11_waits (x : Int32) {h : AH} {K : Int32 → AH → Prop} (k : S_X11_waits x h K) : AW M_X11_waits (.inl K) 0 [some (aR 15 0), some (aI x)] [] h 0 0 := by
  obtain ⟨V, hr, hw, k1, k2⟩ := k
  refine vc_X11_waits x ?_
  unfold S_X11_isIn
  simp only [if10_eq]
  refine ⟨fun q => ?_, fun q => k1 (fun z => q (fun w => w z))⟩
  obtain ⟨k, h1, h2, rfl⟩ := in60 (Decidable.not_not.mp q)
  refine ⟨V, k, hr, hw, h2, rfl, fun h' o q => ?_⟩
  obtain ⟨-, -, -, -, -, -, -, -, -, -, -, -, e2, -⟩ := RVs q
  simp (disch := omega) only [n_inT, n_cl, true_and, e2]
  exact k2 k h' h1 h2 rfl o q
theorem tr_X11_waits : ∀ (as : List AV) (h : AH) (K : Int32 → AH → Prop), T_X11_waits as h K → ∃ (q : Nat) (r : List AV), as = aR 15 q :: r := by
  intro as h K hk
  match as, hk with
  | [.inr (.inr (.inl q0)), .inl q1], hk =>
    obtain ⟨hb, hk⟩ := tif_inv hk
    simp only [Bool.and_eq_true] at hb
    obtain ⟨e0, e1⟩ := hb
    obtain ⟨a0, b0⟩ := q0
    have f0 : a0 = 15 := Nat.eq_of_beq_eq_true e0
    subst f0
    have f1 : b0 = 0 := Nat.eq_of_beq_eq_true e1
    subst f1
    exact ⟨_, _, rfl⟩
theorem tw_X11_waits : ∀ (as : List AV) (h : AH) (K : Int32 → AH → Prop), T_X11_waits as h K → (ini as).length ≤ mNL M_X11_waits ∧ AW M_X11_waits (.inl K) 0 (initL (mNL M_X11_waits) as) [] h 0 0 := by
  intro as h K hk
  match as, hk with
  | [.inr (.inr (.inl q0)), .inl q1], hk =>
    obtain ⟨hb, hk⟩ := tif_inv hk
    simp only [Bool.and_eq_true] at hb
    obtain ⟨e0, e1⟩ := hb
    obtain ⟨a0, b0⟩ := q0
    have f0 : a0 = 15 := Nat.eq_of_beq_eq_true e0
    subst f0
    have f1 : b0 = 0 := Nat.eq_of_beq_eq_true e1
    subst f1
    exact ⟨Nat.le_of_ble_eq_true rfl, snd_X11_waits q1 hk⟩

def R_brings (V : Vm) (a c w : Int32) : Int32 := if ¬ (nI 0 ≤ w ∧ w ≤ nI 3) then iI (-1) else if rfT V a c ≠ nI 0 then rfT V a c else if w = nI 0 then nI (brg V (nN a) (nN c)) else if w = nI 1 then oI (tak V (nN a) (nN c)) else if w = nI 2 then (match tak V (nN a) (nN c) with
  | none => iI (-4)
  | some e => nI (V 6 e)) else (if eat V (nN a) (nN c) then nI 1 else nI 0)
def S_X11_brings (a c w : Int32) (h : AH) (K : Int32 → AH → Prop) : Prop := ∃ V, RV (h.1 16 0) V ∧ WF V ∧ ∀ h', keepM h h' → K (R_brings V a c w) h'
def T_X11_brings : List AV → AH → (Int32 → AH → Prop) → Prop := fun as h K => match as with
  | [.inr (.inr (.inl q0)), .inl q1, .inl q2, .inl q3] => tif (Nat.beq q0.1 15 && Nat.beq q0.2 0) (S_X11_brings q1 q2 q3 h K)
  | _ => False

def M_X11_brings : MI := (RX11, cX11_brings, 6, [(0, .iload_n 3, []), (1, .iconst 0, []), (2, .iconst 3, []), (3, .invokestatic 53, []), (6, .ifCond .ne 5, [11]), (9, .iconst (-1), []), (10, .ireturn, []), (11, .aload_n 0, []), (12, .iload_n 1, []), (13, .iload_n 2, []), (14, .invokevirtual 165, []), (17, .istore 4, []), (19, .iload 4, []), (21, .ifCond .eq 6, [27]), (24, .iload 4, []), (26, .ireturn, []), (27, .aload_n 0, []), (28, .getfield 9, []), (31, .iload_n 1, []), (32, .iload_n 2, []), (33, .invokestatic 91, []), (36, .istore 5, []), (38, .iload_n 3, []), (39, .tableswitch 61 0 2 #[25, 36, 39], [100, 64, 75, 78]), (64, .aload_n 0, []), (65, .aload_n 0, []), (66, .getfield 9, []), (69, .iload_n 1, []), (70, .iload_n 2, []), (71, .invokevirtual 168, []), (74, .ireturn, []), (75, .iload 5, []), (77, .ireturn, []), (78, .iload 5, []), (80, .ifCond .ge 8, [88]), (83, .bipush (-4), []), (85, .goto 14, [99]), (88, .aload_n 0, []), (89, .getfield 9, []), (92, .iload 5, []), (94, .iconst 2, []), (95, .invokestatic 75, []), (98, .iaload, []), (99, .ireturn, []), (100, .aload_n 0, []), (101, .getfield 9, []), (104, .iload_n 1, []), (105, .iload_n 2, []), (106, .invokestatic 78, []), (109, .ifCond .eq 7, [116]), (112, .iconst 1, []), (113, .goto 4, [117]), (116, .iconst 0, []), (117, .ireturn, [])], [(9, (15, 0, 1, 16, 0))], [], [], [(160, (3, 1, 22, 0, 0, .inl T_X11_isIn)), (495, (3, 3, 65, 0, 0, .inl T_X11_wrongThrow)), (274, (3, 4, 89, 0, 0, .inl T_X11_carrier)), (504, (4, 6, 139, 0, 0, .inl T_X11_broughtBy)), (226, (2, 1, 21, 0, 0, .inl T_X11_atEagle)), (235, (3, 3, 65, 0, 0, .inl T_X11_isEaten))], 6, 139, 0, 0)
theorem ok_X11_brings : MOK M_X11_brings := ⟨by decide +kernel, List.forall_mem_cons.mpr ⟨fl_RX11_9, fun _ h => absurd h List.not_mem_nil⟩, fun _ h => absurd h List.not_mem_nil, fun _ h => absurd h List.not_mem_nil, List.forall_mem_cons.mpr ⟨⟨Nat.le_of_ble_eq_true rfl, Nat.le_of_ble_eq_true rfl, cr_RX11_160⟩, List.forall_mem_cons.mpr ⟨⟨Nat.le_of_ble_eq_true rfl, Nat.le_of_ble_eq_true rfl, cr_RX11_495⟩, List.forall_mem_cons.mpr ⟨⟨Nat.le_of_ble_eq_true rfl, Nat.le_of_ble_eq_true rfl, cr_RX11_274⟩, List.forall_mem_cons.mpr ⟨⟨Nat.le_of_ble_eq_true rfl, Nat.le_of_ble_eq_true rfl, cr_RX11_504⟩, List.forall_mem_cons.mpr ⟨⟨Nat.le_of_ble_eq_true rfl, Nat.le_of_ble_eq_true rfl, cr_RX11_226⟩, List.forall_mem_cons.mpr ⟨⟨Nat.le_of_ble_eq_true rfl, Nat.le_of_ble_eq_true rfl, cr_RX11_235⟩, fun _ h => absurd h List.not_mem_nil⟩⟩⟩⟩⟩⟩⟩
set_option maxRecDepth 100000 in
theorem vc_X11_brings {K : Int32 → AH → Prop} {h : AH} (p1 : Int32) (p2 : Int32) (p3 : Int32) (H : S_X11_isIn p3 (nI 0) (nI 3) h (fun x2 h1 => ((¬ x2 = 0) → S_X11_wrongThrow p1 p2 h1 (fun x4 h3 => ((x4 = 0) → S_X11_carrier 0 p1 p2 h3 (fun x6 h5 => (p3.toInt < 0 ∨ 2 < p3.toInt → S_X11_isEaten 0 p1 p2 h5 (fun x8 h7 => ((x8 = 0) → K (nI 0) h7) ∧ (¬ (x8 = 0) → K (nI 1) h7))) ∧ (p3 = nI 0 → S_X11_broughtBy 0 p1 p2 h5 (fun x10 h9 => K x10 h9)) ∧ (p3 = nI 1 → K x6 h5) ∧ (p3 = nI 2 → ((0 ≤ x6) → S_X11_atEagle x6 (nI 2) h5 (fun x12 h11 => inR x12 62 ∧ K (h11.1 16 0 x12.toNatClampNeg) h11)) ∧ (¬ (0 ≤ x6) → K (iI (-4)) h5)) ∧ True)) ∧ (¬ (x4 = 0) → K x4 h3))) ∧ (¬ (¬ x2 = 0) → K (iI (-1)) h1))) : AW M_X11_brings (.inl K) 0 [some (aR 15 0), some (aI p1), some (aI p2), some (aI p3), none, none] [] h 0 0 := AW_go (cuts := []) ok_X11_brings 400 H

theorem snd_X11_brings (a c w : Int32) {h : AH} {K : Int32 → AH → Prop} (k : S_X11_brings a c w h K) : AW M_X11_brings (.inl K) 0 [some (aR 15 0), some (aI a), some (aI c), some (aI w), none, none] [] h 0 0 := by
  obtain ⟨V, hr, hw, k⟩ := k
  refine vc_X11_brings a c w ?_
  unfold S_X11_isIn
  simp only [if10_eq]
  unfold R_brings at k
  by_cases hq : nI 0 ≤ w ∧ w ≤ nI 3
  case neg =>
    refine ⟨fun q => absurd hq q, fun q => ?_⟩
    have := k h (keepM_rfl h)
    rw [if_pos hq] at this
    exact this
  refine ⟨fun _ => wT_use hr hw ?_, fun q => absurd (fun z => z hq) q⟩
  rw [if_neg (fun z => z hq)] at k
  rcases rfT_cases hw a c with ⟨n, m, hn, hm, hf, rfl, rfl, e⟩ | e
  case inr =>
    rw [if_pos e] at k
    exact ⟨fun q => absurd q e, fun _ => k h (keepM_rfl h)⟩
  rw [if_neg (fun z => z e)] at k
  have h7 := hw.2.1
  unfold nN at k
  rw [n_cl (show n < 2147483648 by omega), n_cl (show m < 2147483648 by omega)] at k
  obtain ⟨i, hi, rfl⟩ := n_of (by omega) hq.1 hq.2
  refine ⟨fun _ => ⟨V, n, m, ⟨hr, hw, hn, rfl⟩, hm, rfl, ?_⟩, fun q => absurd e q⟩
  simp (disch := omega) only [n_toInt, n_eq] at k ⊢
  refine ⟨fun q => ⟨V, n, m, ⟨hr, hw, hn, rfl⟩, hm, rfl, ?_⟩, fun q => ⟨V, n, m, ⟨hr, hw, hn, rfl⟩, hm, rfl, by decide, fun h' o => ?_⟩, fun q => ?_, fun q => ?_, trivial⟩
  · have := k h (keepM_rfl h)
    rw [if_neg (by omega), if_neg (by omega), if_neg (by omega)] at this
    simp only [if10_eq]
    refine ⟨fun q => ?_, fun q => ?_⟩
    · rw [if_neg q] at this; exact this
    · rw [if_pos (Decidable.not_not.mp q)] at this; exact this
  · have := k h' (keepM_o (by decide) (by decide) o)
    rw [if_pos q] at this
    exact this
  · have := k h (keepM_rfl h)
    rw [if_neg (by omega), if_pos q] at this
    exact this
  · have := k h (keepM_rfl h)
    rw [if_neg (by omega), if_neg (by omega), if_pos q] at this
    cases ht : tak V n m with
    | none =>
      rw [ht] at this
      exact ⟨fun z => absurd z (by decide), fun _ => this⟩
    | some e =>
      rw [ht] at this
      have he := tak_lt ht
      have h4 := hw.1
      obtain ⟨-, -, -, -, -, -, e6, -⟩ := RVs hr
      simp only [show oI (some e) = nI e from rfl]
      rw [n_ge0 (by omega)]
      refine ⟨fun _ => ?_, fun z => absurd trivial z⟩
      simp (disch := omega) only [S_X11_atEagle, pk_mul, nI_add, n_inT, n_cl, true_and, e6]
      exact this
theorem tr_X11_brings : ∀ (as : List AV) (h : AH) (K : Int32 → AH → Prop), T_X11_brings as h K → ∃ (q : Nat) (r : List AV), as = aR 15 q :: r := by
  intro as h K hk
  match as, hk with
  | [.inr (.inr (.inl q0)), .inl q1, .inl q2, .inl q3], hk =>
    obtain ⟨hb, hk⟩ := tif_inv hk
    simp only [Bool.and_eq_true] at hb
    obtain ⟨e0, e1⟩ := hb
    obtain ⟨a0, b0⟩ := q0
    have f0 : a0 = 15 := Nat.eq_of_beq_eq_true e0
    subst f0
    have f1 : b0 = 0 := Nat.eq_of_beq_eq_true e1
    subst f1
    exact ⟨_, _, rfl⟩
theorem tw_X11_brings : ∀ (as : List AV) (h : AH) (K : Int32 → AH → Prop), T_X11_brings as h K → (ini as).length ≤ mNL M_X11_brings ∧ AW M_X11_brings (.inl K) 0 (initL (mNL M_X11_brings) as) [] h 0 0 := by
  intro as h K hk
  match as, hk with
  | [.inr (.inr (.inl q0)), .inl q1, .inl q2, .inl q3], hk =>
    obtain ⟨hb, hk⟩ := tif_inv hk
    simp only [Bool.and_eq_true] at hb
    obtain ⟨e0, e1⟩ := hb
    obtain ⟨a0, b0⟩ := q0
    have f0 : a0 = 15 := Nat.eq_of_beq_eq_true e0
    subst f0
    have f1 : b0 = 0 := Nat.eq_of_beq_eq_true e1
    subst f1
    exact ⟨Nat.le_of_ble_eq_true rfl, snd_X11_brings q1 q2 q3 hk⟩

def bHour (V : Vm) (n m : Nat) : Int × Int := am1 (fun k => (brg (wai V k) n m : Int)) 24 (0, -1)
def R_bestHour (V : Vm) (a c w : Int32) : Int32 := if ¬ w01 w then iI (-1) else if rfT V a c ≠ nI 0 then rfT V a c else if w = 0 then iI (bHour V (nN a) (nN c)).1 else iI (bHour V (nN a) (nN c)).2
def S_X11_bestHour (a c w : Int32) (h : AH) (K : Int32 → AH → Prop) : Prop := ∃ V, RV (h.1 16 0) V ∧ WF V ∧ ∀ h', keepM h h' → K (R_bestHour V a c w) h'
def T_X11_bestHour : List AV → AH → (Int32 → AH → Prop) → Prop := fun as h K => match as with
  | [.inr (.inr (.inl q0)), .inl q1, .inl q2, .inl q3] => tif (Nat.beq q0.1 15 && Nat.beq q0.2 0) (S_X11_bestHour q1 q2 q3 h K)
  | _ => False

def M_X11_bestHour : MI := (RX11, cX11_bestHour, 9, [(0, .iload_n 3, []), (1, .iconst 0, []), (2, .iconst 1, []), (3, .invokestatic 53, []), (6, .ifCond .ne 5, [11]), (9, .iconst (-1), []), (10, .ireturn, []), (11, .aload_n 0, []), (12, .iload_n 1, []), (13, .iload_n 2, []), (14, .invokevirtual 165, []), (17, .istore 4, []), (19, .iload 4, []), (21, .ifCond .eq 6, [27]), (24, .iload 4, []), (26, .ireturn, []), (27, .iconst 0, []), (28, .istore 5, []), (30, .iconst (-1), []), (31, .istore 6, []), (33, .iconst 0, []), (34, .istore 7, []), (36, .iload 7, []), (38, .bipush 24, []), (40, .if_icmp .ge 58, [98]), (43, .aload_n 0, []), (44, .getfield 9, []), (47, .aload_n 0, []), (48, .getfield 13, []), (51, .invokestatic 148, []), (54, .aload_n 0, []), (55, .getfield 13, []), (58, .iload 7, []), (60, .invokestatic 128, []), (63, .aload_n 0, []), (64, .getfield 13, []), (67, .iload_n 1, []), (68, .iload_n 2, []), (69, .invokestatic 138, []), (72, .istore 8, []), (74, .iload 8, []), (76, .iload 6, []), (78, .if_icmp .gt 6, [84]), (81, .goto 11, [92]), (84, .iload 7, []), (86, .istore 5, []), (88, .iload 8, []), (90, .istore 6, []), (92, .iinc 7 1, []), (95, .goto (-59), [36]), (98, .iload_n 3, []), (99, .ifCond .ne 8, [107]), (102, .iload 5, []), (104, .goto 5, [109]), (107, .iload 6, []), (109, .ireturn, [])], [(9, (15, 0, 1, 16, 0)), (13, (15, 1, 1, 16, 1))], [], [], [(160, (3, 1, 22, 0, 0, .inl T_X11_isIn)), (495, (3, 3, 65, 0, 0, .inl T_X11_wrongThrow)), (445, (2, 1, 22, 0, 0, .inr (.inl T_X11_copies))), (385, (2, 3, 65, 0, 0, .inr (.inl T_X11_waitIn))), (415, (3, 5, 116, 0, 0, .inl T_X11_throwIn))], 5, 116, 0, 0)
theorem ok_X11_bestHour : MOK M_X11_bestHour := ⟨by decide +kernel, List.forall_mem_cons.mpr ⟨fl_RX11_9, List.forall_mem_cons.mpr ⟨fl_RX11_13, fun _ h => absurd h List.not_mem_nil⟩⟩, fun _ h => absurd h List.not_mem_nil, fun _ h => absurd h List.not_mem_nil, List.forall_mem_cons.mpr ⟨⟨Nat.le_of_ble_eq_true rfl, Nat.le_of_ble_eq_true rfl, cr_RX11_160⟩, List.forall_mem_cons.mpr ⟨⟨Nat.le_of_ble_eq_true rfl, Nat.le_of_ble_eq_true rfl, cr_RX11_495⟩, List.forall_mem_cons.mpr ⟨⟨Nat.le_of_ble_eq_true rfl, Nat.le_of_ble_eq_true rfl, cr_RX11_445⟩, List.forall_mem_cons.mpr ⟨⟨Nat.le_of_ble_eq_true rfl, Nat.le_of_ble_eq_true rfl, cr_RX11_385⟩, List.forall_mem_cons.mpr ⟨⟨Nat.le_of_ble_eq_true rfl, Nat.le_of_ble_eq_true rfl, cr_RX11_415⟩, fun _ h => absurd h List.not_mem_nil⟩⟩⟩⟩⟩⟩
set_option maxRecDepth 100000 in
theorem vc_X11_bestHour {K : Int32 → AH → Prop} {h : AH} (p1 : Int32) (p2 : Int32) (p3 : Int32) (H : S_X11_isIn p3 (nI 0) (nI 1) h (fun x2 h1 => ((¬ x2 = 0) → S_X11_wrongThrow p1 p2 h1 (fun x4 h3 => ((x4 = 0) → AW M_X11_bestHour (.inl K) 36 [some (aR 15 0), some (aI p1), some (aI p2), some (aI p3), none, some (aI (nI 0)), some (aI (iI (-1))), some (aI (nI 0)), none] [] h3 0 0) ∧ (¬ (x4 = 0) → K x4 h3))) ∧ (¬ (¬ x2 = 0) → K (iI (-1)) h1))) : AW M_X11_bestHour (.inl K) 0 [some (aR 15 0), some (aI p1), some (aI p2), some (aI p3), none, none, none, none, none] [] h 0 0 := AW_go (cuts := [(36, [true, true, true, true, false, true, true, true, false])]) ok_X11_bestHour 400 H
set_option maxRecDepth 100000 in
theorem vc_X11_bestHour_36 {K : Int32 → AH → Prop} {h : AH}  (l1 : Int32) (l2 : Int32) (l3 : Int32) (l5 : Int32) (l6 : Int32) (l7 : Int32) (H : (((nI 24) ≤ l7) → ((¬ l3 = 0) → K l6 h) ∧ (¬ (¬ l3 = 0) → K l5 h)) ∧ (¬ ((nI 24) ≤ l7) → S_X11_copies 0 1 h (fun h1 => S_X11_waitIn 1 l7 h1 (fun h2 => S_X11_throwIn 1 l1 l2 h2 (fun x4 h3 => ((l6 < x4) → AW M_X11_bestHour (.inl K) 36 [some (aR 15 0), some (aI l1), some (aI l2), some (aI l3), none, some (aI l7), some (aI x4), some (aI (l7 + (nI 1))), none] [] h3 0 0) ∧ (¬ (l6 < x4) → AW M_X11_bestHour (.inl K) 36 [some (aR 15 0), some (aI l1), some (aI l2), some (aI l3), none, some (aI l5), some (aI l6), some (aI (l7 + (nI 1))), none] [] h3 0 0)))))) : AW M_X11_bestHour (.inl K) 36 [some (aR 15 0), some (aI l1), some (aI l2), some (aI l3), none, some (aI l5), some (aI l6), some (aI l7), none] [] h 0 0 := AW_go (cuts := [(36, [true, true, true, true, false, true, true, true, false])]) ok_X11_bestHour 400 H

theorem wai_10 {V : Vm} {k i : Nat} (h : i ≠ 2) : wai V k 10 i = V 10 i := by unfold wai; rw [if_neg (by decide), if_neg (by omega)]
theorem bHour_b {V : Vm} {n m : Nat} (hw : WF V) (hn : n < V 10 1) (hm : m < 8) : ∀ k, k ≤ 24 → -1 ≤ (am1 (fun k => (brg (wai V k) n m : Int)) k (0, -1)).2 ∧ (am1 (fun k => (brg (wai V k) n m : Int)) k (0, -1)).2 ≤ 54 ∧ 0 ≤ (am1 (fun k => (brg (wai V k) n m : Int)) k (0, -1)).1 ∧ (am1 (fun k => (brg (wai V k) n m : Int)) k (0, -1)).1 ≤ (24 : Nat) :=
  am1_b (n := 24) (fun k _ => by have := brg_le (WF_wai (k := k) hw) (show n < wai V k 10 1 by rw [wai_10 (by omega)]; exact hn) hm; omega) (by simp) (by simp) (by simp) (by simp)
theorem lp_X11_bestHour {V : Vm} {n m : Nat} {w : Int32} {h0 : AH} {K : Int32 → AH → Prop} (hr : RV (h0.1 16 0) V) (hw : WF V) (hn : n < V 10 1) (hm : m < 8) (k : ∀ h', keepM h0 h' → K (if w = 0 then iI (bHour V n m).1 else iI (bHour V n m).2) h') : ∀ r c h, c + r = 24 → keepM h0 h → AW M_X11_bestHour (.inl K) 36 [some (aR 15 0), some (aI (nI n)), some (aI (nI m)), some (aI w), none, some (aI (iI (am1 (fun k => (brg (wai V k) n m : Int)) c (0, -1)).1)), some (aI (iI (am1 (fun k => (brg (wai V k) n m : Int)) c (0, -1)).2)), some (aI (nI c)), none] [] h 0 0 := by
  intro r
  induction r with
  | zero =>
    intro c h hc h1
    refine vc_X11_bestHour_36 (nI n) (nI m) w _ _ (nI c) ?_
    simp (disch := omega) only [n_le]
    have : c = 24 := by omega
    subst this
    have := k h h1
    refine ⟨fun _ => ⟨fun q => ?_, fun q => ?_⟩, fun q => absurd (by omega) q⟩
    · rw [if_neg q] at this; exact this
    · rw [if_pos (Decidable.not_not.mp q)] at this; exact this
  | succ r ih =>
    intro c h hc h1
    refine vc_X11_bestHour_36 (nI n) (nI m) w _ _ (nI c) ?_
    simp (disch := omega) only [n_le, nI_add]
    refine ⟨fun q => by omega, fun _ => ⟨by decide, fun h2 o2 c2 => ?_⟩⟩
    have k2 := keepM_tr h1 (keepM_o (by decide) (by decide) o2)
    have hr2 : RV (h2.1 16 1) V := RV_cp hw hr (fun i hi => by rw [c2 i hi, keepM_r0 h1])
    refine ⟨V, c, hr2, hw, by omega, rfl, fun h3 o3 q3 => ⟨wai V c, n, m, ⟨q3, WF_wai hw, by rw [wai_10 (by omega)]; exact hn, rfl⟩, hm, rfl, fun h4 o4 q4 => ?_⟩⟩
    have k4 := keepM_tr (keepM_tr k2 (keepM_o (by decide) (by decide) o3)) (keepM_o (by decide) (by decide) o4)
    have := ih (c + 1) h4 (by omega) k4
    obtain ⟨b1, b2, b3, b4⟩ := bHour_b hw hn hm c (by omega)
    have g1 := brg_le (WF_wai (k := c) hw) (show n < wai V c 10 1 by rw [wai_10 (by omega)]; exact hn) hm
    rw [am1] at this
    dsimp only
    rw [nI_iI (brg (wai V c) n m), i_lt (by omega) (by omega) (by omega) (by omega)]
    refine ⟨fun q => ?_, fun q => ?_⟩
    · rw [if_pos q, ← nI_iI c] at this; exact this
    · rw [if_neg q] at this; exact this
theorem snd_X11_bestHour (a c w : Int32) {h : AH} {K : Int32 → AH → Prop} (k : S_X11_bestHour a c w h K) : AW M_X11_bestHour (.inl K) 0 [some (aR 15 0), some (aI a), some (aI c), some (aI w), none, none, none, none, none] [] h 0 0 := by
  obtain ⟨V, hr, hw, k⟩ := k
  refine vc_X11_bestHour a c w ?_
  unfold S_X11_isIn
  simp only [if10_eq]
  unfold R_bestHour at k
  by_cases hq : w01 w
  case neg =>
    refine ⟨fun q => absurd hq q, fun q => ?_⟩
    have := k h (keepM_rfl h)
    rw [if_pos hq] at this
    exact this
  refine ⟨fun _ => wT_use hr hw ?_, fun q => absurd (fun z => z hq) q⟩
  rw [if_neg (fun z => z hq)] at k
  rcases rfT_cases hw a c with ⟨n, m, hn, hm, hf, rfl, rfl, e⟩ | e
  case inr =>
    rw [if_pos e] at k
    exact ⟨fun q => absurd q e, fun _ => k h (keepM_rfl h)⟩
  rw [if_neg (fun z => z e)] at k
  have h7 := hw.2.1
  unfold nN at k
  rw [n_cl (show n < 2147483648 by omega), n_cl (show m < 2147483648 by omega)] at k
  exact ⟨fun _ => lp_X11_bestHour hr hw hn hm k 24 0 h (by omega) (keepM_rfl h), fun q => absurd e q⟩
theorem tr_X11_bestHour : ∀ (as : List AV) (h : AH) (K : Int32 → AH → Prop), T_X11_bestHour as h K → ∃ (q : Nat) (r : List AV), as = aR 15 q :: r := by
  intro as h K hk
  match as, hk with
  | [.inr (.inr (.inl q0)), .inl q1, .inl q2, .inl q3], hk =>
    obtain ⟨hb, hk⟩ := tif_inv hk
    simp only [Bool.and_eq_true] at hb
    obtain ⟨e0, e1⟩ := hb
    obtain ⟨a0, b0⟩ := q0
    have f0 : a0 = 15 := Nat.eq_of_beq_eq_true e0
    subst f0
    have f1 : b0 = 0 := Nat.eq_of_beq_eq_true e1
    subst f1
    exact ⟨_, _, rfl⟩
theorem tw_X11_bestHour : ∀ (as : List AV) (h : AH) (K : Int32 → AH → Prop), T_X11_bestHour as h K → (ini as).length ≤ mNL M_X11_bestHour ∧ AW M_X11_bestHour (.inl K) 0 (initL (mNL M_X11_bestHour) as) [] h 0 0 := by
  intro as h K hk
  match as, hk with
  | [.inr (.inr (.inl q0)), .inl q1, .inl q2, .inl q3], hk =>
    obtain ⟨hb, hk⟩ := tif_inv hk
    simp only [Bool.and_eq_true] at hb
    obtain ⟨e0, e1⟩ := hb
    obtain ⟨a0, b0⟩ := q0
    have f0 : a0 = 15 := Nat.eq_of_beq_eq_true e0
    subst f0
    have f1 : b0 = 0 := Nat.eq_of_beq_eq_true e1
    subst f1
    exact ⟨Nat.le_of_ble_eq_true rfl, snd_X11_bestHour q1 q2 q3 hk⟩


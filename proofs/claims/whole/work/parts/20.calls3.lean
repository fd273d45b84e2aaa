/-! ===== the reference: what is told of the valley ===== -/
theorem in_n {x : Int32} {n : Nat} (hn : n < 2147483648) : (nI 0 ≤ x ∧ x ≤ nI n) ↔ ∃ k, k ≤ n ∧ x = nI k := by
  constructor
  · rintro ⟨h1, h2⟩
    exact n_of hn h1 h2
  · rintro ⟨k, hk, rfl⟩
    rw [n_le (by omega) (by omega), n_le (by omega) (by omega)]
    omega
def R_cellOf (V : Vm) (c w : Int32) : Int32 := if cel c ∧ (nI 0 ≤ w ∧ w ≤ nI 2) then nI (V (nN w) (nN c)) else iI (-1)
def S_X11_cellOf (c w : Int32) (h : AH) (K : Int32 → AH → Prop) : Prop := ∃ V, RV (h.1 16 0) V ∧ WF V ∧ K (R_cellOf V c w) h
def T_X11_cellOf : List AV → AH → (Int32 → AH → Prop) → Prop := fun as h K => match as with
  | [.inr (.inr (.inl q0)), .inl q1, .inl q2] => tif (Nat.beq q0.1 15 && Nat.beq q0.2 0) (S_X11_cellOf q1 q2 h K)
  | _ => False

def M_X11_cellOf : MI := (RX11, cX11_cellOf, 3, [(0, .iload_n 1, []), (1, .invokestatic 120, []), (4, .ifCond .eq 25, [29]), (7, .iload_n 2, []), (8, .iconst 0, []), (9, .iconst 2, []), (10, .invokestatic 53, []), (13, .ifCond .eq 16, [29]), (16, .aload_n 0, []), (17, .getfield 9, []), (20, .iload_n 1, []), (21, .iload_n 2, []), (22, .invokestatic 64, []), (25, .iaload, []), (26, .goto 4, [30]), (29, .iconst (-1), []), (30, .ireturn, [])], [(9, (15, 0, 1, 16, 0))], [], [], [(361, (1, 2, 42, 0, 0, .inl T_X11_isCell)), (160, (3, 1, 22, 0, 0, .inl T_X11_isIn)), (193, (2, 1, 21, 0, 0, .inl T_X11_atCell))], 2, 42, 0, 0)
theorem ok_X11_cellOf : MOK M_X11_cellOf := ⟨by decide +kernel, List.forall_mem_cons.mpr ⟨fl_RX11_9, fun _ h => absurd h List.not_mem_nil⟩, fun _ h => absurd h List.not_mem_nil, fun _ h => absurd h List.not_mem_nil, List.forall_mem_cons.mpr ⟨⟨Nat.le_of_ble_eq_true rfl, Nat.le_of_ble_eq_true rfl, cr_RX11_361⟩, List.forall_mem_cons.mpr ⟨⟨Nat.le_of_ble_eq_true rfl, Nat.le_of_ble_eq_true rfl, cr_RX11_160⟩, List.forall_mem_cons.mpr ⟨⟨Nat.le_of_ble_eq_true rfl, Nat.le_of_ble_eq_true rfl, cr_RX11_193⟩, fun _ h => absurd h List.not_mem_nil⟩⟩⟩⟩
set_option maxRecDepth 100000 in
theorem vc_X11_cellOf {K : Int32 → AH → Prop} {h : AH} (p1 : Int32) (p2 : Int32) (H : S_X11_isCell p1 h (fun x2 h1 => ((x2 = 0) → K (iI (-1)) h1) ∧ (¬ (x2 = 0) → S_X11_isIn p2 (nI 0) (nI 2) h1 (fun x4 h3 => ((x4 = 0) → K (iI (-1)) h3) ∧ (¬ (x4 = 0) → S_X11_atCell p1 p2 h3 (fun x6 h5 => inR x6 62 ∧ K (h5.1 16 0 x6.toNatClampNeg) h5)))))) : AW M_X11_cellOf (.inl K) 0 [some (aR 15 0), some (aI p1), some (aI p2)] [] h 0 0 := AW_go (cuts := []) ok_X11_cellOf 400 H

theorem snd_X11_cellOf (c w : Int32) {h : AH} {K : Int32 → AH → Prop} (k : S_X11_cellOf c w h K) : AW M_X11_cellOf (.inl K) 0 [some (aR 15 0), some (aI c), some (aI w)] [] h 0 0 := by
  obtain ⟨V, hr, hw, k⟩ := k
  refine vc_X11_cellOf c w ?_
  unfold S_X11_isIn S_X11_isCell
  simp only [if10_eq]
  unfold R_cellOf at k
  refine ⟨fun q => ?_, fun q => ⟨fun q2 => ?_, fun q2 => ?_⟩⟩
  · rw [if_neg (fun z => q z.1)] at k; exact k
  · rw [if_neg (fun z => q2 z.2)] at k; exact k
  · have q := Decidable.not_not.mp q
    have q2 := Decidable.not_not.mp q2
    rw [if_pos ⟨q, q2⟩] at k
    obtain ⟨m, hm, rfl⟩ := in8_iff.mp q
    obtain ⟨i, hi, rfl⟩ := (in_n (by omega)).mp q2
    unfold nN at k
    rw [n_cl (by omega), n_cl (by omega)] at k
    simp (disch := omega) only [S_X11_atCell, pk_mul, nI_add, n_inT, n_cl, true_and]
    have hl : m < vLim V i := by rcases (show i = 0 ∨ i = 1 ∨ i = 2 by omega) with rfl | rfl | rfl <;> exact hm
    have := hr i m hl
    rw [show ro i m = 4 + 3 * m + i by rcases (show i = 0 ∨ i = 1 ∨ i = 2 by omega) with rfl | rfl | rfl <;> rfl] at this
    rw [this]
    exact k
theorem tr_X11_cellOf : ∀ (as : List AV) (h : AH) (K : Int32 → AH → Prop), T_X11_cellOf as h K → ∃ (q : Nat) (r : List AV), as = aR 15 q :: r := by
  intro as h K hk
  match as, hk with
  | [.inr (.inr (.inl q0)), .inl q1, .inl q2], hk =>
    obtain ⟨hb, hk⟩ := tif_inv hk
    simp only [Bool.and_eq_true] at hb
    obtain ⟨e0, e1⟩ := hb
    obtain ⟨a0, b0⟩ := q0
    have f0 : a0 = 15 := Nat.eq_of_beq_eq_true e0
    subst f0
    have f1 : b0 = 0 := Nat.eq_of_beq_eq_true e1
    subst f1
    exact ⟨_, _, rfl⟩
theorem tw_X11_cellOf : ∀ (as : List AV) (h : AH) (K : Int32 → AH → Prop), T_X11_cellOf as h K → (ini as).length ≤ mNL M_X11_cellOf ∧ AW M_X11_cellOf (.inl K) 0 (initL (mNL M_X11_cellOf) as) [] h 0 0 := by
  intro as h K hk
  match as, hk with
  | [.inr (.inr (.inl q0)), .inl q1, .inl q2], hk =>
    obtain ⟨hb, hk⟩ := tif_inv hk
    simp only [Bool.and_eq_true] at hb
    obtain ⟨e0, e1⟩ := hb
    obtain ⟨a0, b0⟩ := q0
    have f0 : a0 = 15 := Nat.eq_of_beq_eq_true e0
    subst f0
    have f1 : b0 = 0 := Nat.eq_of_beq_eq_true e1
    subst f1
    exact ⟨Nat.le_of_ble_eq_true rfl, snd_X11_cellOf q1 q2 hk⟩

def R_eagle (V : Vm) (e w : Int32) : Int32 := if (nI 0 ≤ e ∧ e ≤ nI (V 10 0) - nI 1) ∧ (nI 0 ≤ w ∧ w ≤ nI 3) then nI (V (4 + nN w) (nN e)) else iI (-1)
def S_X11_eagle (c w : Int32) (h : AH) (K : Int32 → AH → Prop) : Prop := ∃ V, RV (h.1 16 0) V ∧ WF V ∧ K (R_eagle V c w) h
def T_X11_eagle : List AV → AH → (Int32 → AH → Prop) → Prop := fun as h K => match as with
  | [.inr (.inr (.inl q0)), .inl q1, .inl q2] => tif (Nat.beq q0.1 15 && Nat.beq q0.2 0) (S_X11_eagle q1 q2 h K)
  | _ => False

def M_X11_eagle : MI := (RX11, cX11_eagle, 3, [(0, .aload_n 0, []), (1, .iload_n 1, []), (2, .invokevirtual 155, []), (5, .ifCond .eq 25, [30]), (8, .iload_n 2, []), (9, .iconst 0, []), (10, .iconst 3, []), (11, .invokestatic 53, []), (14, .ifCond .eq 16, [30]), (17, .aload_n 0, []), (18, .getfield 9, []), (21, .iload_n 1, []), (22, .iload_n 2, []), (23, .invokestatic 75, []), (26, .iaload, []), (27, .goto 4, [31]), (30, .iconst (-1), []), (31, .ireturn, [])], [(9, (15, 0, 1, 16, 0))], [], [], [(465, (2, 2, 43, 0, 0, .inl T_X11_isEagle)), (160, (3, 1, 22, 0, 0, .inl T_X11_isIn)), (226, (2, 1, 21, 0, 0, .inl T_X11_atEagle))], 2, 43, 0, 0)
theorem ok_X11_eagle : MOK M_X11_eagle := ⟨by decide +kernel, List.forall_mem_cons.mpr ⟨fl_RX11_9, fun _ h => absurd h List.not_mem_nil⟩, fun _ h => absurd h List.not_mem_nil, fun _ h => absurd h List.not_mem_nil, List.forall_mem_cons.mpr ⟨⟨Nat.le_of_ble_eq_true rfl, Nat.le_of_ble_eq_true rfl, cr_RX11_465⟩, List.forall_mem_cons.mpr ⟨⟨Nat.le_of_ble_eq_true rfl, Nat.le_of_ble_eq_true rfl, cr_RX11_160⟩, List.forall_mem_cons.mpr ⟨⟨Nat.le_of_ble_eq_true rfl, Nat.le_of_ble_eq_true rfl, cr_RX11_226⟩, fun _ h => absurd h List.not_mem_nil⟩⟩⟩⟩
set_option maxRecDepth 100000 in
theorem vc_X11_eagle {K : Int32 → AH → Prop} {h : AH} (p1 : Int32) (p2 : Int32) (H : S_X11_isEagle p1 h (fun x2 h1 => ((x2 = 0) → K (iI (-1)) h1) ∧ (¬ (x2 = 0) → S_X11_isIn p2 (nI 0) (nI 3) h1 (fun x4 h3 => ((x4 = 0) → K (iI (-1)) h3) ∧ (¬ (x4 = 0) → S_X11_atEagle p1 p2 h3 (fun x6 h5 => inR x6 62 ∧ K (h5.1 16 0 x6.toNatClampNeg) h5)))))) : AW M_X11_eagle (.inl K) 0 [some (aR 15 0), some (aI p1), some (aI p2)] [] h 0 0 := AW_go (cuts := []) ok_X11_eagle 400 H

theorem snd_X11_eagle (c w : Int32) {h : AH} {K : Int32 → AH → Prop} (k : S_X11_eagle c w h K) : AW M_X11_eagle (.inl K) 0 [some (aR 15 0), some (aI c), some (aI w)] [] h 0 0 := by
  obtain ⟨V, hr, hw, k⟩ := k
  have h4 := hw.1
  refine vc_X11_eagle c w ?_
  obtain ⟨-, -, -, -, -, -, -, -, -, -, e0, -⟩ := RVs hr
  unfold S_X11_isIn S_X11_isEagle
  rw [e0]
  simp only [if10_eq]
  unfold R_eagle at k
  refine ⟨fun q => ?_, fun q => ⟨fun q2 => ?_, fun q2 => ?_⟩⟩
  · rw [if_neg (fun z => q z.1)] at k; exact k
  · rw [if_neg (fun z => q2 z.2)] at k; exact k
  · have q := Decidable.not_not.mp q
    have q2 := Decidable.not_not.mp q2
    rw [if_pos ⟨q, q2⟩] at k
    obtain ⟨m, hm, rfl⟩ := (in_iff (by omega)).mp q
    obtain ⟨i, hi, rfl⟩ := (in_n (by omega)).mp q2
    unfold nN at k
    rw [n_cl (by omega), n_cl (by omega)] at k
    simp (disch := omega) only [S_X11_atEagle, pk_mul, nI_add, n_inT, n_cl, true_and]
    have hl : m < vLim V (4 + i) := by rcases (show i = 0 ∨ i = 1 ∨ i = 2 ∨ i = 3 by omega) with rfl | rfl | rfl | rfl <;> exact hm
    have := hr (4 + i) m hl
    rw [show ro (4 + i) m = 28 + 4 * m + i by rcases (show i = 0 ∨ i = 1 ∨ i = 2 ∨ i = 3 by omega) with rfl | rfl | rfl | rfl <;> rfl] at this
    rw [this]
    exact k
theorem tr_X11_eagle : ∀ (as : List AV) (h : AH) (K : Int32 → AH → Prop), T_X11_eagle as h K → ∃ (q : Nat) (r : List AV), as = aR 15 q :: r := by
  intro as h K hk
  match as, hk with
  | [.inr (.inr (.inl q0)), .inl q1, .inl q2], hk =>
    obtain ⟨hb, hk⟩ := tif_inv hk
    simp only [Bool.and_eq_true] at hb
    obtain ⟨e0, e1⟩ := hb
    obtain ⟨a0, b0⟩ := q0
    have f0 : a0 = 15 := Nat.eq_of_beq_eq_true e0
    subst f0
    have f1 : b0 = 0 := Nat.eq_of_beq_eq_true e1
    subst f1
    exact ⟨_, _, rfl⟩
theorem tw_X11_eagle : ∀ (as : List AV) (h : AH) (K : Int32 → AH → Prop), T_X11_eagle as h K → (ini as).length ≤ mNL M_X11_eagle ∧ AW M_X11_eagle (.inl K) 0 (initL (mNL M_X11_eagle) as) [] h 0 0 := by
  intro as h K hk
  match as, hk with
  | [.inr (.inr (.inl q0)), .inl q1, .inl q2], hk =>
    obtain ⟨hb, hk⟩ := tif_inv hk
    simp only [Bool.and_eq_true] at hb
    obtain ⟨e0, e1⟩ := hb
    obtain ⟨a0, b0⟩ := q0
    have f0 : a0 = 15 := Nat.eq_of_beq_eq_true e0
    subst f0
    have f1 : b0 = 0 := Nat.eq_of_beq_eq_true e1
    subst f1
    exact ⟨Nat.le_of_ble_eq_true rfl, snd_X11_eagle q1 q2 hk⟩

def R_sheep (V : Vm) (s w : Int32) : Int32 := if shp V s then (if w = nI 0 then nI (V 8 (nN s)) else if w = nI 1 then nI (V 9 (nN s)) else if w = nI 2 then nI (vWt V (nN s)) else if w = nI 3 then nI (vSt V (nN s)) else if w = nI 4 then nI (vFl V (nN s)) else if w = nI 5 then nI (vPr V (nN s)) else iI (-1)) else iI (-1)
def S_X11_sheep (c w : Int32) (h : AH) (K : Int32 → AH → Prop) : Prop := ∃ V, RV (h.1 16 0) V ∧ WF V ∧ K (R_sheep V c w) h
def T_X11_sheep : List AV → AH → (Int32 → AH → Prop) → Prop := fun as h K => match as with
  | [.inr (.inr (.inl q0)), .inl q1, .inl q2] => tif (Nat.beq q0.1 15 && Nat.beq q0.2 0) (S_X11_sheep q1 q2 h K)
  | _ => False

def M_X11_sheep : MI := (RX11, cX11_sheep, 3, [(0, .aload_n 0, []), (1, .iload_n 1, []), (2, .invokevirtual 132, []), (5, .ifCond .ne 5, [10]), (8, .iconst (-1), []), (9, .ireturn, []), (10, .iload_n 2, []), (11, .tableswitch 91 0 5 #[37, 46, 55, 64, 73, 82], [102, 48, 57, 66, 75, 84, 93]), (48, .aload_n 0, []), (49, .getfield 9, []), (52, .iload_n 1, []), (53, .invokestatic 61, []), (56, .ireturn, []), (57, .aload_n 0, []), (58, .getfield 9, []), (61, .iload_n 1, []), (62, .invokestatic 57, []), (65, .ireturn, []), (66, .aload_n 0, []), (67, .getfield 9, []), (70, .iload_n 1, []), (71, .invokestatic 68, []), (74, .ireturn, []), (75, .aload_n 0, []), (76, .getfield 9, []), (79, .iload_n 1, []), (80, .invokestatic 95, []), (83, .ireturn, []), (84, .aload_n 0, []), (85, .getfield 9, []), (88, .iload_n 1, []), (89, .invokestatic 135, []), (92, .ireturn, []), (93, .aload_n 0, []), (94, .getfield 9, []), (97, .iload_n 1, []), (98, .invokestatic 158, []), (101, .ireturn, []), (102, .iconst (-1), []), (103, .ireturn, [])], [(9, (15, 0, 1, 16, 0))], [], [], [(396, (2, 2, 43, 0, 0, .inl T_X11_isSheep)), (184, (2, 1, 21, 0, 0, .inl T_X11_kind)), (172, (2, 1, 21, 0, 0, .inl T_X11_figure)), (205, (2, 2, 43, 0, 0, .inl T_X11_weight)), (286, (2, 2, 43, 0, 0, .inl T_X11_sticks)), (406, (2, 2, 42, 0, 0, .inl T_X11_flies)), (475, (2, 2, 43, 0, 0, .inl T_X11_price))], 2, 43, 0, 0)
theorem ok_X11_sheep : MOK M_X11_sheep := ⟨by decide +kernel, List.forall_mem_cons.mpr ⟨fl_RX11_9, fun _ h => absurd h List.not_mem_nil⟩, fun _ h => absurd h List.not_mem_nil, fun _ h => absurd h List.not_mem_nil, List.forall_mem_cons.mpr ⟨⟨Nat.le_of_ble_eq_true rfl, Nat.le_of_ble_eq_true rfl, cr_RX11_396⟩, List.forall_mem_cons.mpr ⟨⟨Nat.le_of_ble_eq_true rfl, Nat.le_of_ble_eq_true rfl, cr_RX11_184⟩, List.forall_mem_cons.mpr ⟨⟨Nat.le_of_ble_eq_true rfl, Nat.le_of_ble_eq_true rfl, cr_RX11_172⟩, List.forall_mem_cons.mpr ⟨⟨Nat.le_of_ble_eq_true rfl, Nat.le_of_ble_eq_true rfl, cr_RX11_205⟩, List.forall_mem_cons.mpr ⟨⟨Nat.le_of_ble_eq_true rfl, Nat.le_of_ble_eq_true rfl, cr_RX11_286⟩, List.forall_mem_cons.mpr ⟨⟨Nat.le_of_ble_eq_true rfl, Nat.le_of_ble_eq_true rfl, cr_RX11_406⟩, List.forall_mem_cons.mpr ⟨⟨Nat.le_of_ble_eq_true rfl, Nat.le_of_ble_eq_true rfl, cr_RX11_475⟩, fun _ h => absurd h List.not_mem_nil⟩⟩⟩⟩⟩⟩⟩⟩
set_option maxRecDepth 100000 in
theorem vc_X11_sheep {K : Int32 → AH → Prop} {h : AH} (p1 : Int32) (p2 : Int32) (H : S_X11_isSheep p1 h (fun x2 h1 => ((¬ x2 = 0) → (p2.toInt < 0 ∨ 5 < p2.toInt → K (iI (-1)) h1) ∧ (p2 = nI 0 → S_X11_kind 0 p1 h1 (fun x4 h3 => K x4 h3)) ∧ (p2 = nI 1 → S_X11_figure 0 p1 h1 (fun x6 h5 => K x6 h5)) ∧ (p2 = nI 2 → S_X11_weight 0 p1 h1 (fun x8 h7 => K x8 h7)) ∧ (p2 = nI 3 → S_X11_sticks 0 p1 h1 (fun x10 h9 => K x10 h9)) ∧ (p2 = nI 4 → S_X11_flies 0 p1 h1 (fun x12 h11 => K x12 h11)) ∧ (p2 = nI 5 → S_X11_price 0 p1 h1 (fun x14 h13 => K x14 h13)) ∧ True) ∧ (¬ (¬ x2 = 0) → K (iI (-1)) h1))) : AW M_X11_sheep (.inl K) 0 [some (aR 15 0), some (aI p1), some (aI p2)] [] h 0 0 := AW_go (cuts := []) ok_X11_sheep 400 H

theorem sw_out {x : Int32} {k : Nat} {lo hi : Int} (h : x.toInt < lo ∨ hi < x.toInt) (hk : k < 2147483648) (h1 : lo ≤ k) (h2 : (k : Int) ≤ hi) : x ≠ nI k := by
  intro e
  rw [e, n_toInt hk] at h
  omega
theorem snd_X11_sheep (c w : Int32) {h : AH} {K : Int32 → AH → Prop} (k : S_X11_sheep c w h K) : AW M_X11_sheep (.inl K) 0 [some (aR 15 0), some (aI c), some (aI w)] [] h 0 0 := by
  obtain ⟨V, hr, hw, k⟩ := k
  have h7 := hw.2.1
  refine vc_X11_sheep c w ?_
  obtain ⟨-, -, -, -, -, -, -, -, e8, e9, -, e1, -⟩ := RVs hr
  unfold S_X11_isSheep
  rw [e1]
  simp only [if10_eq]
  unfold R_sheep at k
  refine ⟨fun q => ?_, fun q => ?_⟩
  · have q := Decidable.not_not.mp q
    rw [if_pos q] at k
    obtain ⟨n, hn, rfl⟩ := (in_iff (by omega)).mp q
    unfold nN at k
    rw [n_cl (by omega)] at k
    have hp : rPre 0 (nI n) h V n := ⟨hr, hw, hn, rfl⟩
    refine ⟨fun z => ?_, fun z => ⟨n, by omega, rfl, ?_⟩, fun z => ⟨n, by omega, rfl, ?_⟩, fun z => ⟨V, n, hp, ?_⟩, fun z => ⟨V, n, hp, ?_⟩, fun z => ⟨V, n, hp, ?_⟩, fun z => ⟨V, n, hp, ?_⟩, trivial⟩
    · rw [if_neg (sw_out z (by omega) (by omega) (by omega)), if_neg (sw_out z (by omega) (by omega) (by omega)), if_neg (sw_out z (by omega) (by omega) (by omega)), if_neg (sw_out z (by omega) (by omega) (by omega)), if_neg (sw_out z (by omega) (by omega) (by omega)), if_neg (sw_out z (by omega) (by omega) (by omega))] at k
      exact k
    all_goals subst z
    all_goals simp (disch := omega) only [n_eq, e8, e9] at k ⊢
    all_goals simpa using k
  · rw [if_neg (fun z => q (fun y => y z))] at k; exact k
theorem tr_X11_sheep : ∀ (as : List AV) (h : AH) (K : Int32 → AH → Prop), T_X11_sheep as h K → ∃ (q : Nat) (r : List AV), as = aR 15 q :: r := by
  intro as h K hk
  match as, hk with
  | [.inr (.inr (.inl q0)), .inl q1, .inl q2], hk =>
    obtain ⟨hb, hk⟩ := tif_inv hk
    simp only [Bool.and_eq_true] at hb
    obtain ⟨e0, e1⟩ := hb
    obtain ⟨a0, b0⟩ := q0
    have f0 : a0 = 15 := Nat.eq_of_beq_eq_true e0
    subst f0
    have f1 : b0 = 0 := Nat.eq_of_beq_eq_true e1
    subst f1
    exact ⟨_, _, rfl⟩
theorem tw_X11_sheep : ∀ (as : List AV) (h : AH) (K : Int32 → AH → Prop), T_X11_sheep as h K → (ini as).length ≤ mNL M_X11_sheep ∧ AW M_X11_sheep (.inl K) 0 (initL (mNL M_X11_sheep) as) [] h 0 0 := by
  intro as h K hk
  match as, hk with
  | [.inr (.inr (.inl q0)), .inl q1, .inl q2], hk =>
    obtain ⟨hb, hk⟩ := tif_inv hk
    simp only [Bool.and_eq_true] at hb
    obtain ⟨e0, e1⟩ := hb
    obtain ⟨a0, b0⟩ := q0
    have f0 : a0 = 15 := Nat.eq_of_beq_eq_true e0
    subst f0
    have f1 : b0 = 0 := Nat.eq_of_beq_eq_true e1
    subst f1
    exact ⟨Nat.le_of_ble_eq_true rfl, snd_X11_sheep q1 q2 hk⟩

def R_nest (V : Vm) (n : Int32) : Int32 := if nI 0 ≤ n ∧ n ≤ nI 3 then nI (V 3 (nN n)) else iI (-1)
def S_X11_nest (n : Int32) (h : AH) (K : Int32 → AH → Prop) : Prop := ∃ V, RV (h.1 16 0) V ∧ WF V ∧ K (R_nest V n) h
def T_X11_nest : List AV → AH → (Int32 → AH → Prop) → Prop := fun as h K => match as with
  | [.inr (.inr (.inl q0)), .inl q1] => tif (Nat.beq q0.1 15 && Nat.beq q0.2 0) (S_X11_nest q1 h K)
  | _ => False

def M_X11_nest : MI := (RX11, cX11_nest, 2, [(0, .iload_n 1, []), (1, .iconst 0, []), (2, .iconst 3, []), (3, .invokestatic 53, []), (6, .ifCond .eq 15, [21]), (9, .aload_n 0, []), (10, .getfield 9, []), (13, .bipush 44, []), (15, .iload_n 1, []), (16, .iadd, []), (17, .iaload, []), (18, .goto 4, [22]), (21, .iconst (-1), []), (22, .ireturn, [])], [(9, (15, 0, 1, 16, 0))], [], [], [(160, (3, 1, 22, 0, 0, .inl T_X11_isIn))], 1, 22, 0, 0)
theorem ok_X11_nest : MOK M_X11_nest := ⟨by decide +kernel, List.forall_mem_cons.mpr ⟨fl_RX11_9, fun _ h => absurd h List.not_mem_nil⟩, fun _ h => absurd h List.not_mem_nil, fun _ h => absurd h List.not_mem_nil, List.forall_mem_cons.mpr ⟨⟨Nat.le_of_ble_eq_true rfl, Nat.le_of_ble_eq_true rfl, cr_RX11_160⟩, fun _ h => absurd h List.not_mem_nil⟩⟩
set_option maxRecDepth 100000 in
theorem vc_X11_nest {K : Int32 → AH → Prop} {h : AH} (p1 : Int32) (H : S_X11_isIn p1 (nI 0) (nI 3) h (fun x2 h1 => ((x2 = 0) → K (iI (-1)) h1) ∧ (¬ (x2 = 0) → inR ((nI 44) + p1) 62 ∧ K (h1.1 16 0 ((nI 44) + p1).toNatClampNeg) h1))) : AW M_X11_nest (.inl K) 0 [some (aR 15 0), some (aI p1)] [] h 0 0 := AW_go (cuts := []) ok_X11_nest 400 H

theorem snd_X11_nest (c : Int32) {h : AH} {K : Int32 → AH → Prop} (k : S_X11_nest c h K) : AW M_X11_nest (.inl K) 0 [some (aR 15 0), some (aI c)] [] h 0 0 := by
  obtain ⟨V, hr, hw, k⟩ := k
  refine vc_X11_nest c ?_
  obtain ⟨-, -, -, e3, -⟩ := RVs hr
  unfold S_X11_isIn
  simp only [if10_eq]
  unfold R_nest at k
  refine ⟨fun q => ?_, fun q => ?_⟩
  · rw [if_neg q] at k; exact k
  · have q := Decidable.not_not.mp q
    rw [if_pos q] at k
    obtain ⟨i, hi, rfl⟩ := (in_n (by omega)).mp q
    unfold nN at k
    rw [n_cl (by omega)] at k
    simp (disch := omega) only [nI_add, n_inT, n_cl, true_and, e3]
    exact k
theorem tr_X11_nest : ∀ (as : List AV) (h : AH) (K : Int32 → AH → Prop), T_X11_nest as h K → ∃ (q : Nat) (r : List AV), as = aR 15 q :: r := by
  intro as h K hk
  match as, hk with
  | [.inr (.inr (.inl q0)), .inl q1], hk =>
    obtain ⟨hb, hk⟩ := tif_inv hk
    simp only [Bool.and_eq_true] at hb
    obtain ⟨e0, e1⟩ := hb
    obtain ⟨a0, b0⟩ := q0
    have f0 : a0 = 15 := Nat.eq_of_beq_eq_true e0
    subst f0
    have f1 : b0 = 0 := Nat.eq_of_beq_eq_true e1
    subst f1
    exact ⟨_, _, rfl⟩
theorem tw_X11_nest : ∀ (as : List AV) (h : AH) (K : Int32 → AH → Prop), T_X11_nest as h K → (ini as).length ≤ mNL M_X11_nest ∧ AW M_X11_nest (.inl K) 0 (initL (mNL M_X11_nest) as) [] h 0 0 := by
  intro as h K hk
  match as, hk with
  | [.inr (.inr (.inl q0)), .inl q1], hk =>
    obtain ⟨hb, hk⟩ := tif_inv hk
    simp only [Bool.and_eq_true] at hb
    obtain ⟨e0, e1⟩ := hb
    obtain ⟨a0, b0⟩ := q0
    have f0 : a0 = 15 := Nat.eq_of_beq_eq_true e0
    subst f0
    have f1 : b0 = 0 := Nat.eq_of_beq_eq_true e1
    subst f1
    exact ⟨Nat.le_of_ble_eq_true rfl, snd_X11_nest q1 hk⟩

def R_noon (V : Vm) : Int32 := if noonV V then nI 0 else nI ((35 - V 10 2) % 24)
def S_X11_noon (h : AH) (K : Int32 → AH → Prop) : Prop := ∃ V, RV (h.1 16 0) V ∧ WF V ∧ K (R_noon V) h
def T_X11_noon : List AV → AH → (Int32 → AH → Prop) → Prop := fun as h K => match as with
  | [.inr (.inr (.inl q0))] => tif (Nat.beq q0.1 15 && Nat.beq q0.2 0) (S_X11_noon h K)
  | _ => False

def M_X11_noon : MI := (RX11, cX11_noon, 1, [(0, .aload_n 0, []), (1, .getfield 9, []), (4, .invokestatic 71, []), (7, .ifCond .eq 7, [14]), (10, .iconst 0, []), (11, .goto 15, [26]), (14, .bipush 35, []), (16, .aload_n 0, []), (17, .getfield 9, []), (20, .iconst 2, []), (21, .iaload, []), (22, .isub, []), (23, .bipush 24, []), (25, .irem, []), (26, .ireturn, [])], [(9, (15, 0, 1, 16, 0))], [], [], [(214, (1, 2, 42, 0, 0, .inl T_X11_isNoon))], 2, 42, 0, 0)
theorem ok_X11_noon : MOK M_X11_noon := ⟨by decide +kernel, List.forall_mem_cons.mpr ⟨fl_RX11_9, fun _ h => absurd h List.not_mem_nil⟩, fun _ h => absurd h List.not_mem_nil, fun _ h => absurd h List.not_mem_nil, List.forall_mem_cons.mpr ⟨⟨Nat.le_of_ble_eq_true rfl, Nat.le_of_ble_eq_true rfl, cr_RX11_214⟩, fun _ h => absurd h List.not_mem_nil⟩⟩
set_option maxRecDepth 100000 in
theorem vc_X11_noon {K : Int32 → AH → Prop} {h : AH}  (H : S_X11_isNoon 0 h (fun x2 h1 => ((x2 = 0) → inR (nI 2) 62 ∧ (¬ (nI 24) = 0) ∧ K (((nI 35) - (h1.1 16 0 (nI 2).toNatClampNeg)) - ((nI 35) - (h1.1 16 0 (nI 2).toNatClampNeg)) / (nI 24) * (nI 24)) h1) ∧ (¬ (x2 = 0) → K (nI 0) h1))) : AW M_X11_noon (.inl K) 0 [some (aR 15 0)] [] h 0 0 := AW_go (cuts := []) ok_X11_noon 400 H

theorem snd_X11_noon {h : AH} {K : Int32 → AH → Prop} (k : S_X11_noon h K) : AW M_X11_noon (.inl K) 0 [some (aR 15 0)] [] h 0 0 := by
  obtain ⟨V, hr, hw, k⟩ := k
  have hh := hw.2.2.1
  refine vc_X11_noon ⟨V, hr, hw, ?_⟩
  obtain ⟨-, -, -, -, -, -, -, -, -, -, -, -, e2, -⟩ := RVs hr
  unfold R_noon at k
  simp only [if10_eq]
  simp (disch := omega) only [n_inT, n_cl, true_and, e2, n_sub, n_rem]
  refine ⟨fun q => ⟨by decide, ?_⟩, fun q => ?_⟩
  · rw [if_neg q] at k; exact k
  · rw [if_pos (Decidable.not_not.mp q)] at k; exact k
theorem tr_X11_noon : ∀ (as : List AV) (h : AH) (K : Int32 → AH → Prop), T_X11_noon as h K → ∃ (q : Nat) (r : List AV), as = aR 15 q :: r := by
  intro as h K hk
  match as, hk with
  | [.inr (.inr (.inl q0))], hk =>
    obtain ⟨hb, hk⟩ := tif_inv hk
    simp only [Bool.and_eq_true] at hb
    obtain ⟨e0, e1⟩ := hb
    obtain ⟨a0, b0⟩ := q0
    have f0 : a0 = 15 := Nat.eq_of_beq_eq_true e0
    subst f0
    have f1 : b0 = 0 := Nat.eq_of_beq_eq_true e1
    subst f1
    exact ⟨_, _, rfl⟩
theorem tw_X11_noon : ∀ (as : List AV) (h : AH) (K : Int32 → AH → Prop), T_X11_noon as h K → (ini as).length ≤ mNL M_X11_noon ∧ AW M_X11_noon (.inl K) 0 (initL (mNL M_X11_noon) as) [] h 0 0 := by
  intro as h K hk
  match as, hk with
  | [.inr (.inr (.inl q0))], hk =>
    obtain ⟨hb, hk⟩ := tif_inv hk
    simp only [Bool.and_eq_true] at hb
    obtain ⟨e0, e1⟩ := hb
    obtain ⟨a0, b0⟩ := q0
    have f0 : a0 = 15 := Nat.eq_of_beq_eq_true e0
    subst f0
    have f1 : b0 = 0 := Nat.eq_of_beq_eq_true e1
    subst f1
    exact ⟨Nat.le_of_ble_eq_true rfl, snd_X11_noon  hk⟩

def S_X11_worthOf (j : Nat) (c : Int32) (h : AH) (K : Int32 → AH → Prop) : Prop := ∃ V m, RV (h.1 16 j) V ∧ WF V ∧ m < 8 ∧ c = nI m ∧ K (nI (5 * V 0 m + V 1 m)) h
def T_X11_worthOf : List AV → AH → (Int32 → AH → Prop) → Prop := fun as h K => match as with
  | [.inr (.inr (.inl q0)), .inl q1] => tif (Nat.beq q0.1 16) (S_X11_worthOf q0.2 q1 h K)
  | _ => False

def M_X11_worthOf : MI := (RX11, cX11_worthOf, 2, [(0, .iconst 5, []), (1, .aload_n 0, []), (2, .iload_n 1, []), (3, .iconst 0, []), (4, .invokestatic 64, []), (7, .iaload, []), (8, .imul, []), (9, .aload_n 0, []), (10, .iload_n 1, []), (11, .iconst 1, []), (12, .invokestatic 64, []), (15, .iaload, []), (16, .iadd, []), (17, .ireturn, [])], [], [], [], [(193, (2, 1, 21, 0, 0, .inl T_X11_atCell))], 1, 21, 0, 0)
theorem ok_X11_worthOf : MOK M_X11_worthOf := ⟨by decide +kernel, fun _ h => absurd h List.not_mem_nil, fun _ h => absurd h List.not_mem_nil, fun _ h => absurd h List.not_mem_nil, List.forall_mem_cons.mpr ⟨⟨Nat.le_of_ble_eq_true rfl, Nat.le_of_ble_eq_true rfl, cr_RX11_193⟩, fun _ h => absurd h List.not_mem_nil⟩⟩
set_option maxRecDepth 100000 in
theorem vc_X11_worthOf {K : Int32 → AH → Prop} {h : AH} (p0 : Nat) (p1 : Int32) (H : S_X11_atCell p1 (nI 0) h (fun x2 h1 => inR x2 62 ∧ S_X11_atCell p1 (nI 1) h1 (fun x4 h3 => inR x4 62 ∧ K (((nI 5) * (h1.1 16 p0 x2.toNatClampNeg)) + (h3.1 16 p0 x4.toNatClampNeg)) h3))) : AW M_X11_worthOf (.inl K) 0 [some (aR 16 p0), some (aI p1)] [] h 0 0 := AW_go (cuts := []) ok_X11_worthOf 400 H

theorem snd_X11_worthOf (j : Nat) (c : Int32) {h : AH} {K : Int32 → AH → Prop} (k : S_X11_worthOf j c h K) : AW M_X11_worthOf (.inl K) 0 [some (aR 16 j), some (aI c)] [] h 0 0 := by
  obtain ⟨V, m, hr, hw, hm, rfl, k⟩ := k
  refine vc_X11_worthOf j (nI m) ?_
  obtain ⟨e0, e1, -⟩ := RVs hr
  simp (disch := omega) only [S_X11_atCell, pk_mul, nI_add, n_inT, n_cl, true_and, e0, e1]
  exact k
theorem tw_X11_worthOf : ∀ (as : List AV) (h : AH) (K : Int32 → AH → Prop), T_X11_worthOf as h K → (ini as).length ≤ mNL M_X11_worthOf ∧ AW M_X11_worthOf (.inl K) 0 (initL (mNL M_X11_worthOf) as) [] h 0 0 := by
  intro as h K hk
  match as, hk with
  | [.inr (.inr (.inl q0)), .inl q1], hk =>
    obtain ⟨hb, hk⟩ := tif_inv hk
    have e0 := hb
    obtain ⟨a0, b0⟩ := q0
    have f0 : a0 = 16 := Nat.eq_of_beq_eq_true e0
    subst f0
    exact ⟨Nat.le_of_ble_eq_true rfl, snd_X11_worthOf b0 q1 hk⟩
theorem cr_RX11_544 : CR RX11 (kIns 544) (2, 2, 42, 0, 0, .inl T_X11_worthOf) := crS_i (M := M_X11_worthOf) (by decide) rfl (inG (i := 1196) (w := Cond.methodLink RX11 181 yX11_worthOf) (by decide +kernel) rfl) (inG (i := 1197) (w := Cond.static yX11_worthOf) (by decide +kernel) rfl) (inG (i := 40) (w := Cond.initialized RX11) (by decide +kernel) rfl) (inG (i := 1198) (w := Cond.code yX11_worthOf cX11_worthOf 2 (some .int)) (by decide +kernel) rfl) ⟨by decide +kernel, by decide +kernel, by decide +kernel⟩ tw_X11_worthOf

def lftA (V : Vm) : Nat → Nat
  | 0 => 0
  | k + 1 => lftA V k + (5 * V 0 k + V 1 k)
def lftC (V : Vm) : Nat → Nat
  | 0 => 0
  | k + 1 => if 5 * V 0 (lftC V k) + V 1 (lftC V k) < 5 * V 0 k + V 1 k then k else lftC V k
theorem lftC_le (V : Vm) : ∀ k, lftC V k ≤ k ∧ (0 < k → lftC V k < k)
  | 0 => ⟨Nat.le_refl _, fun h => by omega⟩
  | k + 1 => by
    have := lftC_le V k
    unfold lftC
    split <;> omega
def R_left (V : Vm) (w : Int32) : Int32 := if ¬ w01 w then iI (-1) else if w = 0 then nI (lftA V 8) else nI (lftC V 8)
def S_X11_left (w : Int32) (h : AH) (K : Int32 → AH → Prop) : Prop := ∃ V, RV (h.1 16 0) V ∧ WF V ∧ K (R_left V w) h
def T_X11_left : List AV → AH → (Int32 → AH → Prop) → Prop := fun as h K => match as with
  | [.inr (.inr (.inl q0)), .inl q1] => tif (Nat.beq q0.1 15 && Nat.beq q0.2 0) (S_X11_left q1 h K)
  | _ => False

def M_X11_left : MI := (RX11, cX11_left, 5, [(0, .iload_n 1, []), (1, .iconst 0, []), (2, .iconst 1, []), (3, .invokestatic 53, []), (6, .ifCond .ne 5, [11]), (9, .iconst (-1), []), (10, .ireturn, []), (11, .iconst 0, []), (12, .istore_n 2, []), (13, .iconst 0, []), (14, .istore_n 3, []), (15, .iconst 0, []), (16, .istore 4, []), (18, .iload 4, []), (20, .bipush 8, []), (22, .if_icmp .ge 44, [66]), (25, .iload_n 2, []), (26, .aload_n 0, []), (27, .getfield 9, []), (30, .iload 4, []), (32, .invokestatic 181, []), (35, .iadd, []), (36, .istore_n 2, []), (37, .aload_n 0, []), (38, .getfield 9, []), (41, .iload 4, []), (43, .invokestatic 181, []), (46, .aload_n 0, []), (47, .getfield 9, []), (50, .iload_n 3, []), (51, .invokestatic 181, []), (54, .if_icmp .le 6, [60]), (57, .iload 4, []), (59, .istore_n 3, []), (60, .iinc 4 1, []), (63, .goto (-45), [18]), (66, .iload_n 1, []), (67, .ifCond .ne 7, [74]), (70, .iload_n 2, []), (71, .goto 4, [75]), (74, .iload_n 3, []), (75, .ireturn, [])], [(9, (15, 0, 1, 16, 0))], [], [], [(160, (3, 1, 22, 0, 0, .inl T_X11_isIn)), (544, (2, 2, 42, 0, 0, .inl T_X11_worthOf))], 2, 42, 0, 0)
theorem ok_X11_left : MOK M_X11_left := ⟨by decide +kernel, List.forall_mem_cons.mpr ⟨fl_RX11_9, fun _ h => absurd h List.not_mem_nil⟩, fun _ h => absurd h List.not_mem_nil, fun _ h => absurd h List.not_mem_nil, List.forall_mem_cons.mpr ⟨⟨Nat.le_of_ble_eq_true rfl, Nat.le_of_ble_eq_true rfl, cr_RX11_160⟩, List.forall_mem_cons.mpr ⟨⟨Nat.le_of_ble_eq_true rfl, Nat.le_of_ble_eq_true rfl, cr_RX11_544⟩, fun _ h => absurd h List.not_mem_nil⟩⟩⟩
set_option maxRecDepth 100000 in
theorem vc_X11_left {K : Int32 → AH → Prop} {h : AH} (p1 : Int32) (H : S_X11_isIn p1 (nI 0) (nI 1) h (fun x2 h1 => ((¬ x2 = 0) → AW M_X11_left (.inl K) 18 [some (aR 15 0), some (aI p1), some (aI (nI 0)), some (aI (nI 0)), some (aI (nI 0))] [] h1 0 0) ∧ (¬ (¬ x2 = 0) → K (iI (-1)) h1))) : AW M_X11_left (.inl K) 0 [some (aR 15 0), some (aI p1), none, none, none] [] h 0 0 := AW_go (cuts := [(18, [true, true, true, true, true])]) ok_X11_left 400 H
set_option maxRecDepth 100000 in
theorem vc_X11_left_18 {K : Int32 → AH → Prop} {h : AH}  (l1 : Int32) (l2 : Int32) (l3 : Int32) (l4 : Int32) (H : (((nI 8) ≤ l4) → ((¬ l1 = 0) → K l3 h) ∧ (¬ (¬ l1 = 0) → K l2 h)) ∧ (¬ ((nI 8) ≤ l4) → S_X11_worthOf 0 l4 h (fun x2 h1 => S_X11_worthOf 0 l4 h1 (fun x4 h3 => S_X11_worthOf 0 l3 h3 (fun x6 h5 => ((x4 ≤ x6) → AW M_X11_left (.inl K) 18 [some (aR 15 0), some (aI l1), some (aI (l2 + x2)), some (aI l3), some (aI (l4 + (nI 1)))] [] h5 0 0) ∧ (¬ (x4 ≤ x6) → AW M_X11_left (.inl K) 18 [some (aR 15 0), some (aI l1), some (aI (l2 + x2)), some (aI l4), some (aI (l4 + (nI 1)))] [] h5 0 0)))))) : AW M_X11_left (.inl K) 18 [some (aR 15 0), some (aI l1), some (aI l2), some (aI l3), some (aI l4)] [] h 0 0 := AW_go (cuts := [(18, [true, true, true, true, true])]) ok_X11_left 400 H

theorem lp_X11_left {V : Vm} {w : Int32} {h : AH} {K : Int32 → AH → Prop} (hr : RV (h.1 16 0) V) (hw : WF V) (k : K (if w = 0 then nI (lftA V 8) else nI (lftC V 8)) h) : ∀ r c, c + r = 8 → AW M_X11_left (.inl K) 18 [some (aR 15 0), some (aI w), some (aI (nI (lftA V c))), some (aI (nI (lftC V c))), some (aI (nI c))] [] h 0 0 := by
  intro r
  induction r with
  | zero =>
    intro c hc
    refine vc_X11_left_18 w _ _ (nI c) ?_
    have : c = 8 := by omega
    subst this
    simp (disch := omega) only [n_le]
    refine ⟨fun _ => ⟨fun q => ?_, fun q => ?_⟩, fun q => absurd (by omega) q⟩
    · rw [if_neg q] at k; exact k
    · rw [if_pos (Decidable.not_not.mp q)] at k; exact k
  | succ r ih =>
    intro c hc
    refine vc_X11_left_18 w _ _ (nI c) ?_
    simp (disch := omega) only [n_le, nI_add]
    have hl := lftC_le V c
    have hb1 := hw.2.2.2.2.1 c (by omega)
    have hb2 := hw.2.2.2.2.1 (lftC V c) (by omega)
    refine ⟨fun q => by omega, fun _ => ⟨V, c, hr, hw, by omega, rfl, V, c, hr, hw, by omega, rfl, V, lftC V c, hr, hw, by omega, rfl, ?_⟩⟩
    have := ih (c + 1) (by omega)
    rw [lftA, lftC] at this
    simp (disch := omega) only [n_le, nI_add]
    refine ⟨fun q => ?_, fun q => ?_⟩
    · rw [if_neg (by omega)] at this; exact this
    · rw [if_pos (by omega)] at this; exact this
theorem snd_X11_left (w : Int32) {h : AH} {K : Int32 → AH → Prop} (k : S_X11_left w h K) : AW M_X11_left (.inl K) 0 [some (aR 15 0), some (aI w), none, none, none] [] h 0 0 := by
  obtain ⟨V, hr, hw, k⟩ := k
  refine vc_X11_left w ?_
  unfold S_X11_isIn
  simp only [if10_eq]
  unfold R_left at k
  refine ⟨fun q => ?_, fun q => ?_⟩
  · rw [if_neg q] at k; exact lp_X11_left hr hw k 8 0 (by omega)
  · rw [if_pos (fun z => q (fun y => y z))] at k; exact k
theorem tr_X11_left : ∀ (as : List AV) (h : AH) (K : Int32 → AH → Prop), T_X11_left as h K → ∃ (q : Nat) (r : List AV), as = aR 15 q :: r := by
  intro as h K hk
  match as, hk with
  | [.inr (.inr (.inl q0)), .inl q1], hk =>
    obtain ⟨hb, hk⟩ := tif_inv hk
    simp only [Bool.and_eq_true] at hb
    obtain ⟨e0, e1⟩ := hb
    obtain ⟨a0, b0⟩ := q0
    have f0 : a0 = 15 := Nat.eq_of_beq_eq_true e0
    subst f0
    have f1 : b0 = 0 := Nat.eq_of_beq_eq_true e1
    subst f1
    exact ⟨_, _, rfl⟩
theorem tw_X11_left : ∀ (as : List AV) (h : AH) (K : Int32 → AH → Prop), T_X11_left as h K → (ini as).length ≤ mNL M_X11_left ∧ AW M_X11_left (.inl K) 0 (initL (mNL M_X11_left) as) [] h 0 0 := by
  intro as h K hk
  match as, hk with
  | [.inr (.inr (.inl q0)), .inl q1], hk =>
    obtain ⟨hb, hk⟩ := tif_inv hk
    simp only [Bool.and_eq_true] at hb
    obtain ⟨e0, e1⟩ := hb
    obtain ⟨a0, b0⟩ := q0
    have f0 : a0 = 15 := Nat.eq_of_beq_eq_true e0
    subst f0
    have f1 : b0 = 0 := Nat.eq_of_beq_eq_true e1
    subst f1
    exact ⟨Nat.le_of_ble_eq_true rfl, snd_X11_left q1 hk⟩

def lft1 (V : Vm) (e : Nat) : Nat → Nat
  | 0 => 0
  | k + 1 => lft1 V e k + (if vWt V k ≤ V 4 e + V 5 e then 1 else 0)
theorem lft1_le (V : Vm) (e : Nat) : ∀ k, lft1 V e k ≤ k
  | 0 => Nat.le_refl _
  | k + 1 => by have := lft1_le V e k; unfold lft1; split <;> omega
def R_lifts (V : Vm) (e w : Int32) : Int32 := if ¬ (nI 0 ≤ e ∧ e ≤ nI (V 10 0) - nI 1) ∨ ¬ w01 w then iI (-1) else if w = 0 then nI (V 4 (nN e) + V 5 (nN e)) else nI (lft1 V (nN e) (V 10 1))
def S_X11_lifts (e w : Int32) (h : AH) (K : Int32 → AH → Prop) : Prop := ∃ V, RV (h.1 16 0) V ∧ WF V ∧ K (R_lifts V e w) h
def T_X11_lifts : List AV → AH → (Int32 → AH → Prop) → Prop := fun as h K => match as with
  | [.inr (.inr (.inl q0)), .inl q1, .inl q2] => tif (Nat.beq q0.1 15 && Nat.beq q0.2 0) (S_X11_lifts q1 q2 h K)
  | _ => False

def M_X11_lifts : MI := (RX11, cX11_lifts, 5, [(0, .aload_n 0, []), (1, .iload_n 1, []), (2, .invokevirtual 155, []), (5, .ifCond .eq 12, [17]), (8, .iload_n 2, []), (9, .iconst 0, []), (10, .iconst 1, []), (11, .invokestatic 53, []), (14, .ifCond .ne 5, [19]), (17, .iconst (-1), []), (18, .ireturn, []), (19, .iload_n 2, []), (20, .ifCond .ne 12, [32]), (23, .aload_n 0, []), (24, .getfield 9, []), (27, .iload_n 1, []), (28, .invokestatic 82, []), (31, .ireturn, []), (32, .iconst 0, []), (33, .istore_n 3, []), (34, .iconst 0, []), (35, .istore 4, []), (37, .iload 4, []), (39, .aload_n 0, []), (40, .getfield 9, []), (43, .iconst 1, []), (44, .iaload, []), (45, .if_icmp .ge 37, [82]), (48, .iload_n 3, []), (49, .aload_n 0, []), (50, .getfield 9, []), (53, .iload 4, []), (55, .invokestatic 68, []), (58, .aload_n 0, []), (59, .getfield 9, []), (62, .iload_n 1, []), (63, .invokestatic 82, []), (66, .if_icmp .gt 7, [73]), (69, .iconst 1, []), (70, .goto 4, [74]), (73, .iconst 0, []), (74, .iadd, []), (75, .istore_n 3, []), (76, .iinc 4 1, []), (79, .goto (-42), [37]), (82, .iload_n 3, []), (83, .ireturn, [])], [(9, (15, 0, 1, 16, 0))], [], [], [(465, (2, 2, 43, 0, 0, .inl T_X11_isEagle)), (160, (3, 1, 22, 0, 0, .inl T_X11_isIn)), (247, (2, 2, 42, 0, 0, .inl T_X11_power)), (205, (2, 2, 43, 0, 0, .inl T_X11_weight))], 2, 43, 0, 0)
theorem ok_X11_lifts : MOK M_X11_lifts := ⟨by decide +kernel, List.forall_mem_cons.mpr ⟨fl_RX11_9, fun _ h => absurd h List.not_mem_nil⟩, fun _ h => absurd h List.not_mem_nil, fun _ h => absurd h List.not_mem_nil, List.forall_mem_cons.mpr ⟨⟨Nat.le_of_ble_eq_true rfl, Nat.le_of_ble_eq_true rfl, cr_RX11_465⟩, List.forall_mem_cons.mpr ⟨⟨Nat.le_of_ble_eq_true rfl, Nat.le_of_ble_eq_true rfl, cr_RX11_160⟩, List.forall_mem_cons.mpr ⟨⟨Nat.le_of_ble_eq_true rfl, Nat.le_of_ble_eq_true rfl, cr_RX11_247⟩, List.forall_mem_cons.mpr ⟨⟨Nat.le_of_ble_eq_true rfl, Nat.le_of_ble_eq_true rfl, cr_RX11_205⟩, fun _ h => absurd h List.not_mem_nil⟩⟩⟩⟩⟩
set_option maxRecDepth 100000 in
theorem vc_X11_lifts {K : Int32 → AH → Prop} {h : AH} (p1 : Int32) (p2 : Int32) (H : S_X11_isEagle p1 h (fun x2 h1 => ((x2 = 0) → K (iI (-1)) h1) ∧ (¬ (x2 = 0) → S_X11_isIn p2 (nI 0) (nI 1) h1 (fun x4 h3 => ((¬ x4 = 0) → ((¬ p2 = 0) → AW M_X11_lifts (.inl K) 37 [some (aR 15 0), some (aI p1), none, some (aI (nI 0)), some (aI (nI 0))] [] h3 0 0) ∧ (¬ (¬ p2 = 0) → S_X11_power 0 p1 h3 (fun x6 h5 => K x6 h5))) ∧ (¬ (¬ x4 = 0) → K (iI (-1)) h3))))) : AW M_X11_lifts (.inl K) 0 [some (aR 15 0), some (aI p1), some (aI p2), none, none] [] h 0 0 := AW_go (cuts := [(37, [true, true, false, true, true])]) ok_X11_lifts 400 H
set_option maxRecDepth 100000 in
theorem vc_X11_lifts_37 {K : Int32 → AH → Prop} {h : AH}  (l1 : Int32) (l3 : Int32) (l4 : Int32) (H : inR (nI 1) 62 ∧ (((h.1 16 0 (nI 1).toNatClampNeg) ≤ l4) → K l3 h) ∧ (¬ ((h.1 16 0 (nI 1).toNatClampNeg) ≤ l4) → S_X11_weight 0 l4 h (fun x2 h1 => S_X11_power 0 l1 h1 (fun x4 h3 => ((x4 < x2) → AW M_X11_lifts (.inl K) 37 [some (aR 15 0), some (aI l1), none, some (aI (l3 + (nI 0))), some (aI (l4 + (nI 1)))] [] h3 0 0) ∧ (¬ (x4 < x2) → AW M_X11_lifts (.inl K) 37 [some (aR 15 0), some (aI l1), none, some (aI (l3 + (nI 1))), some (aI (l4 + (nI 1)))] [] h3 0 0))))) : AW M_X11_lifts (.inl K) 37 [some (aR 15 0), some (aI l1), none, some (aI l3), some (aI l4)] [] h 0 0 := AW_go (cuts := [(37, [true, true, false, true, true])]) ok_X11_lifts 400 H

theorem lp_X11_lifts {V : Vm} {e : Nat} {h : AH} {K : Int32 → AH → Prop} (hr : RV (h.1 16 0) V) (hw : WF V) (he : e < V 10 0) (k : K (nI (lft1 V e (V 10 1))) h) : ∀ r c, c + r = V 10 1 → AW M_X11_lifts (.inl K) 37 [some (aR 15 0), some (aI (nI e)), none, some (aI (nI (lft1 V e c))), some (aI (nI c))] [] h 0 0 := by
  have h7 := hw.2.1
  obtain ⟨-, -, -, -, -, -, -, -, -, -, -, e1, -⟩ := RVs hr
  intro r
  induction r with
  | zero =>
    intro c hc
    refine vc_X11_lifts_37 (nI e) _ (nI c) ?_
    have : c = V 10 1 := by omega
    subst this
    simp (disch := omega) only [n_inT, n_cl, true_and, e1, n_le]
    exact ⟨fun _ => k, fun q => absurd (by omega) q⟩
  | succ r ih =>
    intro c hc
    refine vc_X11_lifts_37 (nI e) _ (nI c) ?_
    have hbe := hw.2.2.2.2.2.1 e he
    have hwt : vWt V c ≤ 38 := wt_le (hw.2.2.2.2.2.2 c (by omega)).2
    simp (disch := omega) only [n_inT, n_cl, true_and, e1, n_le, nI_add]
    refine ⟨fun q => by omega, fun _ => ⟨V, c, ⟨hr, hw, by omega, rfl⟩, V, e, hr, hw, he, rfl, ?_⟩⟩
    have := ih (c + 1) (by omega)
    rw [lft1] at this
    simp (disch := omega) only [n_lt]
    refine ⟨fun q => ?_, fun q => ?_⟩
    · rw [if_neg (by omega)] at this; exact this
    · rw [if_pos (by omega)] at this; exact this
theorem snd_X11_lifts (e w : Int32) {h : AH} {K : Int32 → AH → Prop} (k : S_X11_lifts e w h K) : AW M_X11_lifts (.inl K) 0 [some (aR 15 0), some (aI e), some (aI w), none, none] [] h 0 0 := by
  obtain ⟨V, hr, hw, k⟩ := k
  have h4 := hw.1
  refine vc_X11_lifts e w ?_
  obtain ⟨-, -, -, -, -, -, -, -, -, -, e0, -⟩ := RVs hr
  unfold S_X11_isIn S_X11_isEagle
  rw [e0]
  simp only [if10_eq]
  unfold R_lifts at k
  refine ⟨fun q => ?_, fun q => ⟨fun q2 => ?_, fun q2 => ?_⟩⟩
  · rw [if_pos (Or.inl q)] at k; exact k
  · have q := Decidable.not_not.mp q
    rw [if_neg (by rintro (z | z); exact z q; exact q2 z)] at k
    obtain ⟨i, hi, rfl⟩ := (in_iff (by omega)).mp q
    unfold nN at k
    rw [n_cl (by omega)] at k
    refine ⟨fun q3 => ?_, fun q3 => ⟨V, i, hr, hw, hi, rfl, ?_⟩⟩
    · rw [if_neg q3] at k; exact lp_X11_lifts hr hw hi k (V 10 1) 0 (by omega)
    · rw [if_pos (Decidable.not_not.mp q3)] at k; exact k
  · rw [if_pos (Or.inr (fun z => q2 (fun y => y z)))] at k; exact k
theorem tr_X11_lifts : ∀ (as : List AV) (h : AH) (K : Int32 → AH → Prop), T_X11_lifts as h K → ∃ (q : Nat) (r : List AV), as = aR 15 q :: r := by
  intro as h K hk
  match as, hk with
  | [.inr (.inr (.inl q0)), .inl q1, .inl q2], hk =>
    obtain ⟨hb, hk⟩ := tif_inv hk
    simp only [Bool.and_eq_true] at hb
    obtain ⟨e0, e1⟩ := hb
    obtain ⟨a0, b0⟩ := q0
    have f0 : a0 = 15 := Nat.eq_of_beq_eq_true e0
    subst f0
    have f1 : b0 = 0 := Nat.eq_of_beq_eq_true e1
    subst f1
    exact ⟨_, _, rfl⟩
theorem tw_X11_lifts : ∀ (as : List AV) (h : AH) (K : Int32 → AH → Prop), T_X11_lifts as h K → (ini as).length ≤ mNL M_X11_lifts ∧ AW M_X11_lifts (.inl K) 0 (initL (mNL M_X11_lifts) as) [] h 0 0 := by
  intro as h K hk
  match as, hk with
  | [.inr (.inr (.inl q0)), .inl q1, .inl q2], hk =>
    obtain ⟨hb, hk⟩ := tif_inv hk
    simp only [Bool.and_eq_true] at hb
    obtain ⟨e0, e1⟩ := hb
    obtain ⟨a0, b0⟩ := q0
    have f0 : a0 = 15 := Nat.eq_of_beq_eq_true e0
    subst f0
    have f1 : b0 = 0 := Nat.eq_of_beq_eq_true e1
    subst f1
    exact ⟨Nat.le_of_ble_eq_true rfl, snd_X11_lifts q1 q2 hk⟩


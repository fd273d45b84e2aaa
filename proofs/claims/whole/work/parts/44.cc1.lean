/-! ===== the component's calls: what is told ===== -/
theorem w_if {p : Prop} [Decidable p] {A B : Prop} (ha : p → A) (hb : ¬ p → B) : ((if p then nI 1 else nI 0) = 0 → B) ∧ (¬ (if p then nI 1 else nI 0) = 0 → A) := ⟨fun q => hb (if10_eq.mp q), fun q => ha (Decidable.not_not.mp (fun z => q (if10_eq.mpr z)))⟩
theorem w_ni {p : Prop} [Decidable p] {A B : Prop} (ha : p → A) (hb : ¬ p → B) : (¬ (if p then nI 1 else nI 0) = 0 → A) ∧ (¬ ¬ (if p then nI 1 else nI 0) = 0 → B) := ⟨fun q => ha (Decidable.not_not.mp (fun z => q (if10_eq.mpr z))), fun q => hb (if10_eq.mp (Decidable.not_not.mp q))⟩
theorem nn_if {p : Prop} [Decidable p] {A B : Prop} (ha : p → A) (hb : ¬ p → B) : (¬ p → B) ∧ (¬ ¬ p → A) := ⟨hb, fun q => ha (Decidable.not_not.mp q)⟩
theorem sw_no {x : Int32} {n : Nat} (hn : n < 2147483648) (h : x.toInt < 0 ∨ (n : Int) < x.toInt) : ¬ (nI 0 ≤ x ∧ x ≤ nI n) := by
  intro z
  obtain ⟨k, hk, rfl⟩ := (in_n hn).mp z
  rw [n_toInt (by omega)] at h
  omega
def S_X10_cellOf (c w : Int32) (h : AH) (K : Int32 → AH → Prop) : Prop := ∃ V, CV h 0 V ∧ WF V ∧ K (R_cellOf V c w) h
def T_X10_cellOf : List AV → AH → (Int32 → AH → Prop) → Prop := fun as h K => match as with
  | [.inr (.inr (.inl q0)), .inl q1, .inl q2] => tif (Nat.beq q0.1 0 && Nat.beq q0.2 0) (S_X10_cellOf q1 q2 h K)
  | _ => False

def M_X10_cellOf : MI := (RX10, cX10_cellOf, 3, [(0, .iload_n 1, []), (1, .iconst 0, []), (2, .bipush 7, []), (4, .invokestatic 59, []), (7, .ifCond .ne 5, [12]), (10, .iconst (-1), []), (11, .ireturn, []), (12, .iload_n 2, []), (13, .tableswitch 57 0 2 #[27, 37, 47], [70, 40, 50, 60]), (40, .aload_n 0, []), (41, .getfield 10, []), (44, .getfield 63, []), (47, .iload_n 1, []), (48, .iaload, []), (49, .ireturn, []), (50, .aload_n 0, []), (51, .getfield 10, []), (54, .getfield 66, []), (57, .iload_n 1, []), (58, .iaload, []), (59, .ireturn, []), (60, .aload_n 0, []), (61, .getfield 10, []), (64, .getfield 69, []), (67, .iload_n 1, []), (68, .iaload, []), (69, .ireturn, []), (70, .iconst (-1), []), (71, .ireturn, [])], [(10, (0, 0, 1, 1, 0)), (63, (1, 0, 1, 2, 0)), (66, (1, 1, 1, 3, 0)), (69, (1, 2, 1, 4, 0))], [], [], [(178, (3, 1, 22, 0, 0, .inl T_X10_within))], 1, 22, 0, 0)
theorem ok_X10_cellOf : MOK M_X10_cellOf := ⟨by decide +kernel, List.forall_mem_cons.mpr ⟨fl_RX10_10, List.forall_mem_cons.mpr ⟨fl_RX10_63, List.forall_mem_cons.mpr ⟨fl_RX10_66, List.forall_mem_cons.mpr ⟨fl_RX10_69, fun _ h => absurd h List.not_mem_nil⟩⟩⟩⟩, fun _ h => absurd h List.not_mem_nil, fun _ h => absurd h List.not_mem_nil, List.forall_mem_cons.mpr ⟨⟨Nat.le_of_ble_eq_true rfl, Nat.le_of_ble_eq_true rfl, cr_RX10_178⟩, fun _ h => absurd h List.not_mem_nil⟩⟩
set_option maxRecDepth 100000 in
theorem vc_X10_cellOf {K : Int32 → AH → Prop} {h : AH} (p1 : Int32) (p2 : Int32) (H : S_X10_within p1 (nI 0) (nI 7) h (fun x2 h1 => ((¬ x2 = 0) → (p2.toInt < 0 ∨ 2 < p2.toInt → K (iI (-1)) h1) ∧ (p2 = nI 0 → inR p1 8 ∧ K (h1.1 2 0 p1.toNatClampNeg) h1) ∧ (p2 = nI 1 → inR p1 8 ∧ K (h1.1 3 0 p1.toNatClampNeg) h1) ∧ (p2 = nI 2 → inR p1 8 ∧ K (h1.1 4 0 p1.toNatClampNeg) h1) ∧ True) ∧ (¬ (¬ x2 = 0) → K (iI (-1)) h1))) : AW M_X10_cellOf (.inl K) 0 [some (aR 0 0), some (aI p1), some (aI p2)] [] h 0 0 := AW_go (cuts := []) ok_X10_cellOf 400 H

theorem snd_X10_cellOf (c w : Int32) {h : AH} {K : Int32 → AH → Prop} (k : S_X10_cellOf c w h K) : AW M_X10_cellOf (.inl K) 0 [some (aR 0 0), some (aI c), some (aI w)] [] h 0 0 := by
  obtain ⟨V, cv, hw, k⟩ := k
  obtain ⟨e0, e1, e2, -⟩ := CVs cv
  unfold R_cellOf at k
  refine vc_X10_cellOf c w (w_ni (fun q => ?_) (fun q => ?_))
  · obtain ⟨m, hm, rfl⟩ := in8_iff.mp q
    refine ⟨fun z => ?_, fun z => ?_, fun z => ?_, fun z => ?_, trivial⟩
    · rw [if_neg (fun y => sw_no (n := 2) (by omega) z y.2)] at k; exact k
    all_goals
      subst z
      rw [if_pos ⟨q, by decide⟩] at k
      unfold nN at k
      rw [n_cl (show m < 2147483648 by omega)] at k
      simp (disch := omega) only [n_inT, n_cl, true_and, e0, e1, e2] at k ⊢
      exact k
  · rw [if_neg (fun z => q z.1)] at k; exact k
theorem tr_X10_cellOf : ∀ (as : List AV) (h : AH) (K : Int32 → AH → Prop), T_X10_cellOf as h K → ∃ (q : Nat) (r : List AV), as = aR 0 q :: r := by
  intro as h K hk
  match as, hk with
  | [.inr (.inr (.inl q0)), .inl q1, .inl q2], hk =>
    obtain ⟨hb, hk⟩ := tif_inv hk
    simp only [Bool.and_eq_true] at hb
    obtain ⟨e0, e1⟩ := hb
    obtain ⟨a0, b0⟩ := q0
    have f0 : a0 = 0 := Nat.eq_of_beq_eq_true e0
    subst f0
    have f1 : b0 = 0 := Nat.eq_of_beq_eq_true e1
    subst f1
    exact ⟨_, _, rfl⟩
theorem tw_X10_cellOf : ∀ (as : List AV) (h : AH) (K : Int32 → AH → Prop), T_X10_cellOf as h K → (ini as).length ≤ mNL M_X10_cellOf ∧ AW M_X10_cellOf (.inl K) 0 (initL (mNL M_X10_cellOf) as) [] h 0 0 := by
  intro as h K hk
  match as, hk with
  | [.inr (.inr (.inl q0)), .inl q1, .inl q2], hk =>
    obtain ⟨hb, hk⟩ := tif_inv hk
    simp only [Bool.and_eq_true] at hb
    obtain ⟨e0, e1⟩ := hb
    obtain ⟨a0, b0⟩ := q0
    have f0 : a0 = 0 := Nat.eq_of_beq_eq_true e0
    subst f0
    have f1 : b0 = 0 := Nat.eq_of_beq_eq_true e1
    subst f1
    exact ⟨Nat.le_of_ble_eq_true rfl, snd_X10_cellOf q1 q2 hk⟩

def S_X10_eagle (c w : Int32) (h : AH) (K : Int32 → AH → Prop) : Prop := ∃ V, CV h 0 V ∧ WF V ∧ K (R_eagle V c w) h
def T_X10_eagle : List AV → AH → (Int32 → AH → Prop) → Prop := fun as h K => match as with
  | [.inr (.inr (.inl q0)), .inl q1, .inl q2] => tif (Nat.beq q0.1 0 && Nat.beq q0.2 0) (S_X10_eagle q1 q2 h K)
  | _ => False

def M_X10_eagle : MI := (RX10, cX10_eagle, 3, [(0, .iload_n 1, []), (1, .iconst 0, []), (2, .aload_n 0, []), (3, .getfield 10, []), (6, .getfield 72, []), (9, .iconst 1, []), (10, .isub, []), (11, .invokestatic 59, []), (14, .ifCond .ne 5, [19]), (17, .iconst (-1), []), (18, .ireturn, []), (19, .iload_n 2, []), (20, .tableswitch 72 0 3 #[32, 42, 52, 62], [92, 52, 62, 72, 82]), (52, .aload_n 0, []), (53, .getfield 10, []), (56, .getfield 75, []), (59, .iload_n 1, []), (60, .iaload, []), (61, .ireturn, []), (62, .aload_n 0, []), (63, .getfield 10, []), (66, .getfield 78, []), (69, .iload_n 1, []), (70, .iaload, []), (71, .ireturn, []), (72, .aload_n 0, []), (73, .getfield 10, []), (76, .getfield 81, []), (79, .iload_n 1, []), (80, .iaload, []), (81, .ireturn, []), (82, .aload_n 0, []), (83, .getfield 10, []), (86, .getfield 84, []), (89, .iload_n 1, []), (90, .iaload, []), (91, .ireturn, []), (92, .iconst (-1), []), (93, .ireturn, [])], [(10, (0, 0, 1, 1, 0)), (72, (1, 4, 0, 0, 0)), (75, (1, 5, 1, 6, 0)), (78, (1, 6, 1, 7, 0)), (81, (1, 7, 1, 8, 0)), (84, (1, 8, 1, 9, 0))], [], [], [(178, (3, 1, 22, 0, 0, .inl T_X10_within))], 1, 22, 0, 0)
theorem ok_X10_eagle : MOK M_X10_eagle := ⟨by decide +kernel, List.forall_mem_cons.mpr ⟨fl_RX10_10, List.forall_mem_cons.mpr ⟨fl_RX10_72, List.forall_mem_cons.mpr ⟨fl_RX10_75, List.forall_mem_cons.mpr ⟨fl_RX10_78, List.forall_mem_cons.mpr ⟨fl_RX10_81, List.forall_mem_cons.mpr ⟨fl_RX10_84, fun _ h => absurd h List.not_mem_nil⟩⟩⟩⟩⟩⟩, fun _ h => absurd h List.not_mem_nil, fun _ h => absurd h List.not_mem_nil, List.forall_mem_cons.mpr ⟨⟨Nat.le_of_ble_eq_true rfl, Nat.le_of_ble_eq_true rfl, cr_RX10_178⟩, fun _ h => absurd h List.not_mem_nil⟩⟩
set_option maxRecDepth 100000 in
theorem vc_X10_eagle {K : Int32 → AH → Prop} {h : AH} (p1 : Int32) (p2 : Int32) (H : S_X10_within p1 (nI 0) ((h.1 1 0 4) - (nI 1)) h (fun x2 h1 => ((¬ x2 = 0) → (p2.toInt < 0 ∨ 3 < p2.toInt → K (iI (-1)) h1) ∧ (p2 = nI 0 → inR p1 4 ∧ K (h1.1 6 0 p1.toNatClampNeg) h1) ∧ (p2 = nI 1 → inR p1 4 ∧ K (h1.1 7 0 p1.toNatClampNeg) h1) ∧ (p2 = nI 2 → inR p1 4 ∧ K (h1.1 8 0 p1.toNatClampNeg) h1) ∧ (p2 = nI 3 → inR p1 4 ∧ K (h1.1 9 0 p1.toNatClampNeg) h1) ∧ True) ∧ (¬ (¬ x2 = 0) → K (iI (-1)) h1))) : AW M_X10_eagle (.inl K) 0 [some (aR 0 0), some (aI p1), some (aI p2)] [] h 0 0 := AW_go (cuts := []) ok_X10_eagle 400 H

theorem snd_X10_eagle (c w : Int32) {h : AH} {K : Int32 → AH → Prop} (k : S_X10_eagle c w h K) : AW M_X10_eagle (.inl K) 0 [some (aR 0 0), some (aI c), some (aI w)] [] h 0 0 := by
  obtain ⟨V, cv, hw, k⟩ := k
  have h4 := hw.1
  obtain ⟨-, -, -, -, e4, e5, e6, e7, e0, -⟩ := CVs cv
  unfold R_eagle at k
  refine vc_X10_eagle c w ?_
  rw [e0]
  refine w_ni (fun q => ?_) (fun q => ?_)
  · obtain ⟨m, hm, rfl⟩ := (in_iff (by omega)).mp q
    refine ⟨fun z => ?_, fun z => ?_, fun z => ?_, fun z => ?_, fun z => ?_, trivial⟩
    · rw [if_neg (fun y => sw_no (n := 3) (by omega) z y.2)] at k; exact k
    all_goals
      subst z
      rw [if_pos ⟨q, by decide⟩] at k
      unfold nN at k
      rw [n_cl (show m < 2147483648 by omega)] at k
      simp (disch := omega) only [n_inT, n_cl, true_and, e4, e5, e6, e7] at k ⊢
      exact k
  · rw [if_neg (fun z => q z.1)] at k; exact k
theorem tr_X10_eagle : ∀ (as : List AV) (h : AH) (K : Int32 → AH → Prop), T_X10_eagle as h K → ∃ (q : Nat) (r : List AV), as = aR 0 q :: r := by
  intro as h K hk
  match as, hk with
  | [.inr (.inr (.inl q0)), .inl q1, .inl q2], hk =>
    obtain ⟨hb, hk⟩ := tif_inv hk
    simp only [Bool.and_eq_true] at hb
    obtain ⟨e0, e1⟩ := hb
    obtain ⟨a0, b0⟩ := q0
    have f0 : a0 = 0 := Nat.eq_of_beq_eq_true e0
    subst f0
    have f1 : b0 = 0 := Nat.eq_of_beq_eq_true e1
    subst f1
    exact ⟨_, _, rfl⟩
theorem tw_X10_eagle : ∀ (as : List AV) (h : AH) (K : Int32 → AH → Prop), T_X10_eagle as h K → (ini as).length ≤ mNL M_X10_eagle ∧ AW M_X10_eagle (.inl K) 0 (initL (mNL M_X10_eagle) as) [] h 0 0 := by
  intro as h K hk
  match as, hk with
  | [.inr (.inr (.inl q0)), .inl q1, .inl q2], hk =>
    obtain ⟨hb, hk⟩ := tif_inv hk
    simp only [Bool.and_eq_true] at hb
    obtain ⟨e0, e1⟩ := hb
    obtain ⟨a0, b0⟩ := q0
    have f0 : a0 = 0 := Nat.eq_of_beq_eq_true e0
    subst f0
    have f1 : b0 = 0 := Nat.eq_of_beq_eq_true e1
    subst f1
    exact ⟨Nat.le_of_ble_eq_true rfl, snd_X10_eagle q1 q2 hk⟩

def S_X10_sheep (c w : Int32) (h : AH) (K : Int32 → AH → Prop) : Prop := ∃ V, CV h 0 V ∧ WF V ∧ K (R_sheep V c w) h
def T_X10_sheep : List AV → AH → (Int32 → AH → Prop) → Prop := fun as h K => match as with
  | [.inr (.inr (.inl q0)), .inl q1, .inl q2] => tif (Nat.beq q0.1 0 && Nat.beq q0.2 0) (S_X10_sheep q1 q2 h K)
  | _ => False

def M_X10_sheep : MI := (RX10, cX10_sheep, 4, [(0, .aload_n 0, []), (1, .getfield 10, []), (4, .iload_n 1, []), (5, .invokevirtual 87, []), (8, .astore_n 3, []), (9, .aload_n 3, []), (10, .ifnonnull 5, [15]), (13, .iconst (-1), []), (14, .ireturn, []), (15, .iload_n 2, []), (16, .tableswitch 70 0 5 #[40, 45, 50, 55, 60, 65], [86, 56, 61, 66, 71, 76, 81]), (56, .aload_n 3, []), (57, .getfield 91, []), (60, .ireturn, []), (61, .aload_n 3, []), (62, .getfield 96, []), (65, .ireturn, []), (66, .aload_n 3, []), (67, .getfield 99, []), (70, .ireturn, []), (71, .aload_n 3, []), (72, .getfield 102, []), (75, .ireturn, []), (76, .aload_n 3, []), (77, .getfield 105, []), (80, .ireturn, []), (81, .aload_n 3, []), (82, .getfield 108, []), (85, .ireturn, []), (86, .iconst (-1), []), (87, .ireturn, [])], [(10, (0, 0, 1, 1, 0)), (91, (18, 0, 0, 0, 0)), (96, (18, 1, 0, 0, 0)), (99, (18, 2, 0, 0, 0)), (102, (18, 3, 0, 0, 0)), (105, (18, 4, 0, 0, 0)), (108, (18, 5, 0, 0, 0))], [], [], [(261, (2, 2, 43, 0, 0, .inr (.inr (.inr T_X9_sheepAt))))], 2, 43, 0, 0)
theorem ok_X10_sheep : MOK M_X10_sheep := ⟨by decide +kernel, List.forall_mem_cons.mpr ⟨fl_RX10_10, List.forall_mem_cons.mpr ⟨fl_RX10_91, List.forall_mem_cons.mpr ⟨fl_RX10_96, List.forall_mem_cons.mpr ⟨fl_RX10_99, List.forall_mem_cons.mpr ⟨fl_RX10_102, List.forall_mem_cons.mpr ⟨fl_RX10_105, List.forall_mem_cons.mpr ⟨fl_RX10_108, fun _ h => absurd h List.not_mem_nil⟩⟩⟩⟩⟩⟩⟩, fun _ h => absurd h List.not_mem_nil, fun _ h => absurd h List.not_mem_nil, List.forall_mem_cons.mpr ⟨⟨Nat.le_of_ble_eq_true rfl, Nat.le_of_ble_eq_true rfl, cr_RX10_261⟩, fun _ h => absurd h List.not_mem_nil⟩⟩
set_option maxRecDepth 100000 in
theorem vc_X10_sheep {K : Int32 → AH → Prop} {h : AH} (p1 : Int32) (p2 : Int32) (H : S_X9_sheepAt 0 p1 h (fun x2 h1 => (((x2 : Option Nat) = none) → K (iI (-1)) h1) ∧ (¬ ((x2 : Option Nat) = none) → (p2.toInt < 0 ∨ 5 < p2.toInt → K (iI (-1)) h1) ∧ (p2 = nI 0 → oE x2 fun a3 => K (h1.1 18 a3 0) h1) ∧ (p2 = nI 1 → oE x2 fun a4 => K (h1.1 18 a4 1) h1) ∧ (p2 = nI 2 → oE x2 fun a5 => K (h1.1 18 a5 2) h1) ∧ (p2 = nI 3 → oE x2 fun a6 => K (h1.1 18 a6 3) h1) ∧ (p2 = nI 4 → oE x2 fun a7 => K (h1.1 18 a7 4) h1) ∧ (p2 = nI 5 → oE x2 fun a8 => K (h1.1 18 a8 5) h1) ∧ True))) : AW M_X10_sheep (.inl K) 0 [some (aR 0 0), some (aI p1), some (aI p2), none] [] h 0 0 := AW_go (cuts := []) ok_X10_sheep 400 H

theorem snd_X10_sheep (c w : Int32) {h : AH} {K : Int32 → AH → Prop} (k : S_X10_sheep c w h K) : AW M_X10_sheep (.inl K) 0 [some (aR 0 0), some (aI c), some (aI w), none] [] h 0 0 := by
  obtain ⟨V, cv, hw, k⟩ := k
  have h7 := hw.2.1
  unfold R_sheep at k
  refine vc_X10_sheep c w ⟨V, cv, hw, fun n o hn e1 _ sp => ?_, fun q => ?_⟩
  · subst e1
    obtain ⟨a, rfl, s1, s2, s3, s4, s5, s6, s7⟩ := sp
    rw [if_pos ((in_iff (by omega)).mpr ⟨n, hn, rfl⟩)] at k
    unfold nN at k
    rw [n_cl (show n < 2147483648 by omega)] at k
    refine ⟨fun z => (by cases z), fun _ => ⟨fun z => ?_, fun z => ?_, fun z => ?_, fun z => ?_, fun z => ?_, fun z => ?_, fun z => ?_, trivial⟩⟩
    · rw [if_neg (sw_out z (by omega) (by omega) (by omega)), if_neg (sw_out z (by omega) (by omega) (by omega)), if_neg (sw_out z (by omega) (by omega) (by omega)), if_neg (sw_out z (by omega) (by omega) (by omega)), if_neg (sw_out z (by omega) (by omega) (by omega)), if_neg (sw_out z (by omega) (by omega) (by omega))] at k
      exact k
    all_goals subst z
    · show K (h.1 18 a 0) h
      rw [s1]; rw [if_pos rfl] at k; exact k
    · show K (h.1 18 a 1) h
      rw [s2]; rw [if_neg (by decide), if_pos rfl] at k; exact k
    · show K (h.1 18 a 2) h
      rw [s3]; rw [if_neg (by decide), if_neg (by decide), if_pos rfl] at k; exact k
    · show K (h.1 18 a 3) h
      rw [s4]; rw [if_neg (by decide), if_neg (by decide), if_neg (by decide), if_pos rfl] at k; exact k
    · show K (h.1 18 a 4) h
      rw [s5]; rw [if_neg (by decide), if_neg (by decide), if_neg (by decide), if_neg (by decide), if_pos rfl] at k; exact k
    · show K (h.1 18 a 5) h
      rw [s6]; rw [if_neg (by decide), if_neg (by decide), if_neg (by decide), if_neg (by decide), if_neg (by decide), if_pos rfl] at k; exact k
  · refine ⟨fun _ => ?_, fun z => absurd rfl z⟩
    rw [if_neg (fun z => q ((in_iff (by omega)).mp z))] at k
    exact k
theorem tr_X10_sheep : ∀ (as : List AV) (h : AH) (K : Int32 → AH → Prop), T_X10_sheep as h K → ∃ (q : Nat) (r : List AV), as = aR 0 q :: r := by
  intro as h K hk
  match as, hk with
  | [.inr (.inr (.inl q0)), .inl q1, .inl q2], hk =>
    obtain ⟨hb, hk⟩ := tif_inv hk
    simp only [Bool.and_eq_true] at hb
    obtain ⟨e0, e1⟩ := hb
    obtain ⟨a0, b0⟩ := q0
    have f0 : a0 = 0 := Nat.eq_of_beq_eq_true e0
    subst f0
    have f1 : b0 = 0 := Nat.eq_of_beq_eq_true e1
    subst f1
    exact ⟨_, _, rfl⟩
theorem tw_X10_sheep : ∀ (as : List AV) (h : AH) (K : Int32 → AH → Prop), T_X10_sheep as h K → (ini as).length ≤ mNL M_X10_sheep ∧ AW M_X10_sheep (.inl K) 0 (initL (mNL M_X10_sheep) as) [] h 0 0 := by
  intro as h K hk
  match as, hk with
  | [.inr (.inr (.inl q0)), .inl q1, .inl q2], hk =>
    obtain ⟨hb, hk⟩ := tif_inv hk
    simp only [Bool.and_eq_true] at hb
    obtain ⟨e0, e1⟩ := hb
    obtain ⟨a0, b0⟩ := q0
    have f0 : a0 = 0 := Nat.eq_of_beq_eq_true e0
    subst f0
    have f1 : b0 = 0 := Nat.eq_of_beq_eq_true e1
    subst f1
    exact ⟨Nat.le_of_ble_eq_true rfl, snd_X10_sheep q1 q2 hk⟩

def S_X10_nest (n : Int32) (h : AH) (K : Int32 → AH → Prop) : Prop := ∃ V, CV h 0 V ∧ WF V ∧ K (R_nest V n) h
def T_X10_nest : List AV → AH → (Int32 → AH → Prop) → Prop := fun as h K => match as with
  | [.inr (.inr (.inl q0)), .inl q1] => tif (Nat.beq q0.1 0 && Nat.beq q0.2 0) (S_X10_nest q1 h K)
  | _ => False

def M_X10_nest : MI := (RX10, cX10_nest, 2, [(0, .iload_n 1, []), (1, .iconst 0, []), (2, .iconst 3, []), (3, .invokestatic 59, []), (6, .ifCond .eq 15, [21]), (9, .aload_n 0, []), (10, .getfield 10, []), (13, .getfield 111, []), (16, .iload_n 1, []), (17, .iaload, []), (18, .goto 4, [22]), (21, .iconst (-1), []), (22, .ireturn, [])], [(10, (0, 0, 1, 1, 0)), (111, (1, 3, 1, 5, 0))], [], [], [(178, (3, 1, 22, 0, 0, .inl T_X10_within))], 1, 22, 0, 0)
theorem ok_X10_nest : MOK M_X10_nest := ⟨by decide +kernel, List.forall_mem_cons.mpr ⟨fl_RX10_10, List.forall_mem_cons.mpr ⟨fl_RX10_111, fun _ h => absurd h List.not_mem_nil⟩⟩, fun _ h => absurd h List.not_mem_nil, fun _ h => absurd h List.not_mem_nil, List.forall_mem_cons.mpr ⟨⟨Nat.le_of_ble_eq_true rfl, Nat.le_of_ble_eq_true rfl, cr_RX10_178⟩, fun _ h => absurd h List.not_mem_nil⟩⟩
set_option maxRecDepth 100000 in
theorem vc_X10_nest {K : Int32 → AH → Prop} {h : AH} (p1 : Int32) (H : S_X10_within p1 (nI 0) (nI 3) h (fun x2 h1 => ((x2 = 0) → K (iI (-1)) h1) ∧ (¬ (x2 = 0) → inR p1 4 ∧ K (h1.1 5 0 p1.toNatClampNeg) h1))) : AW M_X10_nest (.inl K) 0 [some (aR 0 0), some (aI p1)] [] h 0 0 := AW_go (cuts := []) ok_X10_nest 400 H

theorem snd_X10_nest (c : Int32) {h : AH} {K : Int32 → AH → Prop} (k : S_X10_nest c h K) : AW M_X10_nest (.inl K) 0 [some (aR 0 0), some (aI c)] [] h 0 0 := by
  obtain ⟨V, cv, hw, k⟩ := k
  obtain ⟨-, -, -, e3, -⟩ := CVs cv
  unfold R_nest at k
  refine vc_X10_nest c (w_if (fun q => ?_) (fun q => ?_))
  · rw [if_pos q] at k
    obtain ⟨i, hi, rfl⟩ := (in_n (by omega)).mp q
    unfold nN at k
    rw [n_cl (by omega)] at k
    simp (disch := omega) only [n_inT, n_cl, true_and, e3]
    exact k
  · rw [if_neg q] at k; exact k
theorem tr_X10_nest : ∀ (as : List AV) (h : AH) (K : Int32 → AH → Prop), T_X10_nest as h K → ∃ (q : Nat) (r : List AV), as = aR 0 q :: r := by
  intro as h K hk
  match as, hk with
  | [.inr (.inr (.inl q0)), .inl q1], hk =>
    obtain ⟨hb, hk⟩ := tif_inv hk
    simp only [Bool.and_eq_true] at hb
    obtain ⟨e0, e1⟩ := hb
    obtain ⟨a0, b0⟩ := q0
    have f0 : a0 = 0 := Nat.eq_of_beq_eq_true e0
    subst f0
    have f1 : b0 = 0 := Nat.eq_of_beq_eq_true e1
    subst f1
    exact ⟨_, _, rfl⟩
theorem tw_X10_nest : ∀ (as : List AV) (h : AH) (K : Int32 → AH → Prop), T_X10_nest as h K → (ini as).length ≤ mNL M_X10_nest ∧ AW M_X10_nest (.inl K) 0 (initL (mNL M_X10_nest) as) [] h 0 0 := by
  intro as h K hk
  match as, hk with
  | [.inr (.inr (.inl q0)), .inl q1], hk =>
    obtain ⟨hb, hk⟩ := tif_inv hk
    simp only [Bool.and_eq_true] at hb
    obtain ⟨e0, e1⟩ := hb
    obtain ⟨a0, b0⟩ := q0
    have f0 : a0 = 0 := Nat.eq_of_beq_eq_true e0
    subst f0
    have f1 : b0 = 0 := Nat.eq_of_beq_eq_true e1
    subst f1
    exact ⟨Nat.le_of_ble_eq_true rfl, snd_X10_nest q1 hk⟩

def S_X10_lays (c b s n : Int32) (h : AH) (K : Int32 → AH → Prop) : Prop := ∃ V, CV h 0 V ∧ WF V ∧ ∀ h', onlyV 0 h h' → CV h' 0 (M_lays V c b s n).2 → K (M_lays V c b s n).1 h'
def T_X10_lays : List AV → AH → (Int32 → AH → Prop) → Prop := fun as h K => match as with
  | [.inr (.inr (.inl q0)), .inl q1, .inl q2, .inl q3, .inl q4] => tif (Nat.beq q0.1 0 && Nat.beq q0.2 0) (S_X10_lays q1 q2 q3 q4 h K)
  | _ => False

def M_X10_lays : MI := (RX10, cX10_lays, 6, [(0, .iload_n 1, []), (1, .iconst 0, []), (2, .bipush 7, []), (4, .invokestatic 59, []), (7, .ifCond .eq 34, [41]), (10, .iload_n 2, []), (11, .iconst 0, []), (12, .bipush 9, []), (14, .invokestatic 59, []), (17, .ifCond .eq 24, [41]), (20, .iload_n 3, []), (21, .iconst 0, []), (22, .bipush 9, []), (24, .invokestatic 59, []), (27, .ifCond .eq 14, [41]), (30, .iload 4, []), (32, .iconst 0, []), (33, .bipush 9, []), (35, .invokestatic 59, []), (38, .ifCond .ne 5, [43]), (41, .iconst (-1), []), (42, .ireturn, []), (43, .aload_n 0, []), (44, .getfield 10, []), (47, .getfield 63, []), (50, .iload_n 1, []), (51, .iaload, []), (52, .istore 5, []), (54, .aload_n 0, []), (55, .getfield 10, []), (58, .iload_n 1, []), (59, .iload_n 2, []), (60, .iload_n 3, []), (61, .iload 4, []), (63, .invokevirtual 128, []), (66, .iload 5, []), (68, .ireturn, [])], [(10, (0, 0, 1, 1, 0)), (63, (1, 0, 1, 2, 0))], [], [], [(178, (3, 1, 22, 0, 0, .inl T_X10_within)), (384, (5, 1, 24, 0, 0, .inr (.inl T_X9_fillCell)))], 1, 24, 0, 0)
theorem ok_X10_lays : MOK M_X10_lays := ⟨by decide +kernel, List.forall_mem_cons.mpr ⟨fl_RX10_10, List.forall_mem_cons.mpr ⟨fl_RX10_63, fun _ h => absurd h List.not_mem_nil⟩⟩, fun _ h => absurd h List.not_mem_nil, fun _ h => absurd h List.not_mem_nil, List.forall_mem_cons.mpr ⟨⟨Nat.le_of_ble_eq_true rfl, Nat.le_of_ble_eq_true rfl, cr_RX10_178⟩, List.forall_mem_cons.mpr ⟨⟨Nat.le_of_ble_eq_true rfl, Nat.le_of_ble_eq_true rfl, cr_RX10_384⟩, fun _ h => absurd h List.not_mem_nil⟩⟩⟩
set_option maxRecDepth 100000 in
theorem vc_X10_lays {K : Int32 → AH → Prop} {h : AH} (p1 : Int32) (p2 : Int32) (p3 : Int32) (p4 : Int32) (H : S_X10_within p1 (nI 0) (nI 7) h (fun x2 h1 => ((x2 = 0) → K (iI (-1)) h1) ∧ (¬ (x2 = 0) → S_X10_within p2 (nI 0) (nI 9) h1 (fun x4 h3 => ((x4 = 0) → K (iI (-1)) h3) ∧ (¬ (x4 = 0) → S_X10_within p3 (nI 0) (nI 9) h3 (fun x6 h5 => ((x6 = 0) → K (iI (-1)) h5) ∧ (¬ (x6 = 0) → S_X10_within p4 (nI 0) (nI 9) h5 (fun x8 h7 => ((¬ x8 = 0) → inR p1 8 ∧ S_X9_fillCell 0 p1 p2 p3 p4 h7 (fun h9 => K (h7.1 2 0 p1.toNatClampNeg) h9)) ∧ (¬ (¬ x8 = 0) → K (iI (-1)) h7))))))))) : AW M_X10_lays (.inl K) 0 [some (aR 0 0), some (aI p1), some (aI p2), some (aI p3), some (aI p4), none] [] h 0 0 := AW_go (cuts := []) ok_X10_lays 400 H

theorem snd_X10_lays (c b s n : Int32) {h : AH} {K : Int32 → AH → Prop} (k : S_X10_lays c b s n h K) : AW M_X10_lays (.inl K) 0 [some (aR 0 0), some (aI c), some (aI b), some (aI s), some (aI n), none] [] h 0 0 := by
  obtain ⟨V, cv, hw, k⟩ := k
  unfold M_lays at k
  have no : ¬ (cel c ∧ (nI 0 ≤ b ∧ b ≤ nI 9) ∧ (nI 0 ≤ s ∧ s ≤ nI 9) ∧ (nI 0 ≤ n ∧ n ≤ nI 9)) → K (iI (-1)) h := fun z => by
    rw [if_neg z] at k
    exact k h (onlyV_rfl 0 h) cv
  refine vc_X10_lays c b s n (w_if (fun q1 => w_if (fun q2 => w_if (fun q3 => w_ni (fun q4 => ?_) (fun q => no (fun z => q z.2.2.2))) (fun q => no (fun z => q z.2.2.1))) (fun q => no (fun z => q z.2.1))) (fun q => no (fun z => q z.1)))
  rw [if_pos ⟨q1, q2, q3, q4⟩] at k
  obtain ⟨m, hm, rfl⟩ := in8_iff.mp q1
  obtain ⟨b, hb, rfl⟩ := (in_n (by omega)).mp q2
  obtain ⟨s, hs, rfl⟩ := (in_n (by omega)).mp q3
  obtain ⟨n, hn, rfl⟩ := (in_n (by omega)).mp q4
  unfold nN at k
  rw [n_cl (show m < 2147483648 by omega), n_cl (show b < 2147483648 by omega), n_cl (show s < 2147483648 by omega), n_cl (show n < 2147483648 by omega)] at k
  refine ⟨n_in hm (by omega), V, m, b, s, n, cv, hm, rfl, rfl, rfl, rfl, fun h' o c => ?_⟩
  rw [n_cl (show m < 2147483648 by omega), (CVs cv).1 m hm]
  exact k h' o c
theorem tr_X10_lays : ∀ (as : List AV) (h : AH) (K : Int32 → AH → Prop), T_X10_lays as h K → ∃ (q : Nat) (r : List AV), as = aR 0 q :: r := by
  intro as h K hk
  match as, hk with
  | [.inr (.inr (.inl q0)), .inl q1, .inl q2, .inl q3, .inl q4], hk =>
    obtain ⟨hb, hk⟩ := tif_inv hk
    simp only [Bool.and_eq_true] at hb
    obtain ⟨e0, e1⟩ := hb
    obtain ⟨a0, b0⟩ := q0
    have f0 : a0 = 0 := Nat.eq_of_beq_eq_true e0
    subst f0
    have f1 : b0 = 0 := Nat.eq_of_beq_eq_true e1
    subst f1
    exact ⟨_, _, rfl⟩
theorem tw_X10_lays : ∀ (as : List AV) (h : AH) (K : Int32 → AH → Prop), T_X10_lays as h K → (ini as).length ≤ mNL M_X10_lays ∧ AW M_X10_lays (.inl K) 0 (initL (mNL M_X10_lays) as) [] h 0 0 := by
  intro as h K hk
  match as, hk with
  | [.inr (.inr (.inl q0)), .inl q1, .inl q2, .inl q3, .inl q4], hk =>
    obtain ⟨hb, hk⟩ := tif_inv hk
    simp only [Bool.and_eq_true] at hb
    obtain ⟨e0, e1⟩ := hb
    obtain ⟨a0, b0⟩ := q0
    have f0 : a0 = 0 := Nat.eq_of_beq_eq_true e0
    subst f0
    have f1 : b0 = 0 := Nat.eq_of_beq_eq_true e1
    subst f1
    exact ⟨Nat.le_of_ble_eq_true rfl, snd_X10_lays q1 q2 q3 q4 hk⟩

def S_X10_set (w v : Int32) (h : AH) (K : Int32 → AH → Prop) : Prop := ∃ V, CV h 0 V ∧ WF V ∧ ∀ h', onlyV 0 h h' → CV h' 0 (M_set V w v).2 → K (M_set V w v).1 h'
def T_X10_set : List AV → AH → (Int32 → AH → Prop) → Prop := fun as h K => match as with
  | [.inr (.inr (.inl q0)), .inl q1, .inl q2] => tif (Nat.beq q0.1 0 && Nat.beq q0.2 0) (S_X10_set q1 q2 h K)
  | _ => False

def M_X10_set : MI := (RX10, cX10_set, 4, [(0, .iconst (-1), []), (1, .istore_n 3, []), (2, .iload_n 1, []), (3, .ifCond .ne 31, [34]), (6, .iload_n 2, []), (7, .iconst 0, []), (8, .iconst 1, []), (9, .invokestatic 59, []), (12, .ifCond .eq 22, [34]), (15, .aload_n 0, []), (16, .getfield 10, []), (19, .getfield 132, []), (22, .istore_n 3, []), (23, .aload_n 0, []), (24, .getfield 10, []), (27, .iload_n 2, []), (28, .putfield 132, []), (31, .goto 34, [65]), (34, .iload_n 1, []), (35, .iconst 1, []), (36, .if_icmp .ne 29, [65]), (39, .iload_n 2, []), (40, .iconst 0, []), (41, .bipush 23, []), (43, .invokestatic 59, []), (46, .ifCond .eq 19, [65]), (49, .aload_n 0, []), (50, .getfield 10, []), (53, .getfield 135, []), (56, .istore_n 3, []), (57, .aload_n 0, []), (58, .getfield 10, []), (61, .iload_n 2, []), (62, .putfield 135, []), (65, .iload_n 3, []), (66, .ireturn, [])], [(10, (0, 0, 1, 1, 0)), (132, (1, 12, 0, 0, 0)), (135, (1, 11, 0, 0, 0))], [], [], [(178, (3, 1, 22, 0, 0, .inl T_X10_within))], 1, 22, 0, 0)
theorem ok_X10_set : MOK M_X10_set := ⟨by decide +kernel, List.forall_mem_cons.mpr ⟨fl_RX10_10, List.forall_mem_cons.mpr ⟨fl_RX10_132, List.forall_mem_cons.mpr ⟨fl_RX10_135, fun _ h => absurd h List.not_mem_nil⟩⟩⟩, fun _ h => absurd h List.not_mem_nil, fun _ h => absurd h List.not_mem_nil, List.forall_mem_cons.mpr ⟨⟨Nat.le_of_ble_eq_true rfl, Nat.le_of_ble_eq_true rfl, cr_RX10_178⟩, fun _ h => absurd h List.not_mem_nil⟩⟩
set_option maxRecDepth 100000 in
theorem vc_X10_set {K : Int32 → AH → Prop} {h : AH} (p1 : Int32) (p2 : Int32) (H : ((¬ p1 = 0) → ((¬ p1 = (nI 1)) → K (iI (-1)) h) ∧ (¬ (¬ p1 = (nI 1)) → S_X10_within p2 (nI 0) (nI 23) h (fun x2 h1 => ((x2 = 0) → K (iI (-1)) h1) ∧ (¬ (x2 = 0) → K (h1.1 1 0 11) (wI h1 1 0 11 p2))))) ∧ (¬ (¬ p1 = 0) → S_X10_within p2 (nI 0) (nI 1) h (fun x4 h3 => ((x4 = 0) → ((¬ p1 = (nI 1)) → K (iI (-1)) h3) ∧ (¬ (¬ p1 = (nI 1)) → S_X10_within p2 (nI 0) (nI 23) h3 (fun x6 h5 => ((x6 = 0) → K (iI (-1)) h5) ∧ (¬ (x6 = 0) → K (h5.1 1 0 11) (wI h5 1 0 11 p2))))) ∧ (¬ (x4 = 0) → K (h3.1 1 0 12) (wI h3 1 0 12 p2))))) : AW M_X10_set (.inl K) 0 [some (aR 0 0), some (aI p1), some (aI p2), none] [] h 0 0 := AW_go (cuts := []) ok_X10_set 400 H

theorem snd_X10_set (w v : Int32) {h : AH} {K : Int32 → AH → Prop} (k : S_X10_set w v h K) : AW M_X10_set (.inl K) 0 [some (aR 0 0), some (aI w), some (aI v), none] [] h 0 0 := by
  obtain ⟨V, cv, hw, k⟩ := k
  unfold M_set at k
  obtain ⟨-, -, -, -, -, -, -, -, -, -, e2, e3, -⟩ := CVs cv
  have no : ¬ (w = nI 0 ∧ (nI 0 ≤ v ∧ v ≤ nI 1)) → ¬ (w = nI 1 ∧ (nI 0 ≤ v ∧ v ≤ nI 23)) → K (iI (-1)) h := fun z z2 => by
    rw [if_neg z, if_neg z2] at k
    exact k h (onlyV_rfl 0 h) cv
  refine vc_X10_set w v ⟨fun q1 => ⟨fun q2 => no (fun z => q1 z.1) (fun z => q2 z.1), fun q2 => w_if (fun q3 => ?_) (fun q3 => no (fun z => q1 z.1) (fun z => q3 z.2))⟩, fun q1 => w_if (fun q2 => ?_) (fun q2 => ⟨fun q3 => no (fun z => q2 z.2) (fun z => q3 z.1), fun q3 => absurd (Decidable.not_not.mp q1) (by rw [Decidable.not_not.mp q3]; decide)⟩)⟩
  · rw [if_neg (fun z => q1 z.1), if_pos ⟨Decidable.not_not.mp q2, q3⟩] at k
    obtain ⟨i, hi, rfl⟩ := (in_n (by omega)).mp q3
    unfold nN at k
    rw [n_cl (by omega)] at k
    rw [e2]
    exact k _ (onlyV_w (by omega) (by omega)) (CV_hour cv)
  · rw [if_pos ⟨Decidable.not_not.mp q1, q2⟩] at k
    obtain ⟨i, hi, rfl⟩ := (in_n (by omega)).mp q2
    unfold nN at k
    rw [n_cl (by omega)] at k
    rw [e3]
    exact k _ (onlyV_w (by omega) (by omega)) (CV_drums cv)
theorem tr_X10_set : ∀ (as : List AV) (h : AH) (K : Int32 → AH → Prop), T_X10_set as h K → ∃ (q : Nat) (r : List AV), as = aR 0 q :: r := by
  intro as h K hk
  match as, hk with
  | [.inr (.inr (.inl q0)), .inl q1, .inl q2], hk =>
    obtain ⟨hb, hk⟩ := tif_inv hk
    simp only [Bool.and_eq_true] at hb
    obtain ⟨e0, e1⟩ := hb
    obtain ⟨a0, b0⟩ := q0
    have f0 : a0 = 0 := Nat.eq_of_beq_eq_true e0
    subst f0
    have f1 : b0 = 0 := Nat.eq_of_beq_eq_true e1
    subst f1
    exact ⟨_, _, rfl⟩
theorem tw_X10_set : ∀ (as : List AV) (h : AH) (K : Int32 → AH → Prop), T_X10_set as h K → (ini as).length ≤ mNL M_X10_set ∧ AW M_X10_set (.inl K) 0 (initL (mNL M_X10_set) as) [] h 0 0 := by
  intro as h K hk
  match as, hk with
  | [.inr (.inr (.inl q0)), .inl q1, .inl q2], hk =>
    obtain ⟨hb, hk⟩ := tif_inv hk
    simp only [Bool.and_eq_true] at hb
    obtain ⟨e0, e1⟩ := hb
    obtain ⟨a0, b0⟩ := q0
    have f0 : a0 = 0 := Nat.eq_of_beq_eq_true e0
    subst f0
    have f1 : b0 = 0 := Nat.eq_of_beq_eq_true e1
    subst f1
    exact ⟨Nat.le_of_ble_eq_true rfl, snd_X10_set q1 q2 hk⟩

def S_X10_throwsOne (a c : Int32) (h : AH) (K : Int32 → AH → Prop) : Prop := ∃ V, CV h 0 V ∧ WF V ∧ (rfT V a c ≠ nI 0 → K (rfT V a c) h) ∧ ∀ n m h', n < V 10 1 → m < 8 → a = nI n → c = nI m → rfT V a c = nI 0 → onlyV 0 h h' → CV h' 0 (thr V n m) → K (nI (brg V n m)) h'
def T_X10_throwsOne : List AV → AH → (Int32 → AH → Prop) → Prop := fun as h K => match as with
  | [.inr (.inr (.inl q0)), .inl q1, .inl q2] => tif (Nat.beq q0.1 0 && Nat.beq q0.2 0) (S_X10_throwsOne q1 q2 h K)
  | _ => False

def M_X10_throwsOne : MI := (RX10, cX10_throwsOne, 4, [(0, .aload_n 0, []), (1, .getfield 10, []), (4, .iload_n 1, []), (5, .iload_n 2, []), (6, .invokevirtual 138, []), (9, .istore_n 3, []), (10, .iload_n 3, []), (11, .ifCond .eq 7, [18]), (14, .iload_n 3, []), (15, .goto 12, [27]), (18, .aload_n 0, []), (19, .getfield 10, []), (22, .iload_n 1, []), (23, .iload_n 2, []), (24, .invokevirtual 142, []), (27, .ireturn, [])], [(10, (0, 0, 1, 1, 0))], [], [], [(414, (3, 3, 66, 0, 0, .inl T_X9_refusedThrow)), (426, (3, 5, 113, 0, 0, .inl T_X9_throwOnto))], 5, 113, 0, 0)
theorem ok_X10_throwsOne : MOK M_X10_throwsOne := ⟨by decide +kernel, List.forall_mem_cons.mpr ⟨fl_RX10_10, fun _ h => absurd h List.not_mem_nil⟩, fun _ h => absurd h List.not_mem_nil, fun _ h => absurd h List.not_mem_nil, List.forall_mem_cons.mpr ⟨⟨Nat.le_of_ble_eq_true rfl, Nat.le_of_ble_eq_true rfl, cr_RX10_414⟩, List.forall_mem_cons.mpr ⟨⟨Nat.le_of_ble_eq_true rfl, Nat.le_of_ble_eq_true rfl, cr_RX10_426⟩, fun _ h => absurd h List.not_mem_nil⟩⟩⟩
set_option maxRecDepth 100000 in
theorem vc_X10_throwsOne {K : Int32 → AH → Prop} {h : AH} (p1 : Int32) (p2 : Int32) (H : S_X9_refusedThrow 0 p1 p2 h (fun x2 h1 => ((x2 = 0) → S_X9_throwOnto 0 p1 p2 h1 (fun x4 h3 => K x4 h3)) ∧ (¬ (x2 = 0) → K x2 h1))) : AW M_X10_throwsOne (.inl K) 0 [some (aR 0 0), some (aI p1), some (aI p2), none] [] h 0 0 := AW_go (cuts := []) ok_X10_throwsOne 400 H

theorem snd_X10_throwsOne (a c : Int32) {h : AH} {K : Int32 → AH → Prop} (k : S_X10_throwsOne a c h K) : AW M_X10_throwsOne (.inl K) 0 [some (aR 0 0), some (aI a), some (aI c), none] [] h 0 0 := by
  obtain ⟨V, cv, hw, k1, k2⟩ := k
  refine vc_X10_throwsOne a c ⟨V, cv, hw, ?_⟩
  rcases rfT_cases hw a c with ⟨n, m, hn, hm, hf, rfl, rfl, e⟩ | e
  · exact ⟨fun _ => ⟨V, n, m, cv, hw, hn, rfl, hm, rfl, fun h' o q => k2 n m h' hn hm rfl rfl e o q⟩, fun q => absurd e q⟩
  · exact ⟨fun q => absurd q e, fun _ => k1 e⟩
theorem tr_X10_throwsOne : ∀ (as : List AV) (h : AH) (K : Int32 → AH → Prop), T_X10_throwsOne as h K → ∃ (q : Nat) (r : List AV), as = aR 0 q :: r := by
  intro as h K hk
  match as, hk with
  | [.inr (.inr (.inl q0)), .inl q1, .inl q2], hk =>
    obtain ⟨hb, hk⟩ := tif_inv hk
    simp only [Bool.and_eq_true] at hb
    obtain ⟨e0, e1⟩ := hb
    obtain ⟨a0, b0⟩ := q0
    have f0 : a0 = 0 := Nat.eq_of_beq_eq_true e0
    subst f0
    have f1 : b0 = 0 := Nat.eq_of_beq_eq_true e1
    subst f1
    exact ⟨_, _, rfl⟩
theorem tw_X10_throwsOne : ∀ (as : List AV) (h : AH) (K : Int32 → AH → Prop), T_X10_throwsOne as h K → (ini as).length ≤ mNL M_X10_throwsOne ∧ AW M_X10_throwsOne (.inl K) 0 (initL (mNL M_X10_throwsOne) as) [] h 0 0 := by
  intro as h K hk
  match as, hk with
  | [.inr (.inr (.inl q0)), .inl q1, .inl q2], hk =>
    obtain ⟨hb, hk⟩ := tif_inv hk
    simp only [Bool.and_eq_true] at hb
    obtain ⟨e0, e1⟩ := hb
    obtain ⟨a0, b0⟩ := q0
    have f0 : a0 = 0 := Nat.eq_of_beq_eq_true e0
    subst f0
    have f1 : b0 = 0 := Nat.eq_of_beq_eq_true e1
    subst f1
    exact ⟨Nat.le_of_ble_eq_true rfl, snd_X10_throwsOne q1 q2 hk⟩

def S_X10_waits (x : Int32) (h : AH) (K : Int32 → AH → Prop) : Prop := ∃ V, CV h 0 V ∧ WF V ∧ (¬ (nI 1 ≤ x ∧ x ≤ nI 60) → K (iI (-1)) h) ∧ ∀ k h', 1 ≤ k → k ≤ 60 → x = nI k → onlyV 0 h h' → CV h' 0 (wai V k) → K (nI (wai V k 10 2)) h'
def T_X10_waits : List AV → AH → (Int32 → AH → Prop) → Prop := fun as h K => match as with
  | [.inr (.inr (.inl q0)), .inl q1] => tif (Nat.beq q0.1 0 && Nat.beq q0.2 0) (S_X10_waits q1 h K)
  | _ => False

def M_X10_waits : MI := (RX10, cX10_waits, 2, [(0, .iload_n 1, []), (1, .iconst 1, []), (2, .bipush 60, []), (4, .invokestatic 59, []), (7, .ifCond .ne 5, [12]), (10, .iconst (-1), []), (11, .ireturn, []), (12, .aload_n 0, []), (13, .getfield 10, []), (16, .iload_n 1, []), (17, .invokevirtual 145, []), (20, .aload_n 0, []), (21, .getfield 10, []), (24, .getfield 135, []), (27, .ireturn, [])], [(10, (0, 0, 1, 1, 0)), (135, (1, 11, 0, 0, 0))], [], [], [(178, (3, 1, 22, 0, 0, .inl T_X10_within)), (435, (2, 2, 43, 0, 0, .inr (.inl T_X9_pass)))], 2, 43, 0, 0)
theorem ok_X10_waits : MOK M_X10_waits := ⟨by decide +kernel, List.forall_mem_cons.mpr ⟨fl_RX10_10, List.forall_mem_cons.mpr ⟨fl_RX10_135, fun _ h => absurd h List.not_mem_nil⟩⟩, fun _ h => absurd h List.not_mem_nil, fun _ h => absurd h List.not_mem_nil, List.forall_mem_cons.mpr ⟨⟨Nat.le_of_ble_eq_true rfl, Nat.le_of_ble_eq_true rfl, cr_RX10_178⟩, List.forall_mem_cons.mpr ⟨⟨Nat.le_of_ble_eq_true rfl, Nat.le_of_ble_eq_true rfl, cr_RX10_435⟩, fun _ h => absurd h List.not_mem_nil⟩⟩⟩
set_option maxRecDepth 100000 in
theorem vc_X10_waits {K : Int32 → AH → Prop} {h : AH} (p1 : Int32) (H : S_X10_within p1 (nI 1) (nI 60) h (fun x2 h1 => ((¬ x2 = 0) → S_X9_pass 0 p1 h1 (fun h3 => K (h3.1 1 0 11) h3)) ∧ (¬ (¬ x2 = 0) → K (iI (-1)) h1))) : AW M_X10_waits (.inl K) 0 [some (aR 0 0), some (aI p1)] [] h 0 0 := AW_go (cuts := []) ok_X10_waits 400 H

theorem snd_X10_waits (x : Int32) {h : AH} {K : Int32 → AH → Prop} (k : S_X10_waits x h K) : AW M_X10_waits (.inl K) 0 [some (aR 0 0), some (aI x)] [] h 0 0 := by
  obtain ⟨V, cv, hw, k1, k2⟩ := k
  refine vc_X10_waits x (w_ni (fun q => ?_) k1)
  obtain ⟨k, h1, h2, rfl⟩ := in60 q
  refine ⟨V, k, cv, hw, h2, rfl, fun h' o c => ?_⟩
  (try dsimp only)
  rw [(CVs c).2.2.2.2.2.2.2.2.2.2.1]
  exact k2 k h' h1 h2 rfl o c
theorem tr_X10_waits : ∀ (as : List AV) (h : AH) (K : Int32 → AH → Prop), T_X10_waits as h K → ∃ (q : Nat) (r : List AV), as = aR 0 q :: r := by
  intro as h K hk
  match as, hk with
  | [.inr (.inr (.inl q0)), .inl q1], hk =>
    obtain ⟨hb, hk⟩ := tif_inv hk
    simp only [Bool.and_eq_true] at hb
    obtain ⟨e0, e1⟩ := hb
    obtain ⟨a0, b0⟩ := q0
    have f0 : a0 = 0 := Nat.eq_of_beq_eq_true e0
    subst f0
    have f1 : b0 = 0 := Nat.eq_of_beq_eq_true e1
    subst f1
    exact ⟨_, _, rfl⟩
theorem tw_X10_waits : ∀ (as : List AV) (h : AH) (K : Int32 → AH → Prop), T_X10_waits as h K → (ini as).length ≤ mNL M_X10_waits ∧ AW M_X10_waits (.inl K) 0 (initL (mNL M_X10_waits) as) [] h 0 0 := by
  intro as h K hk
  match as, hk with
  | [.inr (.inr (.inl q0)), .inl q1], hk =>
    obtain ⟨hb, hk⟩ := tif_inv hk
    simp only [Bool.and_eq_true] at hb
    obtain ⟨e0, e1⟩ := hb
    obtain ⟨a0, b0⟩ := q0
    have f0 : a0 = 0 := Nat.eq_of_beq_eq_true e0
    subst f0
    have f1 : b0 = 0 := Nat.eq_of_beq_eq_true e1
    subst f1
    exact ⟨Nat.le_of_ble_eq_true rfl, snd_X10_waits q1 hk⟩

def S_X10_brings (a c w : Int32) (h : AH) (K : Int32 → AH → Prop) : Prop := ∃ V, CV h 0 V ∧ WF V ∧ K (R_brings V a c w) h
def T_X10_brings : List AV → AH → (Int32 → AH → Prop) → Prop := fun as h K => match as with
  | [.inr (.inr (.inl q0)), .inl q1, .inl q2, .inl q3] => tif (Nat.beq q0.1 0 && Nat.beq q0.2 0) (S_X10_brings q1 q2 q3 h K)
  | _ => False

def M_X10_brings : MI := (RX10, cX10_brings, 7, [(0, .iload_n 3, []), (1, .iconst 0, []), (2, .iconst 3, []), (3, .invokestatic 59, []), (6, .ifCond .eq 15, [21]), (9, .aload_n 0, []), (10, .getfield 10, []), (13, .iload_n 1, []), (14, .iload_n 2, []), (15, .invokevirtual 138, []), (18, .goto 4, [22]), (21, .iconst (-1), []), (22, .istore 4, []), (24, .iload 4, []), (26, .ifCond .eq 6, [32]), (29, .iload 4, []), (31, .ireturn, []), (32, .aload_n 0, []), (33, .getfield 10, []), (36, .getfield 149, []), (39, .iload_n 1, []), (40, .aaload, []), (41, .astore 5, []), (43, .iload_n 3, []), (44, .ifCond .ne 14, [58]), (47, .aload_n 0, []), (48, .getfield 10, []), (51, .aload 5, []), (53, .iload_n 2, []), (54, .invokevirtual 153, []), (57, .ireturn, []), (58, .iload_n 3, []), (59, .iconst 3, []), (60, .if_icmp .ne 22, [82]), (63, .aload_n 0, []), (64, .getfield 10, []), (67, .aload 5, []), (69, .iload_n 2, []), (70, .invokevirtual 157, []), (73, .ifCond .eq 7, [80]), (76, .iconst 1, []), (77, .goto 4, [81]), (80, .iconst 0, []), (81, .ireturn, []), (82, .aload_n 0, []), (83, .getfield 10, []), (86, .aload 5, []), (88, .iload_n 2, []), (89, .invokevirtual 161, []), (92, .istore 6, []), (94, .iload_n 3, []), (95, .iconst 1, []), (96, .if_icmp .eq 10, [106]), (99, .iload 6, []), (101, .bipush (-4), []), (103, .if_icmp .ne 8, [111]), (106, .iload 6, []), (108, .goto 13, [121]), (111, .aload_n 0, []), (112, .getfield 10, []), (115, .getfield 81, []), (118, .iload 6, []), (120, .iaload, []), (121, .ireturn, [])], [(10, (0, 0, 1, 1, 0)), (149, (1, 10, 1, 10, 0)), (81, (1, 7, 1, 8, 0))], [], [], [(178, (3, 1, 22, 0, 0, .inl T_X10_within)), (414, (3, 3, 66, 0, 0, .inl T_X9_refusedThrow)), (459, (3, 4, 87, 0, 0, .inl T_X9_broughtBy)), (471, (3, 2, 42, 0, 0, .inl T_X9_isEaten)), (483, (3, 3, 64, 0, 0, .inl T_X9_takerOf))], 4, 87, 0, 0)
theorem ok_X10_brings : MOK M_X10_brings := ⟨by decide +kernel, List.forall_mem_cons.mpr ⟨fl_RX10_10, List.forall_mem_cons.mpr ⟨fl_RX10_149, List.forall_mem_cons.mpr ⟨fl_RX10_81, fun _ h => absurd h List.not_mem_nil⟩⟩⟩, fun _ h => absurd h List.not_mem_nil, fun _ h => absurd h List.not_mem_nil, List.forall_mem_cons.mpr ⟨⟨Nat.le_of_ble_eq_true rfl, Nat.le_of_ble_eq_true rfl, cr_RX10_178⟩, List.forall_mem_cons.mpr ⟨⟨Nat.le_of_ble_eq_true rfl, Nat.le_of_ble_eq_true rfl, cr_RX10_414⟩, List.forall_mem_cons.mpr ⟨⟨Nat.le_of_ble_eq_true rfl, Nat.le_of_ble_eq_true rfl, cr_RX10_459⟩, List.forall_mem_cons.mpr ⟨⟨Nat.le_of_ble_eq_true rfl, Nat.le_of_ble_eq_true rfl, cr_RX10_471⟩, List.forall_mem_cons.mpr ⟨⟨Nat.le_of_ble_eq_true rfl, Nat.le_of_ble_eq_true rfl, cr_RX10_483⟩, fun _ h => absurd h List.not_mem_nil⟩⟩⟩⟩⟩⟩
set_option maxRecDepth 100000 in
theorem vc_X10_brings {K : Int32 → AH → Prop} {h : AH} (p1 : Int32) (p2 : Int32) (p3 : Int32) (H : S_X10_within p3 (nI 0) (nI 3) h (fun x2 h1 => ((x2 = 0) → (((iI (-1)) = 0) → inR p1 7 ∧ ((¬ p3 = 0) → ((¬ p3 = (nI 3)) → S_X9_takerOf 0 (h1.2.1 10 0 p1.toNatClampNeg) p2 h1 (fun x4 h3 => ((p3 = (nI 1)) → K x4 h3) ∧ (¬ (p3 = (nI 1)) → ((¬ x4 = (iI (-4))) → inR x4 4 ∧ K (h3.1 8 0 x4.toNatClampNeg) h3) ∧ (¬ (¬ x4 = (iI (-4))) → K x4 h3)))) ∧ (¬ (¬ p3 = (nI 3)) → S_X9_isEaten 0 (h1.2.1 10 0 p1.toNatClampNeg) p2 h1 (fun x6 h5 => ((x6 = 0) → K (nI 0) h5) ∧ (¬ (x6 = 0) → K (nI 1) h5)))) ∧ (¬ (¬ p3 = 0) → S_X9_broughtBy 0 (h1.2.1 10 0 p1.toNatClampNeg) p2 h1 (fun x8 h7 => K x8 h7))) ∧ (¬ ((iI (-1)) = 0) → K (iI (-1)) h1)) ∧ (¬ (x2 = 0) → S_X9_refusedThrow 0 p1 p2 h1 (fun x10 h9 => ((x10 = 0) → inR p1 7 ∧ ((¬ p3 = 0) → ((¬ p3 = (nI 3)) → S_X9_takerOf 0 (h9.2.1 10 0 p1.toNatClampNeg) p2 h9 (fun x12 h11 => ((p3 = (nI 1)) → K x12 h11) ∧ (¬ (p3 = (nI 1)) → ((¬ x12 = (iI (-4))) → inR x12 4 ∧ K (h11.1 8 0 x12.toNatClampNeg) h11) ∧ (¬ (¬ x12 = (iI (-4))) → K x12 h11)))) ∧ (¬ (¬ p3 = (nI 3)) → S_X9_isEaten 0 (h9.2.1 10 0 p1.toNatClampNeg) p2 h9 (fun x14 h13 => ((x14 = 0) → K (nI 0) h13) ∧ (¬ (x14 = 0) → K (nI 1) h13)))) ∧ (¬ (¬ p3 = 0) → S_X9_broughtBy 0 (h9.2.1 10 0 p1.toNatClampNeg) p2 h9 (fun x16 h15 => K x16 h15))) ∧ (¬ (x10 = 0) → K x10 h9))))) : AW M_X10_brings (.inl K) 0 [some (aR 0 0), some (aI p1), some (aI p2), some (aI p3), none, none, none] [] h 0 0 := AW_go (cuts := []) ok_X10_brings 400 H

theorem snd_X10_brings (a c w : Int32) {h : AH} {K : Int32 → AH → Prop} (k : S_X10_brings a c w h K) : AW M_X10_brings (.inl K) 0 [some (aR 0 0), some (aI a), some (aI c), some (aI w), none, none, none] [] h 0 0 := by
  obtain ⟨V, cv, hw, k⟩ := k
  unfold R_brings at k
  refine vc_X10_brings a c w (w_if (fun q => ⟨V, cv, hw, ?_⟩) (fun q => ⟨fun z => absurd z (by decide), fun _ => ?_⟩))
  case refine_2 => rw [if_pos q] at k; exact k
  rw [if_neg (fun z => z q)] at k
  rcases rfT_cases hw a c with ⟨n, m, hn, hm, hf, rfl, rfl, e⟩ | e
  case inr =>
    rw [if_pos e] at k
    exact ⟨fun z => absurd z e, fun _ => k⟩
  rw [if_neg (fun z => z e)] at k
  have h7 := hw.2.1
  have sp := (CVs cv).2.2.2.2.2.2.2.2.2.2.2.2 n hn
  unfold nN at k
  rw [n_cl (show n < 2147483648 by omega), n_cl (show m < 2147483648 by omega)] at k
  refine ⟨fun _ => ⟨n_in (show n < 7 by omega) (by omega), ?_⟩, fun z => absurd e z⟩
  rw [n_cl (show n < 2147483648 by omega)]
  refine nn_if (fun q0 => ⟨V, n, m, ⟨cv, hw, hn, sp⟩, hm, rfl, ?_⟩) (fun q0 => nn_if (fun q3 => ⟨V, n, m, ⟨cv, hw, hn, sp⟩, hm, rfl, ?_⟩) (fun q3 => ⟨V, n, m, ⟨cv, hw, hn, sp⟩, hm, rfl, ⟨fun q1 => ?_, fun q1 => ?_⟩⟩))
  · rw [if_pos (show w = nI 0 from q0)] at k; exact k
  · subst q3
    rw [if_neg (by decide), if_neg (by decide), if_neg (by decide)] at k
    refine w_if (fun z => ?_) (fun z => ?_)
    · rw [if_pos z] at k; exact k
    · rw [if_neg z] at k; exact k
  · rw [if_neg (show ¬ w = nI 0 from q0), if_pos q1] at k; exact k
  · obtain ⟨i, hi, rfl⟩ := (in_n (by omega)).mp q
    have q2 : nI i = nI 2 := by
      have a1 : ¬ i = 0 := fun z => q0 (by rw [z]; rfl)
      have a2 : ¬ i = 1 := fun z => q1 (by rw [z])
      have a3 : ¬ i = 3 := fun z => q3 (by rw [z])
      rw [show i = 2 by omega]
    rw [if_neg (show ¬ nI i = nI 0 from q0), if_neg q1, if_pos q2] at k
    rw [oI_no (tak_4 hw)]
    cases ht : tak V n m with
    | none =>
      rw [ht] at k
      exact ⟨fun z => absurd rfl z, fun _ => k⟩
    | some p =>
      rw [ht] at k
      have hp := tak_lt ht
      have h4 := hw.1
      refine ⟨fun _ => ⟨n_in (show p < 4 by omega) (by omega), ?_⟩, fun z => absurd (fun z2 => by cases z2) z⟩
      show K (h.1 8 0 (nI p).toNatClampNeg) h
      rw [n_cl (by omega), (CVs cv).2.2.2.2.2.2.1 p hp]
      exact k
theorem tr_X10_brings : ∀ (as : List AV) (h : AH) (K : Int32 → AH → Prop), T_X10_brings as h K → ∃ (q : Nat) (r : List AV), as = aR 0 q :: r := by
  intro as h K hk
  match as, hk with
  | [.inr (.inr (.inl q0)), .inl q1, .inl q2, .inl q3], hk =>
    obtain ⟨hb, hk⟩ := tif_inv hk
    simp only [Bool.and_eq_true] at hb
    obtain ⟨e0, e1⟩ := hb
    obtain ⟨a0, b0⟩ := q0
    have f0 : a0 = 0 := Nat.eq_of_beq_eq_true e0
    subst f0
    have f1 : b0 = 0 := Nat.eq_of_beq_eq_true e1
    subst f1
    exact ⟨_, _, rfl⟩
theorem tw_X10_brings : ∀ (as : List AV) (h : AH) (K : Int32 → AH → Prop), T_X10_brings as h K → (ini as).length ≤ mNL M_X10_brings ∧ AW M_X10_brings (.inl K) 0 (initL (mNL M_X10_brings) as) [] h 0 0 := by
  intro as h K hk
  match as, hk with
  | [.inr (.inr (.inl q0)), .inl q1, .inl q2, .inl q3], hk =>
    obtain ⟨hb, hk⟩ := tif_inv hk
    simp only [Bool.and_eq_true] at hb
    obtain ⟨e0, e1⟩ := hb
    obtain ⟨a0, b0⟩ := q0
    have f0 : a0 = 0 := Nat.eq_of_beq_eq_true e0
    subst f0
    have f1 : b0 = 0 := Nat.eq_of_beq_eq_true e1
    subst f1
    exact ⟨Nat.le_of_ble_eq_true rfl, snd_X10_brings q1 q2 q3 hk⟩

def S_X10_bestCell (a : Int32) (h : AH) (K : Int32 → AH → Prop) : Prop := ∃ V, CV h 0 V ∧ WF V ∧ (∀ n, n < V 10 1 → a = nI n → K (nI (bCell V n (vFl V n))) h) ∧ ((¬ ∃ n, n < V 10 1 ∧ a = nI n) → K (iI (-1)) h)
def T_X10_bestCell : List AV → AH → (Int32 → AH → Prop) → Prop := fun as h K => match as with
  | [.inr (.inr (.inl q0)), .inl q1] => tif (Nat.beq q0.1 0 && Nat.beq q0.2 0) (S_X10_bestCell q1 h K)
  | _ => False

def M_X10_bestCell : MI := (RX10, cX10_bestCell, 3, [(0, .aload_n 0, []), (1, .getfield 10, []), (4, .iload_n 1, []), (5, .invokevirtual 87, []), (8, .astore_n 2, []), (9, .aload_n 2, []), (10, .ifnonnull 7, [17]), (13, .iconst (-1), []), (14, .goto 11, [25]), (17, .aload_n 0, []), (18, .getfield 10, []), (21, .aload_n 2, []), (22, .invokevirtual 164, []), (25, .ireturn, [])], [(10, (0, 0, 1, 1, 0))], [], [], [(261, (2, 2, 43, 0, 0, .inr (.inr (.inr T_X9_sheepAt)))), (492, (2, 4, 91, 0, 0, .inl T_X9_richestCell))], 4, 91, 0, 0)
theorem ok_X10_bestCell : MOK M_X10_bestCell := ⟨by decide +kernel, List.forall_mem_cons.mpr ⟨fl_RX10_10, fun _ h => absurd h List.not_mem_nil⟩, fun _ h => absurd h List.not_mem_nil, fun _ h => absurd h List.not_mem_nil, List.forall_mem_cons.mpr ⟨⟨Nat.le_of_ble_eq_true rfl, Nat.le_of_ble_eq_true rfl, cr_RX10_261⟩, List.forall_mem_cons.mpr ⟨⟨Nat.le_of_ble_eq_true rfl, Nat.le_of_ble_eq_true rfl, cr_RX10_492⟩, fun _ h => absurd h List.not_mem_nil⟩⟩⟩
set_option maxRecDepth 100000 in
theorem vc_X10_bestCell {K : Int32 → AH → Prop} {h : AH} (p1 : Int32) (H : S_X9_sheepAt 0 p1 h (fun x2 h1 => (((x2 : Option Nat) = none) → K (iI (-1)) h1) ∧ (¬ ((x2 : Option Nat) = none) → S_X9_richestCell 0 x2 h1 (fun x4 h3 => K x4 h3)))) : AW M_X10_bestCell (.inl K) 0 [some (aR 0 0), some (aI p1), none] [] h 0 0 := AW_go (cuts := []) ok_X10_bestCell 400 H

theorem snd_X10_bestCell (a : Int32) {h : AH} {K : Int32 → AH → Prop} (k : S_X10_bestCell a h K) : AW M_X10_bestCell (.inl K) 0 [some (aR 0 0), some (aI a), none] [] h 0 0 := by
  obtain ⟨V, cv, hw, k1, k2⟩ := k
  refine vc_X10_bestCell a ⟨V, cv, hw, fun n o hn e1 _ sp => ⟨fun z => ?_, fun _ => ⟨V, n, ⟨cv, hw, hn, sp⟩, k1 n hn e1⟩⟩, fun q => ⟨fun _ => k2 q, fun z => absurd rfl z⟩⟩
  obtain ⟨a, e, -⟩ := sp
  rw [z] at e
  cases e
theorem tr_X10_bestCell : ∀ (as : List AV) (h : AH) (K : Int32 → AH → Prop), T_X10_bestCell as h K → ∃ (q : Nat) (r : List AV), as = aR 0 q :: r := by
  intro as h K hk
  match as, hk with
  | [.inr (.inr (.inl q0)), .inl q1], hk =>
    obtain ⟨hb, hk⟩ := tif_inv hk
    simp only [Bool.and_eq_true] at hb
    obtain ⟨e0, e1⟩ := hb
    obtain ⟨a0, b0⟩ := q0
    have f0 : a0 = 0 := Nat.eq_of_beq_eq_true e0
    subst f0
    have f1 : b0 = 0 := Nat.eq_of_beq_eq_true e1
    subst f1
    exact ⟨_, _, rfl⟩
theorem tw_X10_bestCell : ∀ (as : List AV) (h : AH) (K : Int32 → AH → Prop), T_X10_bestCell as h K → (ini as).length ≤ mNL M_X10_bestCell ∧ AW M_X10_bestCell (.inl K) 0 (initL (mNL M_X10_bestCell) as) [] h 0 0 := by
  intro as h K hk
  match as, hk with
  | [.inr (.inr (.inl q0)), .inl q1], hk =>
    obtain ⟨hb, hk⟩ := tif_inv hk
    simp only [Bool.and_eq_true] at hb
    obtain ⟨e0, e1⟩ := hb
    obtain ⟨a0, b0⟩ := q0
    have f0 : a0 = 0 := Nat.eq_of_beq_eq_true e0
    subst f0
    have f1 : b0 = 0 := Nat.eq_of_beq_eq_true e1
    subst f1
    exact ⟨Nat.le_of_ble_eq_true rfl, snd_X10_bestCell q1 hk⟩

def S_X10_bestThrow (h : AH) (K : Int32 → AH → Prop) : Prop := ∃ V, CV h 0 V ∧ WF V ∧ K (iI (bst V).1) h
def T_X10_bestThrow : List AV → AH → (Int32 → AH → Prop) → Prop := fun as h K => match as with
  | [.inr (.inr (.inl q0))] => tif (Nat.beq q0.1 0 && Nat.beq q0.2 0) (S_X10_bestThrow h K)
  | _ => False

def M_X10_bestThrow : MI := (RX10, cX10_bestThrow, 1, [(0, .aload_n 0, []), (1, .getfield 10, []), (4, .invokevirtual 168, []), (7, .ireturn, [])], [(10, (0, 0, 1, 1, 0))], [], [], [(504, (1, 5, 116, 0, 0, .inl T_X9_richestThrow))], 5, 116, 0, 0)
theorem ok_X10_bestThrow : MOK M_X10_bestThrow := ⟨by decide +kernel, List.forall_mem_cons.mpr ⟨fl_RX10_10, fun _ h => absurd h List.not_mem_nil⟩, fun _ h => absurd h List.not_mem_nil, fun _ h => absurd h List.not_mem_nil, List.forall_mem_cons.mpr ⟨⟨Nat.le_of_ble_eq_true rfl, Nat.le_of_ble_eq_true rfl, cr_RX10_504⟩, fun _ h => absurd h List.not_mem_nil⟩⟩
set_option maxRecDepth 100000 in
theorem vc_X10_bestThrow {K : Int32 → AH → Prop} {h : AH}  (H : S_X9_richestThrow 0 h (fun x2 h1 => K x2 h1)) : AW M_X10_bestThrow (.inl K) 0 [some (aR 0 0)] [] h 0 0 := AW_go (cuts := []) ok_X10_bestThrow 400 H

theorem snd_X10_bestThrow {h : AH} {K : Int32 → AH → Prop} (k : S_X10_bestThrow h K) : AW M_X10_bestThrow (.inl K) 0 [some (aR 0 0)] [] h 0 0 := by
  obtain ⟨V, cv, hw, k⟩ := k
  exact vc_X10_bestThrow ⟨V, cv, hw, k⟩
theorem tr_X10_bestThrow : ∀ (as : List AV) (h : AH) (K : Int32 → AH → Prop), T_X10_bestThrow as h K → ∃ (q : Nat) (r : List AV), as = aR 0 q :: r := by
  intro as h K hk
  match as, hk with
  | [.inr (.inr (.inl q0))], hk =>
    obtain ⟨hb, hk⟩ := tif_inv hk
    simp only [Bool.and_eq_true] at hb
    obtain ⟨e0, e1⟩ := hb
    obtain ⟨a0, b0⟩ := q0
    have f0 : a0 = 0 := Nat.eq_of_beq_eq_true e0
    subst f0
    have f1 : b0 = 0 := Nat.eq_of_beq_eq_true e1
    subst f1
    exact ⟨_, _, rfl⟩
theorem tw_X10_bestThrow : ∀ (as : List AV) (h : AH) (K : Int32 → AH → Prop), T_X10_bestThrow as h K → (ini as).length ≤ mNL M_X10_bestThrow ∧ AW M_X10_bestThrow (.inl K) 0 (initL (mNL M_X10_bestThrow) as) [] h 0 0 := by
  intro as h K hk
  match as, hk with
  | [.inr (.inr (.inl q0))], hk =>
    obtain ⟨hb, hk⟩ := tif_inv hk
    simp only [Bool.and_eq_true] at hb
    obtain ⟨e0, e1⟩ := hb
    obtain ⟨a0, b0⟩ := q0
    have f0 : a0 = 0 := Nat.eq_of_beq_eq_true e0
    subst f0
    have f1 : b0 = 0 := Nat.eq_of_beq_eq_true e1
    subst f1
    exact ⟨Nat.le_of_ble_eq_true rfl, snd_X10_bestThrow  hk⟩

def S_X10_gain (h : AH) (K : Int32 → AH → Prop) : Prop := ∃ V, CV h 0 V ∧ WF V ∧ K (if (bst V).1 < 0 then 1000000004 else iI (bst V).2) h
def T_X10_gain : List AV → AH → (Int32 → AH → Prop) → Prop := fun as h K => match as with
  | [.inr (.inr (.inl q0))] => tif (Nat.beq q0.1 0 && Nat.beq q0.2 0) (S_X10_gain h K)
  | _ => False

def M_X10_gain : MI := (RX10, cX10_gain, 1, [(0, .aload_n 0, []), (1, .getfield 10, []), (4, .getfield 125, []), (7, .ifCond .ne 8, [15]), (10, .ldc 171, []), (12, .goto 10, [22]), (15, .aload_n 0, []), (16, .getfield 10, []), (19, .invokevirtual 172, []), (22, .ireturn, [])], [(10, (0, 0, 1, 1, 0)), (125, (1, 9, 0, 0, 0))], [(171, 1000000004)], [], [(516, (1, 6, 137, 0, 0, .inl T_X9_richestGain))], 6, 137, 0, 0)
theorem ok_X10_gain : MOK M_X10_gain := ⟨by decide +kernel, List.forall_mem_cons.mpr ⟨fl_RX10_10, List.forall_mem_cons.mpr ⟨fl_RX10_125, fun _ h => absurd h List.not_mem_nil⟩⟩, List.forall_mem_cons.mpr ⟨(inG (i := 583) (w := Cond.constant RX10 171 1000000004) (by decide +kernel) rfl), fun _ h => absurd h List.not_mem_nil⟩, fun _ h => absurd h List.not_mem_nil, List.forall_mem_cons.mpr ⟨⟨Nat.le_of_ble_eq_true rfl, Nat.le_of_ble_eq_true rfl, cr_RX10_516⟩, fun _ h => absurd h List.not_mem_nil⟩⟩
set_option maxRecDepth 100000 in
theorem vc_X10_gain {K : Int32 → AH → Prop} {h : AH}  (H : ((¬ (h.1 1 0 9) = 0) → S_X9_richestGain 0 h (fun x2 h1 => K x2 h1)) ∧ (¬ (¬ (h.1 1 0 9) = 0) → K (1000000004 : Int32) h)) : AW M_X10_gain (.inl K) 0 [some (aR 0 0)] [] h 0 0 := AW_go (cuts := []) ok_X10_gain 400 H

theorem snd_X10_gain {h : AH} {K : Int32 → AH → Prop} (k : S_X10_gain h K) : AW M_X10_gain (.inl K) 0 [some (aR 0 0)] [] h 0 0 := by
  obtain ⟨V, cv, hw, k⟩ := k
  have h7 := hw.2.1
  refine vc_X10_gain ?_
  rw [(CVs cv).2.2.2.2.2.2.2.2.2.1, n_eq0 (by omega)]
  rcases bst_n hw with ⟨h1, h2⟩ | ⟨a, c, ha, hc, e1, e2, e3, e4, e5, e6⟩
  · rw [if_pos (by omega)] at k
    exact ⟨fun z => absurd h2 z, fun _ => k⟩
  · refine ⟨fun _ => ⟨V, cv, hw, ?_⟩, fun z => absurd (fun q => by omega) z⟩
    rw [if_neg (by omega)] at k ⊢
    exact k
theorem tr_X10_gain : ∀ (as : List AV) (h : AH) (K : Int32 → AH → Prop), T_X10_gain as h K → ∃ (q : Nat) (r : List AV), as = aR 0 q :: r := by
  intro as h K hk
  match as, hk with
  | [.inr (.inr (.inl q0))], hk =>
    obtain ⟨hb, hk⟩ := tif_inv hk
    simp only [Bool.and_eq_true] at hb
    obtain ⟨e0, e1⟩ := hb
    obtain ⟨a0, b0⟩ := q0
    have f0 : a0 = 0 := Nat.eq_of_beq_eq_true e0
    subst f0
    have f1 : b0 = 0 := Nat.eq_of_beq_eq_true e1
    subst f1
    exact ⟨_, _, rfl⟩
theorem tw_X10_gain : ∀ (as : List AV) (h : AH) (K : Int32 → AH → Prop), T_X10_gain as h K → (ini as).length ≤ mNL M_X10_gain ∧ AW M_X10_gain (.inl K) 0 (initL (mNL M_X10_gain) as) [] h 0 0 := by
  intro as h K hk
  match as, hk with
  | [.inr (.inr (.inl q0))], hk =>
    obtain ⟨hb, hk⟩ := tif_inv hk
    simp only [Bool.and_eq_true] at hb
    obtain ⟨e0, e1⟩ := hb
    obtain ⟨a0, b0⟩ := q0
    have f0 : a0 = 0 := Nat.eq_of_beq_eq_true e0
    subst f0
    have f1 : b0 = 0 := Nat.eq_of_beq_eq_true e1
    subst f1
    exact ⟨Nat.le_of_ble_eq_true rfl, snd_X10_gain  hk⟩

def S_X10_lifts (e w : Int32) (h : AH) (K : Int32 → AH → Prop) : Prop := ∃ V, CV h 0 V ∧ WF V ∧ K (R_lifts V e w) h
def T_X10_lifts : List AV → AH → (Int32 → AH → Prop) → Prop := fun as h K => match as with
  | [.inr (.inr (.inl q0)), .inl q1, .inl q2] => tif (Nat.beq q0.1 0 && Nat.beq q0.2 0) (S_X10_lifts q1 q2 h K)
  | _ => False

def M_X10_lifts : MI := (RX10, cX10_lifts, 6, [(0, .iload_n 1, []), (1, .iconst 0, []), (2, .aload_n 0, []), (3, .getfield 10, []), (6, .getfield 72, []), (9, .iconst 1, []), (10, .isub, []), (11, .invokestatic 59, []), (14, .ifCond .eq 12, [26]), (17, .iload_n 2, []), (18, .iconst 0, []), (19, .iconst 1, []), (20, .invokestatic 59, []), (23, .ifCond .ne 5, [28]), (26, .iconst (-1), []), (27, .ireturn, []), (28, .aload_n 0, []), (29, .getfield 10, []), (32, .getfield 75, []), (35, .iload_n 1, []), (36, .iaload, []), (37, .aload_n 0, []), (38, .getfield 10, []), (41, .getfield 78, []), (44, .iload_n 1, []), (45, .iaload, []), (46, .iadd, []), (47, .istore_n 3, []), (48, .iload_n 2, []), (49, .ifCond .ne 5, [54]), (52, .iload_n 3, []), (53, .ireturn, []), (54, .iconst 0, []), (55, .istore 4, []), (57, .iconst 0, []), (58, .istore 5, []), (60, .iload 5, []), (62, .aload_n 0, []), (63, .getfield 10, []), (66, .getfield 125, []), (69, .if_icmp .ge 29, [98]), (72, .aload_n 0, []), (73, .getfield 10, []), (76, .getfield 149, []), (79, .iload 5, []), (81, .aaload, []), (82, .getfield 99, []), (85, .iload_n 3, []), (86, .if_icmp .gt 6, [92]), (89, .iinc 4 1, []), (92, .iinc 5 1, []), (95, .goto (-35), [60]), (98, .iload 4, []), (100, .ireturn, [])], [(10, (0, 0, 1, 1, 0)), (72, (1, 4, 0, 0, 0)), (75, (1, 5, 1, 6, 0)), (78, (1, 6, 1, 7, 0)), (125, (1, 9, 0, 0, 0)), (149, (1, 10, 1, 10, 0)), (99, (18, 2, 0, 0, 0))], [], [], [(178, (3, 1, 22, 0, 0, .inl T_X10_within))], 1, 22, 0, 0)
theorem ok_X10_lifts : MOK M_X10_lifts := ⟨by decide +kernel, List.forall_mem_cons.mpr ⟨fl_RX10_10, List.forall_mem_cons.mpr ⟨fl_RX10_72, List.forall_mem_cons.mpr ⟨fl_RX10_75, List.forall_mem_cons.mpr ⟨fl_RX10_78, List.forall_mem_cons.mpr ⟨fl_RX10_125, List.forall_mem_cons.mpr ⟨fl_RX10_149, List.forall_mem_cons.mpr ⟨fl_RX10_99, fun _ h => absurd h List.not_mem_nil⟩⟩⟩⟩⟩⟩⟩, fun _ h => absurd h List.not_mem_nil, fun _ h => absurd h List.not_mem_nil, List.forall_mem_cons.mpr ⟨⟨Nat.le_of_ble_eq_true rfl, Nat.le_of_ble_eq_true rfl, cr_RX10_178⟩, fun _ h => absurd h List.not_mem_nil⟩⟩
set_option maxRecDepth 100000 in
theorem vc_X10_lifts {K : Int32 → AH → Prop} {h : AH} (p1 : Int32) (p2 : Int32) (H : S_X10_within p1 (nI 0) ((h.1 1 0 4) - (nI 1)) h (fun x2 h1 => ((x2 = 0) → K (iI (-1)) h1) ∧ (¬ (x2 = 0) → S_X10_within p2 (nI 0) (nI 1) h1 (fun x4 h3 => ((¬ x4 = 0) → inR p1 4 ∧ inR p1 4 ∧ ((¬ p2 = 0) → AW M_X10_lifts (.inl K) 60 [some (aR 0 0), none, none, some (aI ((h3.1 6 0 p1.toNatClampNeg) + (h3.1 7 0 p1.toNatClampNeg))), some (aI (nI 0)), some (aI (nI 0))] [] h3 0 0) ∧ (¬ (¬ p2 = 0) → K ((h3.1 6 0 p1.toNatClampNeg) + (h3.1 7 0 p1.toNatClampNeg)) h3)) ∧ (¬ (¬ x4 = 0) → K (iI (-1)) h3))))) : AW M_X10_lifts (.inl K) 0 [some (aR 0 0), some (aI p1), some (aI p2), none, none, none] [] h 0 0 := AW_go (cuts := [(60, [true, false, false, true, true, true])]) ok_X10_lifts 400 H
set_option maxRecDepth 100000 in
theorem vc_X10_lifts_60 {K : Int32 → AH → Prop} {h : AH}  (l3 : Int32) (l4 : Int32) (l5 : Int32) (H : (((h.1 1 0 9) ≤ l5) → K l4 h) ∧ (¬ ((h.1 1 0 9) ≤ l5) → inR l5 7 ∧ oE (h.2.1 10 0 l5.toNatClampNeg) fun a1 => ((l3 < (h.1 18 a1 2)) → AW M_X10_lifts (.inl K) 60 [some (aR 0 0), none, none, some (aI l3), some (aI l4), some (aI (l5 + (nI 1)))] [] h 0 0) ∧ (¬ (l3 < (h.1 18 a1 2)) → AW M_X10_lifts (.inl K) 60 [some (aR 0 0), none, none, some (aI l3), some (aI (l4 + (nI 1))), some (aI (l5 + (nI 1)))] [] h 0 0))) : AW M_X10_lifts (.inl K) 60 [some (aR 0 0), none, none, some (aI l3), some (aI l4), some (aI l5)] [] h 0 0 := AW_go (cuts := [(60, [true, false, false, true, true, true])]) ok_X10_lifts 400 H

theorem lp_X10_lifts {V : Vm} {e : Nat} {h : AH} {K : Int32 → AH → Prop} (cv : CV h 0 V) (hw : WF V) (he : e < V 10 0) (k : K (nI (lft1 V e (V 10 1))) h) : ∀ r c, c + r = V 10 1 → AW M_X10_lifts (.inl K) 60 [some (aR 0 0), none, none, some (aI (nI (V 4 e + V 5 e))), some (aI (nI (lft1 V e c))), some (aI (nI c))] [] h 0 0 := by
  have h7 := hw.2.1
  obtain ⟨-, -, -, -, -, -, -, -, -, e9, -, -, eS⟩ := CVs cv
  intro r
  induction r with
  | zero =>
    intro c hc
    refine vc_X10_lifts_60 _ _ (nI c) ?_
    have : c = V 10 1 := by omega
    subst this
    rw [e9]
    exact ⟨fun _ => k, fun q => absurd (Int32.le_refl _) q⟩
  | succ r ih =>
    intro c hc
    refine vc_X10_lifts_60 _ _ (nI c) ?_
    have hbe := hw.2.2.2.2.2.1 e he
    have hwt : wt (V 8 c) (V 9 c) ≤ 38 := wt_le (hw.2.2.2.2.2.2 c (by omega)).2
    obtain ⟨a, ea, -, -, s3, -⟩ := eS c (by omega)
    rw [e9, n_le (by omega) (by omega), n_cl (show c < 2147483648 by omega), ea, nI_add]
    refine ⟨fun q => by omega, fun _ => ⟨n_in (show c < 7 by omega) (by omega), ?_⟩⟩
    show (nI (V 4 e + V 5 e) < h.1 18 a 2 → _) ∧ (¬ nI (V 4 e + V 5 e) < h.1 18 a 2 → _)
    have := ih (c + 1) (by omega)
    rw [lft1] at this
    rw [s3, n_lt (by omega) (by omega), nI_add]
    refine ⟨fun q => ?_, fun q => ?_⟩
    · rw [if_neg (show ¬ wt (V 8 c) (V 9 c) ≤ V 4 e + V 5 e by omega)] at this; exact this
    · rw [if_pos (show wt (V 8 c) (V 9 c) ≤ V 4 e + V 5 e by omega)] at this; exact this
theorem snd_X10_lifts (e w : Int32) {h : AH} {K : Int32 → AH → Prop} (k : S_X10_lifts e w h K) : AW M_X10_lifts (.inl K) 0 [some (aR 0 0), some (aI e), some (aI w), none, none, none] [] h 0 0 := by
  obtain ⟨V, cv, hw, k⟩ := k
  have h4 := hw.1
  obtain ⟨-, -, -, -, e4, e5, -, -, e0, -⟩ := CVs cv
  unfold R_lifts at k
  refine vc_X10_lifts e w ?_
  rw [e0]
  refine w_if (fun q => w_ni (fun q2 => ?_) (fun q2 => ?_)) (fun q => ?_)
  · rw [if_neg (by rintro (z | z); exact z q; exact z q2)] at k
    obtain ⟨i, hi, rfl⟩ := (in_iff (by omega)).mp q
    unfold nN at k
    rw [n_cl (by omega)] at k
    simp (disch := omega) only [n_inT, n_cl, true_and, e4, e5, nI_add]
    refine nn_if (fun q3 => ?_) (fun q3 => ?_)
    · rw [if_pos q3] at k; exact k
    · rw [if_neg q3] at k; exact lp_X10_lifts cv hw hi k (V 10 1) 0 (by omega)
  · rw [if_pos (Or.inr q2)] at k; exact k
  · rw [if_pos (Or.inl q)] at k; exact k
theorem tr_X10_lifts : ∀ (as : List AV) (h : AH) (K : Int32 → AH → Prop), T_X10_lifts as h K → ∃ (q : Nat) (r : List AV), as = aR 0 q :: r := by
  intro as h K hk
  match as, hk with
  | [.inr (.inr (.inl q0)), .inl q1, .inl q2], hk =>
    obtain ⟨hb, hk⟩ := tif_inv hk
    simp only [Bool.and_eq_true] at hb
    obtain ⟨e0, e1⟩ := hb
    obtain ⟨a0, b0⟩ := q0
    have f0 : a0 = 0 := Nat.eq_of_beq_eq_true e0
    subst f0
    have f1 : b0 = 0 := Nat.eq_of_beq_eq_true e1
    subst f1
    exact ⟨_, _, rfl⟩
theorem tw_X10_lifts : ∀ (as : List AV) (h : AH) (K : Int32 → AH → Prop), T_X10_lifts as h K → (ini as).length ≤ mNL M_X10_lifts ∧ AW M_X10_lifts (.inl K) 0 (initL (mNL M_X10_lifts) as) [] h 0 0 := by
  intro as h K hk
  match as, hk with
  | [.inr (.inr (.inl q0)), .inl q1, .inl q2], hk =>
    obtain ⟨hb, hk⟩ := tif_inv hk
    simp only [Bool.and_eq_true] at hb
    obtain ⟨e0, e1⟩ := hb
    obtain ⟨a0, b0⟩ := q0
    have f0 : a0 = 0 := Nat.eq_of_beq_eq_true e0
    subst f0
    have f1 : b0 = 0 := Nat.eq_of_beq_eq_true e1
    subst f1
    exact ⟨Nat.le_of_ble_eq_true rfl, snd_X10_lifts q1 q2 hk⟩

/-- only what is thought of has changed -/
def keepC (h h' : AH) : Prop := h'.2.2 = h.2.2 ∧ (∀ a b i, ¬ ((1 ≤ a ∧ a ≤ 9 ∧ b = 1) ∨ a = 14) → h'.1 a b i = h.1 a b i) ∧ ∀ a b i, ¬ (a = 10 ∧ b = 1) → h'.2.1 a b i = h.2.1 a b i
theorem keepC_rfl (h : AH) : keepC h h := ⟨rfl, fun _ _ _ _ => rfl, fun _ _ _ _ => rfl⟩
theorem keepC_tr {h h1 h2 : AH} (a : keepC h h1) (b : keepC h1 h2) : keepC h h2 := ⟨b.1.trans a.1, fun x y i q => (b.2.1 x y i q).trans (a.2.1 x y i q), fun x y i q => (b.2.2 x y i q).trans (a.2.2 x y i q)⟩
theorem keepC_V {h h' : AH} (o : onlyV 1 h h') : keepC h h' := ⟨o.1, fun a b i q => o.2.1 a b i (fun z => q (Or.inl z)), o.2.2⟩
theorem CV_K {h h' : AH} {u : Nat} {V : Vm} (q : keepC h h') (hu : u ≠ 1) (c : CV h u V) : CV h' u V := CV_e (fun t i h1 h2 => q.2.1 t u i (by omega)) (fun i => q.2.2 10 u i (by omega)) (fun a i => q.2.1 18 a i (by omega)) c
def S_X10_man (w : Int32) (h : AH) (K : Int32 → AH → Prop) : Prop := ∃ V, CV h 0 V ∧ WF V ∧ ∀ h', keepC h h' → K (R_man V w) h'
def T_X10_man : List AV → AH → (Int32 → AH → Prop) → Prop := fun as h K => match as with
  | [.inr (.inr (.inl q0)), .inl q1] => tif (Nat.beq q0.1 0 && Nat.beq q0.2 0) (S_X10_man q1 h K)
  | _ => False

def M_X10_man : MI := (RX10, cX10_man, 3, [(0, .iload_n 1, []), (1, .iconst 1, []), (2, .bipush 60, []), (4, .invokestatic 59, []), (7, .ifCond .ne 5, [12]), (10, .iconst (-1), []), (11, .ireturn, []), (12, .iconst 0, []), (13, .istore_n 2, []), (14, .iload_n 2, []), (15, .bipush 60, []), (17, .if_icmp .gt 43, [60]), (20, .aload_n 0, []), (21, .getfield 16, []), (24, .aload_n 0, []), (25, .getfield 10, []), (28, .invokevirtual 41, []), (31, .aload_n 0, []), (32, .getfield 16, []), (35, .iload_n 2, []), (36, .invokevirtual 145, []), (39, .aload_n 0, []), (40, .getfield 16, []), (43, .iload_n 1, []), (44, .invokevirtual 183, []), (47, .bipush (-4), []), (49, .if_icmp .eq 5, [54]), (52, .iload_n 2, []), (53, .ireturn, []), (54, .iinc 2 1, []), (57, .goto (-43), [14]), (60, .bipush (-4), []), (62, .ireturn, [])], [(16, (0, 1, 1, 1, 1)), (10, (0, 0, 1, 1, 0))], [], [], [(178, (3, 1, 22, 0, 0, .inl T_X10_within)), (123, (2, 2, 48, 0, 0, .inr (.inl T_X9_become))), (435, (2, 2, 43, 0, 0, .inr (.inl T_X9_pass))), (549, (2, 1, 24, 0, 0, .inl T_X9_carrierOf))], 2, 48, 0, 0)
theorem ok_X10_man : MOK M_X10_man := ⟨by decide +kernel, List.forall_mem_cons.mpr ⟨fl_RX10_16, List.forall_mem_cons.mpr ⟨fl_RX10_10, fun _ h => absurd h List.not_mem_nil⟩⟩, fun _ h => absurd h List.not_mem_nil, fun _ h => absurd h List.not_mem_nil, List.forall_mem_cons.mpr ⟨⟨Nat.le_of_ble_eq_true rfl, Nat.le_of_ble_eq_true rfl, cr_RX10_178⟩, List.forall_mem_cons.mpr ⟨⟨Nat.le_of_ble_eq_true rfl, Nat.le_of_ble_eq_true rfl, cr_RX10_123⟩, List.forall_mem_cons.mpr ⟨⟨Nat.le_of_ble_eq_true rfl, Nat.le_of_ble_eq_true rfl, cr_RX10_435⟩, List.forall_mem_cons.mpr ⟨⟨Nat.le_of_ble_eq_true rfl, Nat.le_of_ble_eq_true rfl, cr_RX10_549⟩, fun _ h => absurd h List.not_mem_nil⟩⟩⟩⟩⟩
set_option maxRecDepth 100000 in
theorem vc_X10_man {K : Int32 → AH → Prop} {h : AH} (p1 : Int32) (H : S_X10_within p1 (nI 1) (nI 60) h (fun x2 h1 => ((¬ x2 = 0) → AW M_X10_man (.inl K) 14 [some (aR 0 0), some (aI p1), some (aI (nI 0))] [] h1 0 0) ∧ (¬ (¬ x2 = 0) → K (iI (-1)) h1))) : AW M_X10_man (.inl K) 0 [some (aR 0 0), some (aI p1), none] [] h 0 0 := AW_go (cuts := [(14, [true, true, true])]) ok_X10_man 400 H
set_option maxRecDepth 100000 in
theorem vc_X10_man_14 {K : Int32 → AH → Prop} {h : AH}  (l1 : Int32) (l2 : Int32) (H : (((nI 60) < l2) → K (iI (-4)) h) ∧ (¬ ((nI 60) < l2) → S_X9_become 1 0 h (fun h1 => S_X9_pass 1 l2 h1 (fun h2 => S_X9_carrierOf 1 l1 h2 (fun x4 h3 => ((x4 = (iI (-4))) → AW M_X10_man (.inl K) 14 [some (aR 0 0), some (aI l1), some (aI (l2 + (nI 1)))] [] h3 0 0) ∧ (¬ (x4 = (iI (-4))) → K l2 h3)))))) : AW M_X10_man (.inl K) 14 [some (aR 0 0), some (aI l1), some (aI l2)] [] h 0 0 := AW_go (cuts := [(14, [true, true, true])]) ok_X10_man 400 H

theorem mn_s {V : Vm} {w r t : Nat} : mn V w (r + 1) t = if car (wai V t) w (V 10 0) ≠ none then some t else mn V w r (t + 1) := rfl
theorem lp_X10_man {V : Vm} {w : Nat} {h0 : AH} {K : Int32 → AH → Prop} (cv : CV h0 0 V) (hw : WF V) (hw1 : w ≤ 60) (k : ∀ h', keepC h0 h' → K (oI (mn V w 61 0)) h') : ∀ r t h, t + r = 61 → mn V w 61 0 = mn V w r t → keepC h0 h → AW M_X10_man (.inl K) 14 [some (aR 0 0), some (aI (nI w)), some (aI (nI t))] [] h 0 0 := by
  intro r
  induction r with
  | zero =>
    intro t h ht hm h1
    refine vc_X10_man_14 (nI w) (nI t) ?_
    rw [n_lt (by omega) (by omega)]
    refine ⟨fun _ => ?_, fun q => absurd (by omega) q⟩
    have := k h h1
    rw [hm] at this
    exact this
  | succ r ih =>
    intro t h ht hm h1
    refine vc_X10_man_14 (nI w) (nI t) ?_
    rw [n_lt (by omega) (by omega), nI_add]
    refine ⟨fun q => by omega, fun _ => ⟨by decide, V, CV_K h1 (by decide) cv, hw, fun h2 o2 c2 => ⟨V, t, c2, hw, by omega, rfl, fun h3 o3 c3 => ⟨wai V t, w, c3, WF_wai hw, by omega, rfl, ?_⟩⟩⟩⟩
    have k3 := keepC_tr h1 (keepC_tr (keepC_V o2) (keepC_V o3))
    (try dsimp only)
    rw [wai_10 (by omega), oI_no (fun p hp => by have := car_lt hp; have := hw.1; omega)]
    rw [mn_s (r := r) (t := t)] at hm
    refine ⟨fun q => ih (t + 1) h3 (by omega) ?_ k3, fun q => ?_⟩
    · rw [hm, if_neg (fun z => z q)]
    · have := k h3 k3
      rw [hm, if_pos q] at this
      exact this
theorem snd_X10_man (w : Int32) {h : AH} {K : Int32 → AH → Prop} (k : S_X10_man w h K) : AW M_X10_man (.inl K) 0 [some (aR 0 0), some (aI w), none] [] h 0 0 := by
  obtain ⟨V, cv, hw, k⟩ := k
  unfold R_man at k
  refine vc_X10_man w (w_ni (fun q => ?_) (fun q => ?_))
  · rw [if_neg (fun z => z q)] at k
    obtain ⟨i, h1, h2, rfl⟩ := in60 q
    unfold nN at k
    rw [n_cl (by omega)] at k
    exact lp_X10_man cv hw h2 k 61 0 h (by omega) rfl (keepC_rfl h)
  · rw [if_pos q] at k
    exact k h (keepC_rfl h)
theorem tr_X10_man : ∀ (as : List AV) (h : AH) (K : Int32 → AH → Prop), T_X10_man as h K → ∃ (q : Nat) (r : List AV), as = aR 0 q :: r := by
  intro as h K hk
  match as, hk with
  | [.inr (.inr (.inl q0)), .inl q1], hk =>
    obtain ⟨hb, hk⟩ := tif_inv hk
    simp only [Bool.and_eq_true] at hb
    obtain ⟨e0, e1⟩ := hb
    obtain ⟨a0, b0⟩ := q0
    have f0 : a0 = 0 := Nat.eq_of_beq_eq_true e0
    subst f0
    have f1 : b0 = 0 := Nat.eq_of_beq_eq_true e1
    subst f1
    exact ⟨_, _, rfl⟩
theorem tw_X10_man : ∀ (as : List AV) (h : AH) (K : Int32 → AH → Prop), T_X10_man as h K → (ini as).length ≤ mNL M_X10_man ∧ AW M_X10_man (.inl K) 0 (initL (mNL M_X10_man) as) [] h 0 0 := by
  intro as h K hk
  match as, hk with
  | [.inr (.inr (.inl q0)), .inl q1], hk =>
    obtain ⟨hb, hk⟩ := tif_inv hk
    simp only [Bool.and_eq_true] at hb
    obtain ⟨e0, e1⟩ := hb
    obtain ⟨a0, b0⟩ := q0
    have f0 : a0 = 0 := Nat.eq_of_beq_eq_true e0
    subst f0
    have f1 : b0 = 0 := Nat.eq_of_beq_eq_true e1
    subst f1
    exact ⟨Nat.le_of_ble_eq_true rfl, snd_X10_man q1 hk⟩

def S_X10_safe (s : Int32) (h : AH) (K : Int32 → AH → Prop) : Prop := ∃ V, CV h 0 V ∧ WF V ∧ K (R_safe V s) h
def T_X10_safe : List AV → AH → (Int32 → AH → Prop) → Prop := fun as h K => match as with
  | [.inr (.inr (.inl q0)), .inl q1] => tif (Nat.beq q0.1 0 && Nat.beq q0.2 0) (S_X10_safe q1 h K)
  | _ => False

def M_X10_safe : MI := (RX10, cX10_safe, 5, [(0, .aload_n 0, []), (1, .getfield 10, []), (4, .iload_n 1, []), (5, .invokevirtual 87, []), (8, .astore_n 2, []), (9, .aload_n 2, []), (10, .ifnonnull 5, [15]), (13, .iconst (-1), []), (14, .ireturn, []), (15, .iconst 0, []), (16, .istore_n 3, []), (17, .iconst 0, []), (18, .istore 4, []), (20, .iload 4, []), (22, .bipush 8, []), (24, .if_icmp .ge 29, [53]), (27, .aload_n 0, []), (28, .getfield 10, []), (31, .aload_n 2, []), (32, .iload 4, []), (34, .invokevirtual 157, []), (37, .ifCond .ne 10, [47]), (40, .iload_n 3, []), (41, .iconst 1, []), (42, .iload 4, []), (44, .ishl, []), (45, .ior, []), (46, .istore_n 3, []), (47, .iinc 4 1, []), (50, .goto (-30), [20]), (53, .iload_n 3, []), (54, .ireturn, [])], [(10, (0, 0, 1, 1, 0))], [], [], [(261, (2, 2, 43, 0, 0, .inr (.inr (.inr T_X9_sheepAt)))), (471, (3, 2, 42, 0, 0, .inl T_X9_isEaten))], 2, 43, 0, 0)
theorem ok_X10_safe : MOK M_X10_safe := ⟨by decide +kernel, List.forall_mem_cons.mpr ⟨fl_RX10_10, fun _ h => absurd h List.not_mem_nil⟩, fun _ h => absurd h List.not_mem_nil, fun _ h => absurd h List.not_mem_nil, List.forall_mem_cons.mpr ⟨⟨Nat.le_of_ble_eq_true rfl, Nat.le_of_ble_eq_true rfl, cr_RX10_261⟩, List.forall_mem_cons.mpr ⟨⟨Nat.le_of_ble_eq_true rfl, Nat.le_of_ble_eq_true rfl, cr_RX10_471⟩, fun _ h => absurd h List.not_mem_nil⟩⟩⟩
set_option maxRecDepth 100000 in
theorem vc_X10_safe {K : Int32 → AH → Prop} {h : AH} (p1 : Int32) (H : S_X9_sheepAt 0 p1 h (fun x2 h1 => (((x2 : Option Nat) = none) → K (iI (-1)) h1) ∧ (¬ ((x2 : Option Nat) = none) → AW M_X10_safe (.inl K) 20 [some (aR 0 0), none, some (aS x2), some (aI (nI 0)), some (aI (nI 0))] [] h1 0 0))) : AW M_X10_safe (.inl K) 0 [some (aR 0 0), some (aI p1), none, none, none] [] h 0 0 := AW_go (cuts := [(20, [true, false, true, true, true])]) ok_X10_safe 400 H
set_option maxRecDepth 100000 in
theorem vc_X10_safe_20 {K : Int32 → AH → Prop} {h : AH}  (l2 : Option Nat) (l3 : Int32) (l4 : Int32) (H : (((nI 8) ≤ l4) → K l3 h) ∧ (¬ ((nI 8) ≤ l4) → S_X9_isEaten 0 l2 l4 h (fun x2 h1 => ((¬ x2 = 0) → AW M_X10_safe (.inl K) 20 [some (aR 0 0), none, some (aS l2), some (aI l3), some (aI (l4 + (nI 1)))] [] h1 0 0) ∧ (¬ (¬ x2 = 0) → AW M_X10_safe (.inl K) 20 [some (aR 0 0), none, some (aS l2), some (aI (l3 ||| ((nI 1) <<< (l4 &&& 31)))), some (aI (l4 + (nI 1)))] [] h1 0 0)))) : AW M_X10_safe (.inl K) 20 [some (aR 0 0), none, some (aS l2), some (aI l3), some (aI l4)] [] h 0 0 := AW_go (cuts := [(20, [true, false, true, true, true])]) ok_X10_safe 400 H

theorem lp_X10_safe {V : Vm} {n : Nat} {o : Option Nat} {h : AH} {K : Int32 → AH → Prop} (hp : vPre 0 o h V n) (k : K (sfe V n 8) h) : ∀ r c, c + r = 8 → AW M_X10_safe (.inl K) 20 [some (aR 0 0), none, some (aS o), some (aI (sfe V n c)), some (aI (nI c))] [] h 0 0 := by
  intro r
  induction r with
  | zero =>
    intro c hc
    refine vc_X10_safe_20 o _ (nI c) ?_
    have : c = 8 := by omega
    subst this
    exact ⟨fun _ => k, fun q => absurd (Int32.le_refl _) q⟩
  | succ r ih =>
    intro c hc
    refine vc_X10_safe_20 o _ (nI c) ?_
    rw [n_le (by omega) (by omega), nI_add]
    refine ⟨fun q => by omega, fun _ => ⟨V, n, c, hp, by omega, rfl, ?_⟩⟩
    have := ih (c + 1) (by omega)
    rw [sfe] at this
    refine w_ni (fun q => ?_) (fun q => ?_)
    · rw [if_pos q] at this; exact this
    · rw [if_neg q] at this; exact this
theorem snd_X10_safe (s : Int32) {h : AH} {K : Int32 → AH → Prop} (k : S_X10_safe s h K) : AW M_X10_safe (.inl K) 0 [some (aR 0 0), some (aI s), none, none, none] [] h 0 0 := by
  obtain ⟨V, cv, hw, k⟩ := k
  have h7 := hw.2.1
  unfold R_safe at k
  refine vc_X10_safe s ⟨V, cv, hw, fun n o hn e1 _ sp => ⟨fun z => ?_, fun _ => ?_⟩, fun q => ⟨fun _ => ?_, fun z => absurd rfl z⟩⟩
  · obtain ⟨a, e, -⟩ := sp
    rw [z] at e
    cases e
  · subst e1
    rw [if_pos ((in_iff (by omega)).mpr ⟨n, hn, rfl⟩)] at k
    unfold nN at k
    rw [n_cl (show n < 2147483648 by omega)] at k
    exact lp_X10_safe ⟨cv, hw, hn, sp⟩ k 8 0 (by omega)
  · rw [if_neg (fun z => q ((in_iff (by omega)).mp z))] at k
    exact k
theorem tr_X10_safe : ∀ (as : List AV) (h : AH) (K : Int32 → AH → Prop), T_X10_safe as h K → ∃ (q : Nat) (r : List AV), as = aR 0 q :: r := by
  intro as h K hk
  match as, hk with
  | [.inr (.inr (.inl q0)), .inl q1], hk =>
    obtain ⟨hb, hk⟩ := tif_inv hk
    simp only [Bool.and_eq_true] at hb
    obtain ⟨e0, e1⟩ := hb
    obtain ⟨a0, b0⟩ := q0
    have f0 : a0 = 0 := Nat.eq_of_beq_eq_true e0
    subst f0
    have f1 : b0 = 0 := Nat.eq_of_beq_eq_true e1
    subst f1
    exact ⟨_, _, rfl⟩
theorem tw_X10_safe : ∀ (as : List AV) (h : AH) (K : Int32 → AH → Prop), T_X10_safe as h K → (ini as).length ≤ mNL M_X10_safe ∧ AW M_X10_safe (.inl K) 0 (initL (mNL M_X10_safe) as) [] h 0 0 := by
  intro as h K hk
  match as, hk with
  | [.inr (.inr (.inl q0)), .inl q1], hk =>
    obtain ⟨hb, hk⟩ := tif_inv hk
    simp only [Bool.and_eq_true] at hb
    obtain ⟨e0, e1⟩ := hb
    obtain ⟨a0, b0⟩ := q0
    have f0 : a0 = 0 := Nat.eq_of_beq_eq_true e0
    subst f0
    have f1 : b0 = 0 := Nat.eq_of_beq_eq_true e1
    subst f1
    exact ⟨Nat.le_of_ble_eq_true rfl, snd_X10_safe q1 hk⟩

def S_X10_noon (h : AH) (K : Int32 → AH → Prop) : Prop := ∃ V, CV h 0 V ∧ WF V ∧ K (R_noon V) h
def T_X10_noon : List AV → AH → (Int32 → AH → Prop) → Prop := fun as h K => match as with
  | [.inr (.inr (.inl q0))] => tif (Nat.beq q0.1 0 && Nat.beq q0.2 0) (S_X10_noon h K)
  | _ => False

def M_X10_noon : MI := (RX10, cX10_noon, 1, [(0, .aload_n 0, []), (1, .getfield 10, []), (4, .invokevirtual 186, []), (7, .ifCond .eq 7, [14]), (10, .iconst 0, []), (11, .goto 16, [27]), (14, .bipush 35, []), (16, .aload_n 0, []), (17, .getfield 10, []), (20, .getfield 135, []), (23, .isub, []), (24, .bipush 24, []), (26, .irem, []), (27, .ireturn, [])], [(10, (0, 0, 1, 1, 0)), (135, (1, 11, 0, 0, 0))], [], [], [(558, (1, 1, 20, 0, 0, .inl T_X9_snakesSleep))], 1, 20, 0, 0)
theorem ok_X10_noon : MOK M_X10_noon := ⟨by decide +kernel, List.forall_mem_cons.mpr ⟨fl_RX10_10, List.forall_mem_cons.mpr ⟨fl_RX10_135, fun _ h => absurd h List.not_mem_nil⟩⟩, fun _ h => absurd h List.not_mem_nil, fun _ h => absurd h List.not_mem_nil, List.forall_mem_cons.mpr ⟨⟨Nat.le_of_ble_eq_true rfl, Nat.le_of_ble_eq_true rfl, cr_RX10_558⟩, fun _ h => absurd h List.not_mem_nil⟩⟩
set_option maxRecDepth 100000 in
theorem vc_X10_noon {K : Int32 → AH → Prop} {h : AH}  (H : S_X9_snakesSleep 0 h (fun x2 h1 => ((x2 = 0) → (¬ (nI 24) = 0) ∧ K (((nI 35) - (h1.1 1 0 11)) - ((nI 35) - (h1.1 1 0 11)) / (nI 24) * (nI 24)) h1) ∧ (¬ (x2 = 0) → K (nI 0) h1))) : AW M_X10_noon (.inl K) 0 [some (aR 0 0)] [] h 0 0 := AW_go (cuts := []) ok_X10_noon 400 H

theorem snd_X10_noon {h : AH} {K : Int32 → AH → Prop} (k : S_X10_noon h K) : AW M_X10_noon (.inl K) 0 [some (aR 0 0)] [] h 0 0 := by
  obtain ⟨V, cv, hw, k⟩ := k
  have hh := hw.2.2.1
  unfold R_noon at k
  refine vc_X10_noon ⟨V, cv, hw, w_if (fun q => ?_) (fun q => ⟨by decide, ?_⟩)⟩
  · rw [if_pos q] at k; exact k
  · rw [if_neg q] at k
    rw [(CVs cv).2.2.2.2.2.2.2.2.2.2.1, n_sub (by omega), n_rem (show 35 - V 10 2 < 2147483648 by omega) (by omega) (by omega)]
    exact k
theorem tr_X10_noon : ∀ (as : List AV) (h : AH) (K : Int32 → AH → Prop), T_X10_noon as h K → ∃ (q : Nat) (r : List AV), as = aR 0 q :: r := by
  intro as h K hk
  match as, hk with
  | [.inr (.inr (.inl q0))], hk =>
    obtain ⟨hb, hk⟩ := tif_inv hk
    simp only [Bool.and_eq_true] at hb
    obtain ⟨e0, e1⟩ := hb
    obtain ⟨a0, b0⟩ := q0
    have f0 : a0 = 0 := Nat.eq_of_beq_eq_true e0
    subst f0
    have f1 : b0 = 0 := Nat.eq_of_beq_eq_true e1
    subst f1
    exact ⟨_, _, rfl⟩
theorem tw_X10_noon : ∀ (as : List AV) (h : AH) (K : Int32 → AH → Prop), T_X10_noon as h K → (ini as).length ≤ mNL M_X10_noon ∧ AW M_X10_noon (.inl K) 0 (initL (mNL M_X10_noon) as) [] h 0 0 := by
  intro as h K hk
  match as, hk with
  | [.inr (.inr (.inl q0))], hk =>
    obtain ⟨hb, hk⟩ := tif_inv hk
    simp only [Bool.and_eq_true] at hb
    obtain ⟨e0, e1⟩ := hb
    obtain ⟨a0, b0⟩ := q0
    have f0 : a0 = 0 := Nat.eq_of_beq_eq_true e0
    subst f0
    have f1 : b0 = 0 := Nat.eq_of_beq_eq_true e1
    subst f1
    exact ⟨Nat.le_of_ble_eq_true rfl, snd_X10_noon  hk⟩

def S_X10_left (w : Int32) (h : AH) (K : Int32 → AH → Prop) : Prop := ∃ V, CV h 0 V ∧ WF V ∧ K (R_left V w) h
def T_X10_left : List AV → AH → (Int32 → AH → Prop) → Prop := fun as h K => match as with
  | [.inr (.inr (.inl q0)), .inl q1] => tif (Nat.beq q0.1 0 && Nat.beq q0.2 0) (S_X10_left q1 h K)
  | _ => False

def M_X10_left : MI := (RX10, cX10_left, 5, [(0, .iload_n 1, []), (1, .iconst 0, []), (2, .iconst 1, []), (3, .invokestatic 59, []), (6, .ifCond .ne 5, [11]), (9, .iconst (-1), []), (10, .ireturn, []), (11, .iconst 0, []), (12, .istore_n 2, []), (13, .iconst 0, []), (14, .istore_n 3, []), (15, .iconst 0, []), (16, .istore 4, []), (18, .iload 4, []), (20, .bipush 8, []), (22, .if_icmp .ge 44, [66]), (25, .iload_n 2, []), (26, .aload_n 0, []), (27, .getfield 10, []), (30, .iload 4, []), (32, .invokevirtual 190, []), (35, .iadd, []), (36, .istore_n 2, []), (37, .aload_n 0, []), (38, .getfield 10, []), (41, .iload 4, []), (43, .invokevirtual 190, []), (46, .aload_n 0, []), (47, .getfield 10, []), (50, .iload_n 3, []), (51, .invokevirtual 190, []), (54, .if_icmp .le 6, [60]), (57, .iload 4, []), (59, .istore_n 3, []), (60, .iinc 4 1, []), (63, .goto (-45), [18]), (66, .iload_n 1, []), (67, .ifCond .ne 7, [74]), (70, .iload_n 2, []), (71, .goto 4, [75]), (74, .iload_n 3, []), (75, .ireturn, [])], [(10, (0, 0, 1, 1, 0))], [], [], [(178, (3, 1, 22, 0, 0, .inl T_X10_within)), (570, (2, 1, 21, 0, 0, .inl T_X9_worthIn))], 1, 22, 0, 0)
theorem ok_X10_left : MOK M_X10_left := ⟨by decide +kernel, List.forall_mem_cons.mpr ⟨fl_RX10_10, fun _ h => absurd h List.not_mem_nil⟩, fun _ h => absurd h List.not_mem_nil, fun _ h => absurd h List.not_mem_nil, List.forall_mem_cons.mpr ⟨⟨Nat.le_of_ble_eq_true rfl, Nat.le_of_ble_eq_true rfl, cr_RX10_178⟩, List.forall_mem_cons.mpr ⟨⟨Nat.le_of_ble_eq_true rfl, Nat.le_of_ble_eq_true rfl, cr_RX10_570⟩, fun _ h => absurd h List.not_mem_nil⟩⟩⟩
set_option maxRecDepth 100000 in
theorem vc_X10_left {K : Int32 → AH → Prop} {h : AH} (p1 : Int32) (H : S_X10_within p1 (nI 0) (nI 1) h (fun x2 h1 => ((¬ x2 = 0) → AW M_X10_left (.inl K) 18 [some (aR 0 0), some (aI p1), some (aI (nI 0)), some (aI (nI 0)), some (aI (nI 0))] [] h1 0 0) ∧ (¬ (¬ x2 = 0) → K (iI (-1)) h1))) : AW M_X10_left (.inl K) 0 [some (aR 0 0), some (aI p1), none, none, none] [] h 0 0 := AW_go (cuts := [(18, [true, true, true, true, true])]) ok_X10_left 400 H
set_option maxRecDepth 100000 in
theorem vc_X10_left_18 {K : Int32 → AH → Prop} {h : AH}  (l1 : Int32) (l2 : Int32) (l3 : Int32) (l4 : Int32) (H : (((nI 8) ≤ l4) → ((¬ l1 = 0) → K l3 h) ∧ (¬ (¬ l1 = 0) → K l2 h)) ∧ (¬ ((nI 8) ≤ l4) → S_X9_worthIn 0 l4 h (fun x2 h1 => S_X9_worthIn 0 l4 h1 (fun x4 h3 => S_X9_worthIn 0 l3 h3 (fun x6 h5 => ((x4 ≤ x6) → AW M_X10_left (.inl K) 18 [some (aR 0 0), some (aI l1), some (aI (l2 + x2)), some (aI l3), some (aI (l4 + (nI 1)))] [] h5 0 0) ∧ (¬ (x4 ≤ x6) → AW M_X10_left (.inl K) 18 [some (aR 0 0), some (aI l1), some (aI (l2 + x2)), some (aI l4), some (aI (l4 + (nI 1)))] [] h5 0 0)))))) : AW M_X10_left (.inl K) 18 [some (aR 0 0), some (aI l1), some (aI l2), some (aI l3), some (aI l4)] [] h 0 0 := AW_go (cuts := [(18, [true, true, true, true, true])]) ok_X10_left 400 H

theorem lp_X10_left {V : Vm} {w : Int32} {h : AH} {K : Int32 → AH → Prop} (cv : CV h 0 V) (hw : WF V) (k : K (if w = 0 then nI (lftA V 8) else nI (lftC V 8)) h) : ∀ r c, c + r = 8 → AW M_X10_left (.inl K) 18 [some (aR 0 0), some (aI w), some (aI (nI (lftA V c))), some (aI (nI (lftC V c))), some (aI (nI c))] [] h 0 0 := by
  intro r
  induction r with
  | zero =>
    intro c hc
    refine vc_X10_left_18 w _ _ (nI c) ?_
    have : c = 8 := by omega
    subst this
    refine ⟨fun _ => nn_if (fun q => ?_) (fun q => ?_), fun q => absurd (Int32.le_refl _) q⟩
    · rw [if_pos q] at k; exact k
    · rw [if_neg q] at k; exact k
  | succ r ih =>
    intro c hc
    refine vc_X10_left_18 w _ _ (nI c) ?_
    have hl := lftC_le V c
    have hb1 := hw.2.2.2.2.1 c (by omega)
    have hb2 := hw.2.2.2.2.1 (lftC V c) (by omega)
    rw [n_le (by omega) (by omega), nI_add]
    refine ⟨fun q => by omega, fun _ => ⟨V, c, cv, hw, by omega, rfl, V, c, cv, hw, by omega, rfl, V, lftC V c, cv, hw, by omega, rfl, ?_⟩⟩
    have := ih (c + 1) (by omega)
    rw [lftA, lftC] at this
    (try dsimp only)
    rw [n_le (by omega) (by omega), nI_add]
    refine ⟨fun q => ?_, fun q => ?_⟩
    · rw [if_neg (by omega)] at this; exact this
    · rw [if_pos (by omega)] at this; exact this
theorem snd_X10_left (w : Int32) {h : AH} {K : Int32 → AH → Prop} (k : S_X10_left w h K) : AW M_X10_left (.inl K) 0 [some (aR 0 0), some (aI w), none, none, none] [] h 0 0 := by
  obtain ⟨V, cv, hw, k⟩ := k
  unfold R_left at k
  refine vc_X10_left w (w_ni (fun q => ?_) (fun q => ?_))
  · rw [if_neg (fun z => z q)] at k; exact lp_X10_left cv hw k 8 0 (by omega)
  · rw [if_pos q] at k; exact k
theorem tr_X10_left : ∀ (as : List AV) (h : AH) (K : Int32 → AH → Prop), T_X10_left as h K → ∃ (q : Nat) (r : List AV), as = aR 0 q :: r := by
  intro as h K hk
  match as, hk with
  | [.inr (.inr (.inl q0)), .inl q1], hk =>
    obtain ⟨hb, hk⟩ := tif_inv hk
    simp only [Bool.and_eq_true] at hb
    obtain ⟨e0, e1⟩ := hb
    obtain ⟨a0, b0⟩ := q0
    have f0 : a0 = 0 := Nat.eq_of_beq_eq_true e0
    subst f0
    have f1 : b0 = 0 := Nat.eq_of_beq_eq_true e1
    subst f1
    exact ⟨_, _, rfl⟩
theorem tw_X10_left : ∀ (as : List AV) (h : AH) (K : Int32 → AH → Prop), T_X10_left as h K → (ini as).length ≤ mNL M_X10_left ∧ AW M_X10_left (.inl K) 0 (initL (mNL M_X10_left) as) [] h 0 0 := by
  intro as h K hk
  match as, hk with
  | [.inr (.inr (.inl q0)), .inl q1], hk =>
    obtain ⟨hb, hk⟩ := tif_inv hk
    simp only [Bool.and_eq_true] at hb
    obtain ⟨e0, e1⟩ := hb
    obtain ⟨a0, b0⟩ := q0
    have f0 : a0 = 0 := Nat.eq_of_beq_eq_true e0
    subst f0
    have f1 : b0 = 0 := Nat.eq_of_beq_eq_true e1
    subst f1
    exact ⟨Nat.le_of_ble_eq_true rfl, snd_X10_left q1 hk⟩


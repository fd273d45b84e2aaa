/-! ===== the reference: what is set, laid, counted; the image ===== -/
def M_set (V : Vm) (w v : Int32) : Int32 × Vm := if w = nI 0 ∧ (nI 0 ≤ v ∧ v ≤ nI 1) then (nI (V 10 3), uV V 10 3 (nN v)) else if w = nI 1 ∧ (nI 0 ≤ v ∧ v ≤ nI 23) then (nI (V 10 2), uV V 10 2 (nN v)) else (iI (-1), V)
def S_X11_set (w v : Int32) (h : AH) (K : Int32 → AH → Prop) : Prop := ∃ V, RV (h.1 16 0) V ∧ WF V ∧ ∀ h', only 16 0 h h' → RV (h'.1 16 0) (M_set V w v).2 → K (M_set V w v).1 h'
def T_X11_set : List AV → AH → (Int32 → AH → Prop) → Prop := fun as h K => match as with
  | [.inr (.inr (.inl q0)), .inl q1, .inl q2] => tif (Nat.beq q0.1 15 && Nat.beq q0.2 0) (S_X11_set q1 q2 h K)
  | _ => False

def M_X11_set : MI := (RX11, cX11_set, 5, [(0, .iload_n 1, []), (1, .iconst 0, []), (2, .iconst 1, []), (3, .invokestatic 53, []), (6, .ifCond .eq 21, [27]), (9, .iload_n 2, []), (10, .iconst 0, []), (11, .iload_n 1, []), (12, .ifCond .ne 7, [19]), (15, .iconst 1, []), (16, .goto 5, [21]), (19, .bipush 23, []), (21, .invokestatic 53, []), (24, .ifCond .ne 5, [29]), (27, .iconst (-1), []), (28, .ireturn, []), (29, .iload_n 1, []), (30, .ifCond .ne 7, [37]), (33, .iconst 3, []), (34, .goto 4, [38]), (37, .iconst 2, []), (38, .istore_n 3, []), (39, .aload_n 0, []), (40, .getfield 9, []), (43, .iload_n 3, []), (44, .iaload, []), (45, .istore 4, []), (47, .aload_n 0, []), (48, .getfield 9, []), (51, .iload_n 3, []), (52, .iload_n 2, []), (53, .iastore, []), (54, .iload 4, []), (56, .ireturn, [])], [(9, (15, 0, 1, 16, 0))], [], [], [(160, (3, 1, 22, 0, 0, .inl T_X11_isIn))], 1, 22, 0, 0)
theorem ok_X11_set : MOK M_X11_set := ⟨by decide +kernel, List.forall_mem_cons.mpr ⟨fl_RX11_9, fun _ h => absurd h List.not_mem_nil⟩, fun _ h => absurd h List.not_mem_nil, fun _ h => absurd h List.not_mem_nil, List.forall_mem_cons.mpr ⟨⟨Nat.le_of_ble_eq_true rfl, Nat.le_of_ble_eq_true rfl, cr_RX11_160⟩, fun _ h => absurd h List.not_mem_nil⟩⟩
set_option maxRecDepth 100000 in
theorem vc_X11_set {K : Int32 → AH → Prop} {h : AH} (p1 : Int32) (p2 : Int32) (H : S_X11_isIn p1 (nI 0) (nI 1) h (fun x2 h1 => ((x2 = 0) → K (iI (-1)) h1) ∧ (¬ (x2 = 0) → ((¬ p1 = 0) → S_X11_isIn p2 (nI 0) (nI 23) h1 (fun x4 h3 => ((¬ x4 = 0) → ((¬ p1 = 0) → inR (nI 2) 62 ∧ inR (nI 2) 62 ∧ K (h3.1 16 0 (nI 2).toNatClampNeg) (wI h3 16 0 (nI 2).toNatClampNeg p2)) ∧ (¬ (¬ p1 = 0) → inR (nI 3) 62 ∧ inR (nI 3) 62 ∧ K (h3.1 16 0 (nI 3).toNatClampNeg) (wI h3 16 0 (nI 3).toNatClampNeg p2))) ∧ (¬ (¬ x4 = 0) → K (iI (-1)) h3))) ∧ (¬ (¬ p1 = 0) → S_X11_isIn p2 (nI 0) (nI 1) h1 (fun x6 h5 => ((¬ x6 = 0) → ((¬ p1 = 0) → inR (nI 2) 62 ∧ inR (nI 2) 62 ∧ K (h5.1 16 0 (nI 2).toNatClampNeg) (wI h5 16 0 (nI 2).toNatClampNeg p2)) ∧ (¬ (¬ p1 = 0) → inR (nI 3) 62 ∧ inR (nI 3) 62 ∧ K (h5.1 16 0 (nI 3).toNatClampNeg) (wI h5 16 0 (nI 3).toNatClampNeg p2))) ∧ (¬ (¬ x6 = 0) → K (iI (-1)) h5)))))) : AW M_X11_set (.inl K) 0 [some (aR 15 0), some (aI p1), some (aI p2), none, none] [] h 0 0 := AW_go (cuts := []) ok_X11_set 400 H

theorem snd_X11_set (w v : Int32) {h : AH} {K : Int32 → AH → Prop} (k : S_X11_set w v h K) : AW M_X11_set (.inl K) 0 [some (aR 15 0), some (aI w), some (aI v), none, none] [] h 0 0 := by
  obtain ⟨V, hr, hw, k⟩ := k
  refine vc_X11_set w v ?_
  obtain ⟨-, -, -, -, -, -, -, -, -, -, -, -, e2, e3⟩ := RVs hr
  unfold S_X11_isIn
  simp only [if10_eq]
  simp (disch := omega) only [n_inT, n_cl, true_and, e2, e3]
  unfold M_set at k
  by_cases hw0 : w = nI 0
  · subst hw0
    refine ⟨fun q => absurd ⟨by decide, by decide⟩ q, fun _ => ⟨fun q => absurd rfl q, fun _ => ⟨fun q => ⟨fun q2 => absurd rfl q2, fun _ => ?_⟩, fun q => ?_⟩⟩⟩
    · have q := Decidable.not_not.mp q
      rw [if_pos ⟨rfl, q⟩] at k
      obtain ⟨i, hi, rfl⟩ := (in_n (by omega)).mp q
      unfold nN at k
      rw [n_cl (by omega)] at k
      exact k _ (only_wI ..) (RV_set hw hr (t := 10) (i := 3) (by omega) (show 3 < 4 by decide))
    · rw [if_neg (fun z => q (fun y => y z.2)), if_neg (fun z => absurd z.1 (by decide))] at k
      exact k h (only_rfl ..) hr
  · by_cases hw1 : w = nI 1
    · subst hw1
      refine ⟨fun q => absurd ⟨by decide, by decide⟩ q, fun _ => ⟨fun _ => ⟨fun q => ⟨fun q2 => ?_, fun q2 => absurd (fun z => by cases z) q2⟩, fun q => ?_⟩, fun q => absurd (fun z => by cases z) q⟩⟩
      · have q := Decidable.not_not.mp q
        rw [if_neg (fun z => absurd z.1 (by decide)), if_pos ⟨rfl, q⟩] at k
        obtain ⟨i, hi, rfl⟩ := (in_n (by omega)).mp q
        unfold nN at k
        rw [n_cl (by omega)] at k
        exact k _ (only_wI ..) (RV_set hw hr (t := 10) (i := 2) (by omega) (show 2 < 4 by decide))
      · rw [if_neg (fun z => absurd z.1 (by decide)), if_neg (fun z => q (fun y => y z.2))] at k
        exact k h (only_rfl ..) hr
    · rw [if_neg (fun z => hw0 z.1), if_neg (fun z => hw1 z.1)] at k
      refine ⟨fun _ => k h (only_rfl ..) hr, fun q => ?_⟩
      obtain ⟨i, hi, rfl⟩ := (in_n (by omega)).mp (Decidable.not_not.mp q)
      rcases (show i = 0 ∨ i = 1 by omega) with rfl | rfl
      · exact absurd rfl hw0
      · exact absurd rfl hw1
theorem tr_X11_set : ∀ (as : List AV) (h : AH) (K : Int32 → AH → Prop), T_X11_set as h K → ∃ (q : Nat) (r : List AV), as = aR 15 q :: r := by
  intro as h K hk
  match as, hk with
  | [.inr (.inr (.inl q0)), .inl q1, .inl q2], hk =>
    obtain ⟨hb, hk⟩ := tif_inv hk
    simp only [Bool.and_eq_true] at hb
    obtain ⟨e0, e1⟩ := hb
    obtain ⟨a0, b0⟩ := q0
    have f0 : a0 = 15 := Nat.eq_of_beq_eq_true e0
    subst f0
    have f1 : b0 = 0 := Nat.eq_of_beq_eq_true e1
    subst f1
    exact ⟨_, _, rfl⟩
theorem tw_X11_set : ∀ (as : List AV) (h : AH) (K : Int32 → AH → Prop), T_X11_set as h K → (ini as).length ≤ mNL M_X11_set ∧ AW M_X11_set (.inl K) 0 (initL (mNL M_X11_set) as) [] h 0 0 := by
  intro as h K hk
  match as, hk with
  | [.inr (.inr (.inl q0)), .inl q1, .inl q2], hk =>
    obtain ⟨hb, hk⟩ := tif_inv hk
    simp only [Bool.and_eq_true] at hb
    obtain ⟨e0, e1⟩ := hb
    obtain ⟨a0, b0⟩ := q0
    have f0 : a0 = 15 := Nat.eq_of_beq_eq_true e0
    subst f0
    have f1 : b0 = 0 := Nat.eq_of_beq_eq_true e1
    subst f1
    exact ⟨Nat.le_of_ble_eq_true rfl, snd_X11_set q1 q2 hk⟩

def M_lays (V : Vm) (c b s n : Int32) : Int32 × Vm := if cel c ∧ (nI 0 ≤ b ∧ b ≤ nI 9) ∧ (nI 0 ≤ s ∧ s ≤ nI 9) ∧ (nI 0 ≤ n ∧ n ≤ nI 9) then (nI (V 0 (nN c)), uV (uV (uV V 0 (nN c) (nN b)) 1 (nN c) (nN s)) 2 (nN c) (nN n)) else (iI (-1), V)
def S_X11_lays (c b s n : Int32) (h : AH) (K : Int32 → AH → Prop) : Prop := ∃ V, RV (h.1 16 0) V ∧ WF V ∧ ∀ h', only 16 0 h h' → RV (h'.1 16 0) (M_lays V c b s n).2 → K (M_lays V c b s n).1 h'
def T_X11_lays : List AV → AH → (Int32 → AH → Prop) → Prop := fun as h K => match as with
  | [.inr (.inr (.inl q0)), .inl q1, .inl q2, .inl q3, .inl q4] => tif (Nat.beq q0.1 15 && Nat.beq q0.2 0) (S_X11_lays q1 q2 q3 q4 h K)
  | _ => False

def M_X11_lays : MI := (RX11, cX11_lays, 6, [(0, .iload_n 1, []), (1, .invokestatic 120, []), (4, .ifCond .eq 34, [38]), (7, .iload_n 2, []), (8, .iconst 0, []), (9, .bipush 9, []), (11, .invokestatic 53, []), (14, .ifCond .eq 24, [38]), (17, .iload_n 3, []), (18, .iconst 0, []), (19, .bipush 9, []), (21, .invokestatic 53, []), (24, .ifCond .eq 14, [38]), (27, .iload 4, []), (29, .iconst 0, []), (30, .bipush 9, []), (32, .invokestatic 53, []), (35, .ifCond .ne 5, [40]), (38, .iconst (-1), []), (39, .ireturn, []), (40, .aload_n 0, []), (41, .getfield 9, []), (44, .iload_n 1, []), (45, .iconst 0, []), (46, .invokestatic 64, []), (49, .iaload, []), (50, .istore 5, []), (52, .aload_n 0, []), (53, .getfield 9, []), (56, .iload_n 1, []), (57, .iconst 0, []), (58, .invokestatic 64, []), (61, .iload_n 2, []), (62, .iastore, []), (63, .aload_n 0, []), (64, .getfield 9, []), (67, .iload_n 1, []), (68, .iconst 1, []), (69, .invokestatic 64, []), (72, .iload_n 3, []), (73, .iastore, []), (74, .aload_n 0, []), (75, .getfield 9, []), (78, .iload_n 1, []), (79, .iconst 2, []), (80, .invokestatic 64, []), (83, .iload 4, []), (85, .iastore, []), (86, .iload 5, []), (88, .ireturn, [])], [(9, (15, 0, 1, 16, 0))], [], [], [(361, (1, 2, 42, 0, 0, .inl T_X11_isCell)), (160, (3, 1, 22, 0, 0, .inl T_X11_isIn)), (193, (2, 1, 21, 0, 0, .inl T_X11_atCell))], 2, 42, 0, 0)
theorem ok_X11_lays : MOK M_X11_lays := ⟨by decide +kernel, List.forall_mem_cons.mpr ⟨fl_RX11_9, fun _ h => absurd h List.not_mem_nil⟩, fun _ h => absurd h List.not_mem_nil, fun _ h => absurd h List.not_mem_nil, List.forall_mem_cons.mpr ⟨⟨Nat.le_of_ble_eq_true rfl, Nat.le_of_ble_eq_true rfl, cr_RX11_361⟩, List.forall_mem_cons.mpr ⟨⟨Nat.le_of_ble_eq_true rfl, Nat.le_of_ble_eq_true rfl, cr_RX11_160⟩, List.forall_mem_cons.mpr ⟨⟨Nat.le_of_ble_eq_true rfl, Nat.le_of_ble_eq_true rfl, cr_RX11_193⟩, fun _ h => absurd h List.not_mem_nil⟩⟩⟩⟩
set_option maxRecDepth 100000 in
theorem vc_X11_lays {K : Int32 → AH → Prop} {h : AH} (p1 : Int32) (p2 : Int32) (p3 : Int32) (p4 : Int32) (H : S_X11_isCell p1 h (fun x2 h1 => ((x2 = 0) → K (iI (-1)) h1) ∧ (¬ (x2 = 0) → S_X11_isIn p2 (nI 0) (nI 9) h1 (fun x4 h3 => ((x4 = 0) → K (iI (-1)) h3) ∧ (¬ (x4 = 0) → S_X11_isIn p3 (nI 0) (nI 9) h3 (fun x6 h5 => ((x6 = 0) → K (iI (-1)) h5) ∧ (¬ (x6 = 0) → S_X11_isIn p4 (nI 0) (nI 9) h5 (fun x8 h7 => ((¬ x8 = 0) → S_X11_atCell p1 (nI 0) h7 (fun x10 h9 => inR x10 62 ∧ S_X11_atCell p1 (nI 0) h9 (fun x12 h11 => inR x12 62 ∧ S_X11_atCell p1 (nI 1) (wI h11 16 0 x12.toNatClampNeg p2) (fun x14 h13 => inR x14 62 ∧ S_X11_atCell p1 (nI 2) (wI h13 16 0 x14.toNatClampNeg p3) (fun x16 h15 => inR x16 62 ∧ K (h9.1 16 0 x10.toNatClampNeg) (wI h15 16 0 x16.toNatClampNeg p4)))))) ∧ (¬ (¬ x8 = 0) → K (iI (-1)) h7))))))))) : AW M_X11_lays (.inl K) 0 [some (aR 15 0), some (aI p1), some (aI p2), some (aI p3), some (aI p4), none] [] h 0 0 := AW_go (cuts := []) ok_X11_lays 400 H

theorem snd_X11_lays (c b s n : Int32) {h : AH} {K : Int32 → AH → Prop} (k : S_X11_lays c b s n h K) : AW M_X11_lays (.inl K) 0 [some (aR 15 0), some (aI c), some (aI b), some (aI s), some (aI n), none] [] h 0 0 := by
  obtain ⟨V, hr, hw, k⟩ := k
  refine vc_X11_lays c b s n ?_
  obtain ⟨e0, -⟩ := RVs hr
  unfold S_X11_isIn S_X11_isCell
  simp only [if10_eq]
  unfold M_lays at k
  refine ⟨fun q => ?_, fun q => ⟨fun q2 => ?_, fun q2 => ⟨fun q3 => ?_, fun q3 => ⟨fun q4 => ?_, fun q4 => ?_⟩⟩⟩⟩
  · rw [if_neg (fun z => q z.1)] at k; exact k h (only_rfl ..) hr
  · rw [if_neg (fun z => q2 z.2.1)] at k; exact k h (only_rfl ..) hr
  · rw [if_neg (fun z => q3 z.2.2.1)] at k; exact k h (only_rfl ..) hr
  · have q := Decidable.not_not.mp q
    have q2 := Decidable.not_not.mp q2
    have q3 := Decidable.not_not.mp q3
    have q4 := Decidable.not_not.mp q4
    rw [if_pos ⟨q, q2, q3, q4⟩] at k
    obtain ⟨m, hm, rfl⟩ := in8_iff.mp q
    obtain ⟨i, hi, rfl⟩ := (in_n (by omega)).mp q2
    obtain ⟨j, hj, rfl⟩ := (in_n (by omega)).mp q3
    obtain ⟨l, hl, rfl⟩ := (in_n (by omega)).mp q4
    unfold nN at k
    rw [n_cl (show m < 2147483648 by omega), n_cl (show i < 2147483648 by omega), n_cl (show j < 2147483648 by omega), n_cl (show l < 2147483648 by omega)] at k
    simp (disch := omega) only [S_X11_atCell, pk_mul, nI_add, n_inT, n_cl, true_and, e0]
    have f1 : WF (uV V 0 m i) := WF_u hw (by omega) (fun _ => by omega) (by omega) (by omega) (by omega) (by omega) (by omega)
    have f2 : WF (uV (uV V 0 m i) 1 m j) := WF_u f1 (by omega) (fun _ => by omega) (by omega) (by omega) (by omega) (by omega) (by omega)
    exact k _ (only_tr (only_tr (only_wI ..) (only_wI ..)) (only_wI ..)) (RV_set f2 (RV_set f1 (RV_set hw hr (t := 0) (i := m) (by omega) hm) (t := 1) (i := m) (by omega) hm) (t := 2) (i := m) (by omega) hm)
  · rw [if_neg (fun z => q4 (fun y => y z.2.2.2))] at k; exact k h (only_rfl ..) hr
theorem tr_X11_lays : ∀ (as : List AV) (h : AH) (K : Int32 → AH → Prop), T_X11_lays as h K → ∃ (q : Nat) (r : List AV), as = aR 15 q :: r := by
  intro as h K hk
  match as, hk with
  | [.inr (.inr (.inl q0)), .inl q1, .inl q2, .inl q3, .inl q4], hk =>
    obtain ⟨hb, hk⟩ := tif_inv hk
    simp only [Bool.and_eq_true] at hb
    obtain ⟨e0, e1⟩ := hb
    obtain ⟨a0, b0⟩ := q0
    have f0 : a0 = 15 := Nat.eq_of_beq_eq_true e0
    subst f0
    have f1 : b0 = 0 := Nat.eq_of_beq_eq_true e1
    subst f1
    exact ⟨_, _, rfl⟩
theorem tw_X11_lays : ∀ (as : List AV) (h : AH) (K : Int32 → AH → Prop), T_X11_lays as h K → (ini as).length ≤ mNL M_X11_lays ∧ AW M_X11_lays (.inl K) 0 (initL (mNL M_X11_lays) as) [] h 0 0 := by
  intro as h K hk
  match as, hk with
  | [.inr (.inr (.inl q0)), .inl q1, .inl q2, .inl q3, .inl q4], hk =>
    obtain ⟨hb, hk⟩ := tif_inv hk
    simp only [Bool.and_eq_true] at hb
    obtain ⟨e0, e1⟩ := hb
    obtain ⟨a0, b0⟩ := q0
    have f0 : a0 = 15 := Nat.eq_of_beq_eq_true e0
    subst f0
    have f1 : b0 = 0 := Nat.eq_of_beq_eq_true e1
    subst f1
    exact ⟨Nat.le_of_ble_eq_true rfl, snd_X11_lays q1 q2 q3 q4 hk⟩

def sm (f : Nat → Nat) : Nat → Nat
  | 0 => 0
  | k + 1 => sm f k + f k
def R_count (V : Vm) (w : Int32) : Int32 := if nI 0 ≤ w ∧ w ≤ nI 3 then nI (V 10 (nN w)) else if w = nI 4 then nI (sm (V 0) 8) else if w = nI 5 then nI (sm (V 1) 8) else if w = nI 6 then nI (sm (V 3) 4) else if w = nI 7 then nI (sm (V 5) (V 10 0)) else iI (-1)
def S_X11_count (w : Int32) (h : AH) (K : Int32 → AH → Prop) : Prop := ∃ V, RV (h.1 16 0) V ∧ WF V ∧ K (R_count V w) h
def T_X11_count : List AV → AH → (Int32 → AH → Prop) → Prop := fun as h K => match as with
  | [.inr (.inr (.inl q0)), .inl q1] => tif (Nat.beq q0.1 15 && Nat.beq q0.2 0) (S_X11_count q1 h K)
  | _ => False

def M_X11_count : MI := (RX11, cX11_count, 4, [(0, .iload_n 1, []), (1, .iconst 0, []), (2, .iconst 3, []), (3, .invokestatic 53, []), (6, .ifCond .eq 10, [16]), (9, .aload_n 0, []), (10, .getfield 9, []), (13, .iload_n 1, []), (14, .iaload, []), (15, .ireturn, []), (16, .iload_n 1, []), (17, .iconst 4, []), (18, .bipush 7, []), (20, .invokestatic 53, []), (23, .ifCond .ne 5, [28]), (26, .iconst (-1), []), (27, .ireturn, []), (28, .iconst 0, []), (29, .istore_n 2, []), (30, .iconst 0, []), (31, .istore_n 3, []), (32, .iload_n 3, []), (33, .bipush 8, []), (35, .if_icmp .ge 30, [65]), (38, .iload_n 1, []), (39, .bipush 6, []), (41, .if_icmp .ge 24, [65]), (44, .iload_n 2, []), (45, .aload_n 0, []), (46, .getfield 9, []), (49, .iload_n 3, []), (50, .iload_n 1, []), (51, .iconst 4, []), (52, .isub, []), (53, .invokestatic 64, []), (56, .iaload, []), (57, .iadd, []), (58, .istore_n 2, []), (59, .iinc 3 1, []), (62, .goto (-30), [32]), (65, .iconst 0, []), (66, .istore_n 3, []), (67, .iload_n 3, []), (68, .iconst 4, []), (69, .if_icmp .ge 27, [96]), (72, .iload_n 1, []), (73, .bipush 6, []), (75, .if_icmp .ne 21, [96]), (78, .iload_n 2, []), (79, .aload_n 0, []), (80, .getfield 9, []), (83, .bipush 44, []), (85, .iload_n 3, []), (86, .iadd, []), (87, .iaload, []), (88, .iadd, []), (89, .istore_n 2, []), (90, .iinc 3 1, []), (93, .goto (-26), [67]), (96, .iconst 0, []), (97, .istore_n 3, []), (98, .iload_n 3, []), (99, .aload_n 0, []), (100, .getfield 9, []), (103, .iconst 0, []), (104, .iaload, []), (105, .if_icmp .ge 28, [133]), (108, .iload_n 1, []), (109, .bipush 7, []), (111, .if_icmp .ne 22, [133]), (114, .iload_n 2, []), (115, .aload_n 0, []), (116, .getfield 9, []), (119, .iload_n 3, []), (120, .iconst 1, []), (121, .invokestatic 75, []), (124, .iaload, []), (125, .iadd, []), (126, .istore_n 2, []), (127, .iinc 3 1, []), (130, .goto (-32), [98]), (133, .iload_n 2, []), (134, .ireturn, [])], [(9, (15, 0, 1, 16, 0))], [], [], [(160, (3, 1, 22, 0, 0, .inl T_X11_isIn)), (193, (2, 1, 21, 0, 0, .inl T_X11_atCell)), (226, (2, 1, 21, 0, 0, .inl T_X11_atEagle))], 1, 22, 0, 0)
theorem ok_X11_count : MOK M_X11_count := ⟨by decide +kernel, List.forall_mem_cons.mpr ⟨fl_RX11_9, fun _ h => absurd h List.not_mem_nil⟩, fun _ h => absurd h List.not_mem_nil, fun _ h => absurd h List.not_mem_nil, List.forall_mem_cons.mpr ⟨⟨Nat.le_of_ble_eq_true rfl, Nat.le_of_ble_eq_true rfl, cr_RX11_160⟩, List.forall_mem_cons.mpr ⟨⟨Nat.le_of_ble_eq_true rfl, Nat.le_of_ble_eq_true rfl, cr_RX11_193⟩, List.forall_mem_cons.mpr ⟨⟨Nat.le_of_ble_eq_true rfl, Nat.le_of_ble_eq_true rfl, cr_RX11_226⟩, fun _ h => absurd h List.not_mem_nil⟩⟩⟩⟩
set_option maxRecDepth 100000 in
theorem vc_X11_count {K : Int32 → AH → Prop} {h : AH} (p1 : Int32) (H : S_X11_isIn p1 (nI 0) (nI 3) h (fun x2 h1 => ((x2 = 0) → S_X11_isIn p1 (nI 4) (nI 7) h1 (fun x4 h3 => ((¬ x4 = 0) → AW M_X11_count (.inl K) 32 [some (aR 15 0), some (aI p1), some (aI (nI 0)), some (aI (nI 0))] [] h3 0 0) ∧ (¬ (¬ x4 = 0) → K (iI (-1)) h3))) ∧ (¬ (x2 = 0) → inR p1 62 ∧ K (h1.1 16 0 p1.toNatClampNeg) h1))) : AW M_X11_count (.inl K) 0 [some (aR 15 0), some (aI p1), none, none] [] h 0 0 := AW_go (cuts := [(32, [true, true, true, true]), (67, [true, true, true, true]), (98, [true, true, true, true])]) ok_X11_count 400 H
set_option maxRecDepth 100000 in
theorem vc_X11_count_32 {K : Int32 → AH → Prop} {h : AH}  (l1 : Int32) (l2 : Int32) (l3 : Int32) (H : (((nI 8) ≤ l3) → AW M_X11_count (.inl K) 67 [some (aR 15 0), some (aI l1), some (aI l2), some (aI (nI 0))] [] h 0 0) ∧ (¬ ((nI 8) ≤ l3) → (((nI 6) ≤ l1) → AW M_X11_count (.inl K) 67 [some (aR 15 0), some (aI l1), some (aI l2), some (aI (nI 0))] [] h 0 0) ∧ (¬ ((nI 6) ≤ l1) → S_X11_atCell l3 (l1 - (nI 4)) h (fun x2 h1 => inR x2 62 ∧ AW M_X11_count (.inl K) 32 [some (aR 15 0), some (aI l1), some (aI (l2 + (h1.1 16 0 x2.toNatClampNeg))), some (aI (l3 + (nI 1)))] [] h1 0 0)))) : AW M_X11_count (.inl K) 32 [some (aR 15 0), some (aI l1), some (aI l2), some (aI l3)] [] h 0 0 := AW_go (cuts := [(32, [true, true, true, true]), (67, [true, true, true, true]), (98, [true, true, true, true])]) ok_X11_count 400 H
set_option maxRecDepth 100000 in
theorem vc_X11_count_67 {K : Int32 → AH → Prop} {h : AH}  (l1 : Int32) (l2 : Int32) (l3 : Int32) (H : (((nI 4) ≤ l3) → AW M_X11_count (.inl K) 98 [some (aR 15 0), some (aI l1), some (aI l2), some (aI (nI 0))] [] h 0 0) ∧ (¬ ((nI 4) ≤ l3) → ((¬ l1 = (nI 6)) → AW M_X11_count (.inl K) 98 [some (aR 15 0), some (aI l1), some (aI l2), some (aI (nI 0))] [] h 0 0) ∧ (¬ (¬ l1 = (nI 6)) → inR ((nI 44) + l3) 62 ∧ AW M_X11_count (.inl K) 67 [some (aR 15 0), some (aI l1), some (aI (l2 + (h.1 16 0 ((nI 44) + l3).toNatClampNeg))), some (aI (l3 + (nI 1)))] [] h 0 0))) : AW M_X11_count (.inl K) 67 [some (aR 15 0), some (aI l1), some (aI l2), some (aI l3)] [] h 0 0 := AW_go (cuts := [(32, [true, true, true, true]), (67, [true, true, true, true]), (98, [true, true, true, true])]) ok_X11_count 400 H
set_option maxRecDepth 100000 in
theorem vc_X11_count_98 {K : Int32 → AH → Prop} {h : AH}  (l1 : Int32) (l2 : Int32) (l3 : Int32) (H : inR (nI 0) 62 ∧ (((h.1 16 0 (nI 0).toNatClampNeg) ≤ l3) → K l2 h) ∧ (¬ ((h.1 16 0 (nI 0).toNatClampNeg) ≤ l3) → ((¬ l1 = (nI 7)) → K l2 h) ∧ (¬ (¬ l1 = (nI 7)) → S_X11_atEagle l3 (nI 1) h (fun x2 h1 => inR x2 62 ∧ AW M_X11_count (.inl K) 98 [some (aR 15 0), some (aI l1), some (aI (l2 + (h1.1 16 0 x2.toNatClampNeg))), some (aI (l3 + (nI 1)))] [] h1 0 0)))) : AW M_X11_count (.inl K) 98 [some (aR 15 0), some (aI l1), some (aI l2), some (aI l3)] [] h 0 0 := AW_go (cuts := [(32, [true, true, true, true]), (67, [true, true, true, true]), (98, [true, true, true, true])]) ok_X11_count 400 H

theorem in47 {x : Int32} : (nI 4 ≤ x ∧ x ≤ nI 7) ↔ x = nI 4 ∨ x = nI 5 ∨ x = nI 6 ∨ x = nI 7 := by
  constructor
  · rintro ⟨h1, h2⟩
    have h0 : nI 0 ≤ x := Int32.le_iff_toInt_le.mpr (by have := Int32.le_iff_toInt_le.mp h1; rw [n_toInt (by omega)] at this ⊢; omega)
    obtain ⟨k, hk, rfl⟩ := n_of (by omega) h0 h2
    have := (n_le (by omega) (by omega)).mp h1
    rcases (show k = 4 ∨ k = 5 ∨ k = 6 ∨ k = 7 by omega) with rfl | rfl | rfl | rfl
    · exact Or.inl rfl
    · exact Or.inr (Or.inl rfl)
    · exact Or.inr (Or.inr (Or.inl rfl))
    · exact Or.inr (Or.inr (Or.inr rfl))
  · rintro (rfl | rfl | rfl | rfl) <;> decide
theorem lp_X11_count3 {V : Vm} {w : Nat} {v : Int32} {h : AH} {K : Int32 → AH → Prop} (hr : RV (h.1 16 0) V) (hw : WF V) (hq : w = 4 ∨ w = 5 ∨ w = 6) (k : K v h) : AW M_X11_count (.inl K) 98 [some (aR 15 0), some (aI (nI w)), some (aI v), some (aI (nI 0))] [] h 0 0 := by
  have h4 := hw.1
  refine vc_X11_count_98 (nI w) v (nI 0) ?_
  obtain ⟨-, -, -, -, -, -, -, -, -, -, e0, -⟩ := RVs hr
  simp (disch := omega) only [n_inT, n_cl, true_and, e0, n_le, n_eq]
  exact ⟨fun _ => k, fun _ => ⟨fun _ => k, fun q => absurd (by omega) q⟩⟩
theorem snd_X11_count (w : Int32) {h : AH} {K : Int32 → AH → Prop} (k : S_X11_count w h K) : AW M_X11_count (.inl K) 0 [some (aR 15 0), some (aI w), none, none] [] h 0 0 := by
  obtain ⟨V, hr, hw, k⟩ := k
  have h4 := hw.1
  refine vc_X11_count w ?_
  unfold S_X11_isIn
  simp only [if10_eq]
  unfold R_count at k
  obtain ⟨e0, e1, -, e3, -, e5, -, -, -, -, en, -⟩ := RVs hr
  refine ⟨fun q => ⟨fun q2 => ?_, fun q2 => ?_⟩, fun q => ?_⟩
  · rw [if_neg q] at k
    have pass2 : ∀ (v : Int32) (i : Nat), (i = 4 ∨ i = 5 ∨ i = 7) → AW M_X11_count (.inl K) 98 [some (aR 15 0), some (aI (nI i)), some (aI v), some (aI (nI 0))] [] h 0 0 → AW M_X11_count (.inl K) 67 [some (aR 15 0), some (aI (nI i)), some (aI v), some (aI (nI 0))] [] h 0 0 := by
      intro v i hi ka
      refine vc_X11_count_67 (nI i) v (nI 0) ?_
      simp (disch := omega) only [n_le, n_eq]
      exact ⟨fun _ => ka, fun _ => ⟨fun _ => ka, fun z => absurd (by omega) z⟩⟩
    have loop1 : ∀ (i : Nat), (i = 4 ∨ i = 5) → K (nI (sm (V (i - 4)) 8)) h → ∀ r c, c + r = 8 → AW M_X11_count (.inl K) 32 [some (aR 15 0), some (aI (nI i)), some (aI (nI (sm (V (i - 4)) c))), some (aI (nI c))] [] h 0 0 := by
      intro i hi ka r
      induction r with
      | zero =>
        intro c hc
        refine vc_X11_count_32 (nI i) _ (nI c) ?_
        have : c = 8 := by omega
        subst this
        have fin := pass2 (nI (sm (V (i - 4)) 8)) i (by omega) (lp_X11_count3 hr hw (by omega) ka)
        simp (disch := omega) only [n_le]
        exact ⟨fun _ => fin, fun z => absurd (by omega) z⟩
      | succ r ih =>
        intro c hc
        refine vc_X11_count_32 (nI i) _ (nI c) ?_
        have := ih (c + 1) (by omega)
        rw [sm] at this
        simp (disch := omega) only [n_le, n_sub, S_X11_atCell, pk_mul, nI_add, n_inT, n_cl, true_and]
        refine ⟨fun z => by omega, fun _ => ⟨fun z => by omega, fun _ => ?_⟩⟩
        have er : h.1 16 0 (4 + 3 * c + (i - 4)) = nI (V (i - 4) c) := by
          rcases hi with rfl | rfl
          · exact e0 c (by omega)
          · exact e1 c (by omega)
        rw [er, nI_add]
        exact this
    have skip1 : ∀ (v : Int32) (i : Nat), (i = 6 ∨ i = 7) → AW M_X11_count (.inl K) 67 [some (aR 15 0), some (aI (nI i)), some (aI v), some (aI (nI 0))] [] h 0 0 → AW M_X11_count (.inl K) 32 [some (aR 15 0), some (aI (nI i)), some (aI v), some (aI (nI 0))] [] h 0 0 := by
      intro v i hi ka
      refine vc_X11_count_32 (nI i) v (nI 0) ?_
      simp (disch := omega) only [n_le]
      exact ⟨fun _ => ka, fun _ => ⟨fun _ => ka, fun z => absurd (by omega) z⟩⟩
    rcases in47.mp (Decidable.not_not.mp q2) with rfl | rfl | rfl | rfl
    · rw [if_pos rfl] at k
      exact loop1 4 (by omega) k 8 0 (by omega)
    · rw [if_neg (by decide), if_pos rfl] at k
      exact loop1 5 (by omega) k 8 0 (by omega)
    · rw [if_neg (by decide), if_neg (by decide), if_pos rfl] at k
      refine skip1 _ 6 (by omega) ?_
      have loop2 : ∀ r c, c + r = 4 → AW M_X11_count (.inl K) 67 [some (aR 15 0), some (aI (nI 6)), some (aI (nI (sm (V 3) c))), some (aI (nI c))] [] h 0 0 := by
        intro r
        induction r with
        | zero =>
          intro c hc
          refine vc_X11_count_67 (nI 6) _ (nI c) ?_
          have : c = 4 := by omega
          subst this
          have fin := lp_X11_count3 (w := 6) hr hw (by omega) k
          simp (disch := omega) only [n_le]
          exact ⟨fun _ => fin, fun z => absurd (by omega) z⟩
        | succ r ih =>
          intro c hc
          refine vc_X11_count_67 (nI 6) _ (nI c) ?_
          have := ih (c + 1) (by omega)
          rw [sm] at this
          simp (disch := omega) only [n_le, nI_add, n_inT, n_cl, true_and, e3]
          exact ⟨fun z => by omega, fun _ => ⟨fun z => absurd trivial z, fun _ => this⟩⟩
      exact loop2 4 0 (by omega)
    · rw [if_neg (by decide), if_neg (by decide), if_neg (by decide), if_pos rfl] at k
      refine skip1 _ 7 (by omega) (pass2 _ 7 (by omega) ?_)
      have loop3 : ∀ r c, c + r = V 10 0 → AW M_X11_count (.inl K) 98 [some (aR 15 0), some (aI (nI 7)), some (aI (nI (sm (V 5) c))), some (aI (nI c))] [] h 0 0 := by
        intro r
        induction r with
        | zero =>
          intro c hc
          refine vc_X11_count_98 (nI 7) _ (nI c) ?_
          have : c = V 10 0 := by omega
          subst this
          simp (disch := omega) only [n_inT, n_cl, true_and, en, n_le]
          exact ⟨fun _ => k, fun z => absurd (by omega) z⟩
        | succ r ih =>
          intro c hc
          refine vc_X11_count_98 (nI 7) _ (nI c) ?_
          have := ih (c + 1) (by omega)
          rw [sm] at this
          simp (disch := omega) only [n_inT, n_cl, true_and, en, n_le, S_X11_atEagle, pk_mul, nI_add, e5]
          exact ⟨fun z => by omega, fun _ => ⟨fun z => absurd trivial z, fun _ => this⟩⟩
      exact loop3 (V 10 0) 0 (by omega)
  · rw [if_neg q] at k
    have hn := fun z => q2 (fun y => y (in47.mpr z))
    rw [if_neg (fun z => hn (Or.inl z)), if_neg (fun z => hn (Or.inr (Or.inl z))), if_neg (fun z => hn (Or.inr (Or.inr (Or.inl z)))), if_neg (fun z => hn (Or.inr (Or.inr (Or.inr z))))] at k
    exact k
  · have q := Decidable.not_not.mp q
    rw [if_pos q] at k
    obtain ⟨i, hi, rfl⟩ := (in_n (by omega)).mp q
    unfold nN at k
    rw [n_cl (by omega)] at k
    simp (disch := omega) only [n_inT, n_cl, true_and]
    have := hr 10 i (show i < 4 by omega)
    rw [show ro 10 i = i from rfl] at this
    rw [this]
    exact k
theorem tr_X11_count : ∀ (as : List AV) (h : AH) (K : Int32 → AH → Prop), T_X11_count as h K → ∃ (q : Nat) (r : List AV), as = aR 15 q :: r := by
  intro as h K hk
  match as, hk with
  | [.inr (.inr (.inl q0)), .inl q1], hk =>
    obtain ⟨hb, hk⟩ := tif_inv hk
    simp only [Bool.and_eq_true] at hb
    obtain ⟨e0, e1⟩ := hb
    obtain ⟨a0, b0⟩ := q0
    have f0 : a0 = 15 := Nat.eq_of_beq_eq_true e0
    subst f0
    have f1 : b0 = 0 := Nat.eq_of_beq_eq_true e1
    subst f1
    exact ⟨_, _, rfl⟩
theorem tw_X11_count : ∀ (as : List AV) (h : AH) (K : Int32 → AH → Prop), T_X11_count as h K → (ini as).length ≤ mNL M_X11_count ∧ AW M_X11_count (.inl K) 0 (initL (mNL M_X11_count) as) [] h 0 0 := by
  intro as h K hk
  match as, hk with
  | [.inr (.inr (.inl q0)), .inl q1], hk =>
    obtain ⟨hb, hk⟩ := tif_inv hk
    simp only [Bool.and_eq_true] at hb
    obtain ⟨e0, e1⟩ := hb
    obtain ⟨a0, b0⟩ := q0
    have f0 : a0 = 15 := Nat.eq_of_beq_eq_true e0
    subst f0
    have f1 : b0 = 0 := Nat.eq_of_beq_eq_true e1
    subst f1
    exact ⟨Nat.le_of_ble_eq_true rfl, snd_X11_count q1 hk⟩

def onlyIm (h h' : AH) : Prop := h'.2 = h.2 ∧ ∀ a b i, ¬ (a = 16 ∧ b = 3) → ¬ (a = 15 ∧ i = 5) → h'.1 a b i = h.1 a b i
def S_X11_image (h : AH) (K : Int32 → AH → Prop) : Prop := ∃ V, RV (h.1 16 0) V ∧ WF V ∧ ∀ h', onlyIm h h' → RV (h'.1 16 3) V → h'.1 15 0 5 = nI 1 → K (nI (V 10 2)) h'
def T_X11_image : List AV → AH → (Int32 → AH → Prop) → Prop := fun as h K => match as with
  | [.inr (.inr (.inl q0))] => tif (Nat.beq q0.1 15 && Nat.beq q0.2 0) (S_X11_image h K)
  | _ => False

def M_X11_image : MI := (RX11, cX11_image, 1, [(0, .aload_n 0, []), (1, .getfield 9, []), (4, .aload_n 0, []), (5, .getfield 19, []), (8, .invokestatic 148, []), (11, .aload_n 0, []), (12, .iconst 1, []), (13, .putfield 241, []), (16, .aload_n 0, []), (17, .getfield 9, []), (20, .iconst 2, []), (21, .iaload, []), (22, .ireturn, [])], [(9, (15, 0, 1, 16, 0)), (19, (15, 3, 1, 16, 3)), (241, (15, 5, 3, 0, 0))], [], [], [(445, (2, 1, 22, 0, 0, .inr (.inl T_X11_copies)))], 1, 22, 0, 0)
theorem ok_X11_image : MOK M_X11_image := ⟨by decide +kernel, List.forall_mem_cons.mpr ⟨fl_RX11_9, List.forall_mem_cons.mpr ⟨fl_RX11_19, List.forall_mem_cons.mpr ⟨fl_RX11_241, fun _ h => absurd h List.not_mem_nil⟩⟩⟩, fun _ h => absurd h List.not_mem_nil, fun _ h => absurd h List.not_mem_nil, List.forall_mem_cons.mpr ⟨⟨Nat.le_of_ble_eq_true rfl, Nat.le_of_ble_eq_true rfl, cr_RX11_445⟩, fun _ h => absurd h List.not_mem_nil⟩⟩
set_option maxRecDepth 100000 in
theorem vc_X11_image {K : Int32 → AH → Prop} {h : AH}  (H : S_X11_copies 0 3 h (fun h1 => ((nI 1) = 0 ∨ (nI 1) = 1) ∧ inR (nI 2) 62 ∧ K ((wI h1 15 0 5 (nI 1)).1 16 0 (nI 2).toNatClampNeg) (wI h1 15 0 5 (nI 1)))) : AW M_X11_image (.inl K) 0 [some (aR 15 0)] [] h 0 0 := AW_go (cuts := []) ok_X11_image 400 H

theorem snd_X11_image {h : AH} {K : Int32 → AH → Prop} (k : S_X11_image h K) : AW M_X11_image (.inl K) 0 [some (aR 15 0)] [] h 0 0 := by
  obtain ⟨V, hr, hw, k⟩ := k
  refine vc_X11_image ⟨by decide, fun h1 o1 c1 => ⟨by decide, ?_⟩⟩
  have e2 : h1.1 16 0 2 = nI (V 10 2) := by
    rw [o1.2 16 0 (by omega)]
    exact (RVs hr).2.2.2.2.2.2.2.2.2.2.2.2.1
  simp (disch := omega) only [n_inT, n_cl, true_and]
  rw [uI_nt (by omega), e2]
  refine k _ ⟨o1.1, fun a b i q1 q2 => ?_⟩ ?_ (wI_at ..)
  · show uI h1.1 15 0 5 (nI 1) a b i = _
    unfold uI
    rw [if_neg (fun z => q2 ⟨z.1, z.2.2⟩), o1.2 a b q1]
  · have : (wI h1 15 0 5 (nI 1)).1 16 3 = h1.1 16 3 := funext fun i => wI_nt (h := h1) (t := 15) (p := 0) (i := 5) (x := nI 1) (a := 16) (b := 3) (j := i) (by omega)
    rw [this]
    exact RV_cp hw hr c1
theorem tr_X11_image : ∀ (as : List AV) (h : AH) (K : Int32 → AH → Prop), T_X11_image as h K → ∃ (q : Nat) (r : List AV), as = aR 15 q :: r := by
  intro as h K hk
  match as, hk with
  | [.inr (.inr (.inl q0))], hk =>
    obtain ⟨hb, hk⟩ := tif_inv hk
    simp only [Bool.and_eq_true] at hb
    obtain ⟨e0, e1⟩ := hb
    obtain ⟨a0, b0⟩ := q0
    have f0 : a0 = 15 := Nat.eq_of_beq_eq_true e0
    subst f0
    have f1 : b0 = 0 := Nat.eq_of_beq_eq_true e1
    subst f1
    exact ⟨_, _, rfl⟩
theorem tw_X11_image : ∀ (as : List AV) (h : AH) (K : Int32 → AH → Prop), T_X11_image as h K → (ini as).length ≤ mNL M_X11_image ∧ AW M_X11_image (.inl K) 0 (initL (mNL M_X11_image) as) [] h 0 0 := by
  intro as h K hk
  match as, hk with
  | [.inr (.inr (.inl q0))], hk =>
    obtain ⟨hb, hk⟩ := tif_inv hk
    simp only [Bool.and_eq_true] at hb
    obtain ⟨e0, e1⟩ := hb
    obtain ⟨a0, b0⟩ := q0
    have f0 : a0 = 15 := Nat.eq_of_beq_eq_true e0
    subst f0
    have f1 : b0 = 0 := Nat.eq_of_beq_eq_true e1
    subst f1
    exact ⟨Nat.le_of_ble_eq_true rfl, snd_X11_image  hk⟩

def S_X11_restore (h : AH) (K : Int32 → AH → Prop) : Prop := (h.1 15 0 5 = 0 → K (iI (-3)) h) ∧ (¬ h.1 15 0 5 = 0 → ∃ V, RV (h.1 16 3) V ∧ WF V ∧ ∀ h', only 16 0 h h' → RV (h'.1 16 0) V → K (nI (V 10 2)) h')
def T_X11_restore : List AV → AH → (Int32 → AH → Prop) → Prop := fun as h K => match as with
  | [.inr (.inr (.inl q0))] => tif (Nat.beq q0.1 15 && Nat.beq q0.2 0) (S_X11_restore h K)
  | _ => False

def M_X11_restore : MI := (RX11, cX11_restore, 1, [(0, .aload_n 0, []), (1, .getfield 241, []), (4, .ifCond .ne 6, [10]), (7, .bipush (-3), []), (9, .ireturn, []), (10, .aload_n 0, []), (11, .getfield 19, []), (14, .aload_n 0, []), (15, .getfield 9, []), (18, .invokestatic 148, []), (21, .aload_n 0, []), (22, .getfield 9, []), (25, .iconst 2, []), (26, .iaload, []), (27, .ireturn, [])], [(241, (15, 5, 3, 0, 0)), (19, (15, 3, 1, 16, 3)), (9, (15, 0, 1, 16, 0))], [], [], [(445, (2, 1, 22, 0, 0, .inr (.inl T_X11_copies)))], 1, 22, 0, 0)
theorem ok_X11_restore : MOK M_X11_restore := ⟨by decide +kernel, List.forall_mem_cons.mpr ⟨fl_RX11_241, List.forall_mem_cons.mpr ⟨fl_RX11_19, List.forall_mem_cons.mpr ⟨fl_RX11_9, fun _ h => absurd h List.not_mem_nil⟩⟩⟩, fun _ h => absurd h List.not_mem_nil, fun _ h => absurd h List.not_mem_nil, List.forall_mem_cons.mpr ⟨⟨Nat.le_of_ble_eq_true rfl, Nat.le_of_ble_eq_true rfl, cr_RX11_445⟩, fun _ h => absurd h List.not_mem_nil⟩⟩
set_option maxRecDepth 100000 in
theorem vc_X11_restore {K : Int32 → AH → Prop} {h : AH}  (H : ((¬ (h.1 15 0 5) = 0) → S_X11_copies 3 0 h (fun h1 => inR (nI 2) 62 ∧ K (h1.1 16 0 (nI 2).toNatClampNeg) h1)) ∧ (¬ (¬ (h.1 15 0 5) = 0) → K (iI (-3)) h)) : AW M_X11_restore (.inl K) 0 [some (aR 15 0)] [] h 0 0 := AW_go (cuts := []) ok_X11_restore 400 H

theorem snd_X11_restore {h : AH} {K : Int32 → AH → Prop} (k : S_X11_restore h K) : AW M_X11_restore (.inl K) 0 [some (aR 15 0)] [] h 0 0 := by
  obtain ⟨k1, k2⟩ := k
  refine vc_X11_restore ⟨fun q => ⟨by decide, fun h1 o1 c1 => ?_⟩, fun q => k1 (Decidable.not_not.mp q)⟩
  obtain ⟨V, hr, hw, k⟩ := k2 q
  have hr1 := RV_cp hw hr c1
  have e2 := (RVs hr1).2.2.2.2.2.2.2.2.2.2.2.2.1
  simp (disch := omega) only [n_inT, n_cl, true_and, e2]
  exact k h1 o1 hr1
theorem tr_X11_restore : ∀ (as : List AV) (h : AH) (K : Int32 → AH → Prop), T_X11_restore as h K → ∃ (q : Nat) (r : List AV), as = aR 15 q :: r := by
  intro as h K hk
  match as, hk with
  | [.inr (.inr (.inl q0))], hk =>
    obtain ⟨hb, hk⟩ := tif_inv hk
    simp only [Bool.and_eq_true] at hb
    obtain ⟨e0, e1⟩ := hb
    obtain ⟨a0, b0⟩ := q0
    have f0 : a0 = 15 := Nat.eq_of_beq_eq_true e0
    subst f0
    have f1 : b0 = 0 := Nat.eq_of_beq_eq_true e1
    subst f1
    exact ⟨_, _, rfl⟩
theorem tw_X11_restore : ∀ (as : List AV) (h : AH) (K : Int32 → AH → Prop), T_X11_restore as h K → (ini as).length ≤ mNL M_X11_restore ∧ AW M_X11_restore (.inl K) 0 (initL (mNL M_X11_restore) as) [] h 0 0 := by
  intro as h K hk
  match as, hk with
  | [.inr (.inr (.inl q0))], hk =>
    obtain ⟨hb, hk⟩ := tif_inv hk
    simp only [Bool.and_eq_true] at hb
    obtain ⟨e0, e1⟩ := hb
    obtain ⟨a0, b0⟩ := q0
    have f0 : a0 = 15 := Nat.eq_of_beq_eq_true e0
    subst f0
    have f1 : b0 = 0 := Nat.eq_of_beq_eq_true e1
    subst f1
    exact ⟨Nat.le_of_ble_eq_true rfl, snd_X11_restore  hk⟩


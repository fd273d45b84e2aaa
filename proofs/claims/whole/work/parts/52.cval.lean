/-! ===== the component: statements followed, a valley told; rows copied, sheep kept ===== -/
abbrev sNum (S : Sm) (d p j : Nat) : Nat := (rdS (hb (S.2 d) (S.1 4 d)) p).2.2.getD j 0
theorem st_1 {S : Sm} {d p g : Nat} {gs : List Nat} {c : Int32} (hc : hb (S.2 d) (S.1 4 d) p = c) (hg : grp c = g :: gs) (ok : (rdS (hb (S.2 d) (S.1 4 d)) p).1 = true) : rdS (hb (S.2 d) (S.1 4 d)) p = rdG (hb (S.2 d) (S.1 4 d)) (g :: gs) (p + 1) ∧ (rdG (hb (S.2 d) (S.1 4 d)) (g :: gs) (p + 1)).1 = true := by
  have e : rdS (hb (S.2 d) (S.1 4 d)) p = rdG (hb (S.2 d) (S.1 4 d)) (g :: gs) (p + 1) := by
    unfold rdS
    rw [hc, hg]
    exact if_neg (fun z => by cases z)
  rw [e] at ok
  exact ⟨e, ok⟩
def S_X10_followCell (d : Nat) (x : Int32) (h : AH) (K : Int32 → AH → Prop) : Prop := ∃ S V p, folP h S d V ∧ x = nI p ∧ p < S.1 4 d ∧ hb (S.2 d) (S.1 4 d) p = nI 99 ∧ (rdS (hb (S.2 d) (S.1 4 d)) p).1 = true ∧ (sNum S d p 0 < 8 → ∀ h', onlyV 1 h h' → CV h' 1 (uV (uV (uV V 0 (sNum S d p 0) (sNum S d p 1)) 1 (sNum S d p 0) (sNum S d p 2)) 2 (sNum S d p 0) (sNum S d p 3)) → K (nI 1) h') ∧ (¬ sNum S d p 0 < 8 → K (nI 0) h)
def T_X10_followCell : List AV → AH → (Int32 → AH → Prop) → Prop := fun as h K => match as with
  | [.inr (.inr (.inl q0)), .inr (.inr (.inl q1)), .inl q2] => tif (Nat.beq q0.1 0 && Nat.beq q0.2 0 && Nat.beq q1.1 12) (S_X10_followCell q1.2 q2 h K)
  | _ => False

def M_X10_followCell : MI := (RX10, cX10_followCell, 4, [(0, .aload_n 1, []), (1, .iload_n 2, []), (2, .iconst 1, []), (3, .iadd, []), (4, .iconst 1, []), (5, .invokevirtual 319, []), (8, .istore_n 3, []), (9, .iload_n 3, []), (10, .iconst 0, []), (11, .bipush 7, []), (13, .invokestatic 59, []), (16, .ifCond .ne 5, [21]), (19, .iconst 0, []), (20, .ireturn, []), (21, .aload_n 0, []), (22, .getfield 16, []), (25, .iload_n 3, []), (26, .aload_n 1, []), (27, .iload_n 2, []), (28, .iconst 2, []), (29, .iadd, []), (30, .iconst 1, []), (31, .invokevirtual 319, []), (34, .aload_n 1, []), (35, .iload_n 2, []), (36, .iconst 3, []), (37, .iadd, []), (38, .iconst 1, []), (39, .invokevirtual 319, []), (42, .aload_n 1, []), (43, .iload_n 2, []), (44, .iconst 4, []), (45, .iadd, []), (46, .iconst 1, []), (47, .invokevirtual 319, []), (50, .invokevirtual 128, []), (53, .iconst 1, []), (54, .ireturn, [])], [(16, (0, 1, 1, 1, 1))], [], [], [(957, (3, 2, 46, 0, 0, .inl T_X5_number)), (178, (3, 1, 22, 0, 0, .inl T_X10_within)), (384, (5, 1, 24, 0, 0, .inr (.inl T_X9_fillCell)))], 2, 46, 0, 0)
theorem ok_X10_followCell : MOK M_X10_followCell := ⟨by decide +kernel, List.forall_mem_cons.mpr ⟨fl_RX10_16, fun _ h => absurd h List.not_mem_nil⟩, fun _ h => absurd h List.not_mem_nil, fun _ h => absurd h List.not_mem_nil, List.forall_mem_cons.mpr ⟨⟨Nat.le_of_ble_eq_true rfl, Nat.le_of_ble_eq_true rfl, cr_RX10_957⟩, List.forall_mem_cons.mpr ⟨⟨Nat.le_of_ble_eq_true rfl, Nat.le_of_ble_eq_true rfl, cr_RX10_178⟩, List.forall_mem_cons.mpr ⟨⟨Nat.le_of_ble_eq_true rfl, Nat.le_of_ble_eq_true rfl, cr_RX10_384⟩, fun _ h => absurd h List.not_mem_nil⟩⟩⟩⟩
set_option maxRecDepth 100000 in
theorem vc_X10_followCell {K : Int32 → AH → Prop} {h : AH} (p1 : Nat) (p2 : Int32) (H : S_X5_number p1 (p2 + (nI 1)) (nI 1) h (fun x2 h1 => S_X10_within x2 (nI 0) (nI 7) h1 (fun x4 h3 => ((¬ x4 = 0) → S_X5_number p1 (p2 + (nI 2)) (nI 1) h3 (fun x6 h5 => S_X5_number p1 (p2 + (nI 3)) (nI 1) h5 (fun x8 h7 => S_X5_number p1 (p2 + (nI 4)) (nI 1) h7 (fun x10 h9 => S_X9_fillCell 1 x2 x6 x8 x10 h9 (fun h11 => (((nI 1) = 0 ∨ (nI 1) = 1) ∧ K (nI 1) h11)))))) ∧ (¬ (¬ x4 = 0) → (((nI 0) = 0 ∨ (nI 0) = 1) ∧ K (nI 0) h3))))) : AW M_X10_followCell (.inl (fun x u => (x = 0 ∨ x = 1) ∧ K x u)) 0 [some (aR 0 0), some (aR 12 p1), some (aI p2), none] [] h 0 0 := AW_go (cuts := []) ok_X10_followCell 400 H

theorem snd_X10_followCell (d : Nat) (x : Int32) {h : AH} {K : Int32 → AH → Prop} (k : S_X10_followCell d x h K) : AW M_X10_followCell (.inl (fun x u => (x = 0 ∨ x = 1) ∧ K x u)) 0 [some (aR 0 0), some (aR 12 d), some (aI x), none] [] h 0 0 := by
  obtain ⟨S, V, p, ⟨p0, cv, hw⟩, rfl, hp, hc, ok, k1, k2⟩ := k
  have l2 := (rowPs p0.1).2.2.2.2.2.2
  obtain ⟨e, ok2⟩ := st_1 hc (show grp (nI 99) = 1 :: [1, 1, 1] by decide) ok
  obtain ⟨a1, o1, f1⟩ := rdG_c ok2
  obtain ⟨a2, o2, f2⟩ := rdG_c o1
  obtain ⟨a3, o3, f3⟩ := rdG_c o2
  obtain ⟨a4, o4, f4⟩ := rdG_c o3
  have v0 : sNum S d p 0 = (rd (hb (S.2 d) (S.1 4 d)) 1 (p + 1) 0).2.2 := by unfold sNum; rw [e, f1]; rfl
  have v1 : sNum S d p 1 = (rd (hb (S.2 d) (S.1 4 d)) 1 (p + 2) 0).2.2 := by unfold sNum; rw [e, f1, f2]; rfl
  have v2 : sNum S d p 2 = (rd (hb (S.2 d) (S.1 4 d)) 1 (p + 3) 0).2.2 := by unfold sNum; rw [e, f1, f2, f3]; rfl
  have v3 : sNum S d p 3 = (rd (hb (S.2 d) (S.1 4 d)) 1 (p + 4) 0).2.2 := by unfold sNum; rw [e, f1, f2, f3, f4]; rfl
  have b0 : (rd (hb (S.2 d) (S.1 4 d)) 1 (p + 1) 0).2.2 ≤ 9 := rd_b (H := hb (S.2 d) (S.1 4 d)) (p := p + 1) (Or.inl rfl)
  rw [v0, v1, v2, v3] at k1
  rw [v0] at k2
  refine vc_X10_followCell d (nI p) ?_
  simp only [nI_add]
  refine ⟨S, p + 1, 1, p0, rfl, by omega, rfl, by omega, a1, w_ni (fun q => ?_) (fun q => ⟨Or.inl (by decide), k2 (fun z => q ((in0_iff (by omega) (by omega)).mpr (by omega)))⟩)⟩
  have q := (in0_iff (by omega) (by omega)).mp q
  refine ⟨S, p + 2, 1, p0, rfl, by omega, rfl, by omega, a2, S, p + 3, 1, p0, rfl, by omega, rfl, by omega, a3, S, p + 4, 1, p0, rfl, by omega, rfl, by omega, a4, ?_⟩
  exact ⟨V, _, _, _, _, cv, by omega, rfl, rfl, rfl, rfl, fun h' o c => ⟨Or.inr (by decide), k1 (by omega) h' o c⟩⟩
theorem tr_X10_followCell : ∀ (as : List AV) (h : AH) (K : Int32 → AH → Prop), T_X10_followCell as h K → ∃ (q : Nat) (r : List AV), as = aR 0 q :: r := by
  intro as h K hk
  match as, hk with
  | [.inr (.inr (.inl q0)), .inr (.inr (.inl q1)), .inl q2], hk =>
    obtain ⟨hb, hk⟩ := tif_inv hk
    simp only [Bool.and_eq_true] at hb
    obtain ⟨⟨e0, e1⟩, e2⟩ := hb
    obtain ⟨a0, b0⟩ := q0
    obtain ⟨a1, b1⟩ := q1
    have f0 : a0 = 0 := Nat.eq_of_beq_eq_true e0
    subst f0
    have f1 : b0 = 0 := Nat.eq_of_beq_eq_true e1
    subst f1
    have f2 : a1 = 12 := Nat.eq_of_beq_eq_true e2
    subst f2
    exact ⟨_, _, rfl⟩
theorem tw_X10_followCell : ∀ (as : List AV) (h : AH) (K : Int32 → AH → Prop), T_X10_followCell as h K → (ini as).length ≤ mNL M_X10_followCell ∧ AW M_X10_followCell (.inl (fun x u => (x = 0 ∨ x = 1) ∧ K x u)) 0 (initL (mNL M_X10_followCell) as) [] h 0 0 := by
  intro as h K hk
  match as, hk with
  | [.inr (.inr (.inl q0)), .inr (.inr (.inl q1)), .inl q2], hk =>
    obtain ⟨hb, hk⟩ := tif_inv hk
    simp only [Bool.and_eq_true] at hb
    obtain ⟨⟨e0, e1⟩, e2⟩ := hb
    obtain ⟨a0, b0⟩ := q0
    obtain ⟨a1, b1⟩ := q1
    have f0 : a0 = 0 := Nat.eq_of_beq_eq_true e0
    subst f0
    have f1 : b0 = 0 := Nat.eq_of_beq_eq_true e1
    subst f1
    have f2 : a1 = 12 := Nat.eq_of_beq_eq_true e2
    subst f2
    exact ⟨Nat.le_of_ble_eq_true rfl, snd_X10_followCell b1 q2 hk⟩
theorem cr_RX10_939 : CR RX10 (kIns 939) (3, 3, 69, 0, 0, .inl T_X10_followCell) := crV_z (t := 0) (M := M_X10_followCell) (by decide) rfl (by decide) rfl (inG (i := 218) (w := Cond.methodLink RX10 313 yX10_followCell) (by decide +kernel) rfl) (inG (i := 220) (w := Cond.instanceMethod yX10_followCell) (by decide +kernel) rfl) (inG (i := 37) (w := Cond.initialized RX10) (by decide +kernel) rfl) (inG (i := 4) (w := Cond.selects RX10 yX10_followCell yX10_followCell) (by decide +kernel) rfl) (inG (i := 221) (w := Cond.code yX10_followCell cX10_followCell 4 (some .boolean)) (by decide +kernel) rfl) ⟨by decide +kernel, by decide +kernel, by decide +kernel⟩ tr_X10_followCell tw_X10_followCell

def S_X10_followEagle (d : Nat) (x : Int32) (h : AH) (K : Int32 → AH → Prop) : Prop := ∃ S V p, folP h S d V ∧ x = nI p ∧ p < S.1 4 d ∧ hb (S.2 d) (S.1 4 d) p = nI 101 ∧ (rdS (hb (S.2 d) (S.1 4 d)) p).1 = true ∧ (((1 ≤ sNum S d p 0 ∧ sNum S d p 0 ≤ 30) ∧ sNum S d p 2 < 4 ∧ V 10 0 < 4) → ∀ h', onlyV 1 h h' → CV h' 1 (adE V (sNum S d p 0) (sNum S d p 1) (sNum S d p 2)) → K (nI 1) h') ∧ (¬ ((1 ≤ sNum S d p 0 ∧ sNum S d p 0 ≤ 30) ∧ sNum S d p 2 < 4 ∧ V 10 0 < 4) → K (nI 0) h)
def T_X10_followEagle : List AV → AH → (Int32 → AH → Prop) → Prop := fun as h K => match as with
  | [.inr (.inr (.inl q0)), .inr (.inr (.inl q1)), .inl q2] => tif (Nat.beq q0.1 0 && Nat.beq q0.2 0 && Nat.beq q1.1 12) (S_X10_followEagle q1.2 q2 h K)
  | _ => False

def M_X10_followEagle : MI := (RX10, cX10_followEagle, 5, [(0, .aload_n 1, []), (1, .iload_n 2, []), (2, .iconst 1, []), (3, .iadd, []), (4, .iconst 2, []), (5, .invokevirtual 319, []), (8, .istore_n 3, []), (9, .aload_n 1, []), (10, .iload_n 2, []), (11, .iconst 4, []), (12, .iadd, []), (13, .iconst 1, []), (14, .invokevirtual 319, []), (17, .istore 4, []), (19, .iload_n 3, []), (20, .iconst 1, []), (21, .bipush 30, []), (23, .invokestatic 59, []), (26, .ifCond .eq 38, [64]), (29, .iload 4, []), (31, .iconst 0, []), (32, .iconst 3, []), (33, .invokestatic 59, []), (36, .ifCond .eq 28, [64]), (39, .aload_n 0, []), (40, .getfield 16, []), (43, .iload_n 3, []), (44, .aload_n 1, []), (45, .iload_n 2, []), (46, .iconst 3, []), (47, .iadd, []), (48, .iconst 1, []), (49, .invokevirtual 319, []), (52, .iload 4, []), (54, .invokevirtual 333, []), (57, .ifCond .eq 7, [64]), (60, .iconst 1, []), (61, .goto 4, [65]), (64, .iconst 0, []), (65, .ireturn, [])], [(16, (0, 1, 1, 1, 1))], [], [], [(957, (3, 2, 46, 0, 0, .inl T_X5_number)), (178, (3, 1, 22, 0, 0, .inl T_X10_within)), (999, (4, 1, 23, 0, 0, .inl T_X9_addEagle))], 2, 46, 0, 0)
theorem ok_X10_followEagle : MOK M_X10_followEagle := ⟨by decide +kernel, List.forall_mem_cons.mpr ⟨fl_RX10_16, fun _ h => absurd h List.not_mem_nil⟩, fun _ h => absurd h List.not_mem_nil, fun _ h => absurd h List.not_mem_nil, List.forall_mem_cons.mpr ⟨⟨Nat.le_of_ble_eq_true rfl, Nat.le_of_ble_eq_true rfl, cr_RX10_957⟩, List.forall_mem_cons.mpr ⟨⟨Nat.le_of_ble_eq_true rfl, Nat.le_of_ble_eq_true rfl, cr_RX10_178⟩, List.forall_mem_cons.mpr ⟨⟨Nat.le_of_ble_eq_true rfl, Nat.le_of_ble_eq_true rfl, cr_RX10_999⟩, fun _ h => absurd h List.not_mem_nil⟩⟩⟩⟩
set_option maxRecDepth 100000 in
theorem vc_X10_followEagle {K : Int32 → AH → Prop} {h : AH} (p1 : Nat) (p2 : Int32) (H : S_X5_number p1 (p2 + (nI 1)) (nI 2) h (fun x2 h1 => S_X5_number p1 (p2 + (nI 4)) (nI 1) h1 (fun x4 h3 => S_X10_within x2 (nI 1) (nI 30) h3 (fun x6 h5 => ((x6 = 0) → (((nI 0) = 0 ∨ (nI 0) = 1) ∧ K (nI 0) h5)) ∧ (¬ (x6 = 0) → S_X10_within x4 (nI 0) (nI 3) h5 (fun x8 h7 => ((x8 = 0) → (((nI 0) = 0 ∨ (nI 0) = 1) ∧ K (nI 0) h7)) ∧ (¬ (x8 = 0) → S_X5_number p1 (p2 + (nI 3)) (nI 1) h7 (fun x10 h9 => S_X9_addEagle 1 x2 x10 x4 h9 (fun x12 h11 => ((x12 = 0) → (((nI 0) = 0 ∨ (nI 0) = 1) ∧ K (nI 0) h11)) ∧ (¬ (x12 = 0) → (((nI 1) = 0 ∨ (nI 1) = 1) ∧ K (nI 1) h11))))))))))) : AW M_X10_followEagle (.inl (fun x u => (x = 0 ∨ x = 1) ∧ K x u)) 0 [some (aR 0 0), some (aR 12 p1), some (aI p2), none, none] [] h 0 0 := AW_go (cuts := []) ok_X10_followEagle 400 H

theorem snd_X10_followEagle (d : Nat) (x : Int32) {h : AH} {K : Int32 → AH → Prop} (k : S_X10_followEagle d x h K) : AW M_X10_followEagle (.inl (fun x u => (x = 0 ∨ x = 1) ∧ K x u)) 0 [some (aR 0 0), some (aR 12 d), some (aI x), none, none] [] h 0 0 := by
  obtain ⟨S, V, p, ⟨p0, cv, hw⟩, rfl, hp, hc, ok, k1, k2⟩ := k
  have l2 := (rowPs p0.1).2.2.2.2.2.2
  have h4 := hw.1
  obtain ⟨e, ok2⟩ := st_1 hc (show grp (nI 101) = 2 :: [1, 1] by decide) ok
  obtain ⟨a1, o1, f1⟩ := rdG_c ok2
  obtain ⟨a2, o2, f2⟩ := rdG_c o1
  obtain ⟨a3, o3, f3⟩ := rdG_c o2
  have v0 : sNum S d p 0 = (rd (hb (S.2 d) (S.1 4 d)) 2 (p + 1) 0).2.2 := by unfold sNum; rw [e, f1]; rfl
  have v1 : sNum S d p 1 = (rd (hb (S.2 d) (S.1 4 d)) 1 (p + 3) 0).2.2 := by unfold sNum; rw [e, f1, f2]; rfl
  have v2 : sNum S d p 2 = (rd (hb (S.2 d) (S.1 4 d)) 1 (p + 4) 0).2.2 := by unfold sNum; rw [e, f1, f2, f3]; rfl
  have b0 : (rd (hb (S.2 d) (S.1 4 d)) 2 (p + 1) 0).2.2 ≤ 99 := rd_b (H := hb (S.2 d) (S.1 4 d)) (p := p + 1) (Or.inr rfl)
  have b2 : (rd (hb (S.2 d) (S.1 4 d)) 1 (p + 4) 0).2.2 ≤ 9 := rd_b (H := hb (S.2 d) (S.1 4 d)) (p := p + 4) (Or.inl rfl)
  rw [v0, v1, v2] at k1
  rw [v0, v2] at k2
  refine vc_X10_followEagle d (nI p) ?_
  simp only [nI_add]
  refine ⟨S, p + 1, 2, p0, rfl, by omega, rfl, by omega, a1, S, p + 4, 1, p0, rfl, by omega, rfl, by omega, a3, w_if (fun q => w_if (fun q2 => ?_) (fun q2 => ⟨Or.inl (by decide), k2 (fun z => q2 ((in0_iff (by omega) (by omega)).mpr (by omega)))⟩)) (fun q => ⟨Or.inl (by decide), k2 (fun z => q ((in1_iff (by omega) (by omega)).mpr z.1))⟩)⟩
  have q := (in1_iff (by omega) (by omega)).mp q
  have q2 := (in0_iff (by omega) (by omega)).mp q2
  refine ⟨S, p + 3, 1, p0, rfl, by omega, rfl, by omega, a2, V, _, _, _, cv, hw, rfl, rfl, rfl, fun q3 => ⟨fun _ => ⟨Or.inl (by decide), k2 (by omega)⟩, fun z => absurd (show nI 0 = 0 by decide) z⟩, fun q3 h' o c => ⟨fun z => absurd z (by decide), fun _ => ⟨Or.inr (by decide), k1 ⟨q, by omega, q3⟩ h' o c⟩⟩⟩
theorem tr_X10_followEagle : ∀ (as : List AV) (h : AH) (K : Int32 → AH → Prop), T_X10_followEagle as h K → ∃ (q : Nat) (r : List AV), as = aR 0 q :: r := by
  intro as h K hk
  match as, hk with
  | [.inr (.inr (.inl q0)), .inr (.inr (.inl q1)), .inl q2], hk =>
    obtain ⟨hb, hk⟩ := tif_inv hk
    simp only [Bool.and_eq_true] at hb
    obtain ⟨⟨e0, e1⟩, e2⟩ := hb
    obtain ⟨a0, b0⟩ := q0
    obtain ⟨a1, b1⟩ := q1
    have f0 : a0 = 0 := Nat.eq_of_beq_eq_true e0
    subst f0
    have f1 : b0 = 0 := Nat.eq_of_beq_eq_true e1
    subst f1
    have f2 : a1 = 12 := Nat.eq_of_beq_eq_true e2
    subst f2
    exact ⟨_, _, rfl⟩
theorem tw_X10_followEagle : ∀ (as : List AV) (h : AH) (K : Int32 → AH → Prop), T_X10_followEagle as h K → (ini as).length ≤ mNL M_X10_followEagle ∧ AW M_X10_followEagle (.inl (fun x u => (x = 0 ∨ x = 1) ∧ K x u)) 0 (initL (mNL M_X10_followEagle) as) [] h 0 0 := by
  intro as h K hk
  match as, hk with
  | [.inr (.inr (.inl q0)), .inr (.inr (.inl q1)), .inl q2], hk =>
    obtain ⟨hb, hk⟩ := tif_inv hk
    simp only [Bool.and_eq_true] at hb
    obtain ⟨⟨e0, e1⟩, e2⟩ := hb
    obtain ⟨a0, b0⟩ := q0
    obtain ⟨a1, b1⟩ := q1
    have f0 : a0 = 0 := Nat.eq_of_beq_eq_true e0
    subst f0
    have f1 : b0 = 0 := Nat.eq_of_beq_eq_true e1
    subst f1
    have f2 : a1 = 12 := Nat.eq_of_beq_eq_true e2
    subst f2
    exact ⟨Nat.le_of_ble_eq_true rfl, snd_X10_followEagle b1 q2 hk⟩
theorem cr_RX10_948 : CR RX10 (kIns 948) (3, 3, 70, 0, 0, .inl T_X10_followEagle) := crV_z (t := 0) (M := M_X10_followEagle) (by decide) rfl (by decide) rfl (inG (i := 230) (w := Cond.methodLink RX10 316 yX10_followEagle) (by decide +kernel) rfl) (inG (i := 232) (w := Cond.instanceMethod yX10_followEagle) (by decide +kernel) rfl) (inG (i := 37) (w := Cond.initialized RX10) (by decide +kernel) rfl) (inG (i := 5) (w := Cond.selects RX10 yX10_followEagle yX10_followEagle) (by decide +kernel) rfl) (inG (i := 233) (w := Cond.code yX10_followEagle cX10_followEagle 5 (some .boolean)) (by decide +kernel) rfl) ⟨by decide +kernel, by decide +kernel, by decide +kernel⟩ tr_X10_followEagle tw_X10_followEagle

def S_X10_follow (d : Nat) (x : Int32) (h : AH) (K : Int32 → AH → Prop) : Prop := ∃ S V p, folP h S d V ∧ x = nI p ∧ p < S.1 4 d ∧ (rdS (hb (S.2 d) (S.1 4 d)) p).1 = true ∧ (∀ h' U, keepY h h' → stO (hb (S.2 d) (S.1 4 d)) V p = some U → CV h' 1 U → K (nI 1) h') ∧ (stO (hb (S.2 d) (S.1 4 d)) V p = none → ∀ h', keepY h h' → K (nI 0) h')
def T_X10_follow : List AV → AH → (Int32 → AH → Prop) → Prop := fun as h K => match as with
  | [.inr (.inr (.inl q0)), .inr (.inr (.inl q1)), .inl q2] => tif (Nat.beq q0.1 0 && Nat.beq q0.2 0 && Nat.beq q1.1 12) (S_X10_follow q1.2 q2 h K)
  | _ => False

def M_X10_follow : MI := (RX10, cX10_follow, 3, [(0, .aload_n 1, []), (1, .getfield 49, []), (4, .iload_n 2, []), (5, .iaload, []), (6, .lookupswitch 117 #[(99, 50), (100, 91), (101, 57), (104, 104), (115, 64)], [123, 56, 97, 63, 110, 70]), (56, .aload_n 0, []), (57, .aload_n 1, []), (58, .iload_n 2, []), (59, .invokevirtual 313, []), (62, .ireturn, []), (63, .aload_n 0, []), (64, .aload_n 1, []), (65, .iload_n 2, []), (66, .invokevirtual 316, []), (69, .ireturn, []), (70, .aload_n 0, []), (71, .getfield 16, []), (74, .aload_n 1, []), (75, .iload_n 2, []), (76, .iconst 1, []), (77, .iadd, []), (78, .iconst 1, []), (79, .invokevirtual 319, []), (82, .aload_n 1, []), (83, .iload_n 2, []), (84, .iconst 2, []), (85, .iadd, []), (86, .iconst 1, []), (87, .invokevirtual 319, []), (90, .invokestatic 234, []), (93, .invokevirtual 121, []), (96, .ireturn, []), (97, .aload_n 0, []), (98, .aload_n 1, []), (99, .iload_n 2, []), (100, .iconst 1, []), (101, .iadd, []), (102, .iconst 1, []), (103, .invokevirtual 319, []), (106, .invokevirtual 322, []), (109, .ireturn, []), (110, .aload_n 0, []), (111, .aload_n 1, []), (112, .iload_n 2, []), (113, .iconst 1, []), (114, .iadd, []), (115, .iconst 2, []), (116, .invokevirtual 319, []), (119, .invokevirtual 326, []), (122, .ireturn, []), (123, .aload_n 0, []), (124, .aload_n 1, []), (125, .iload_n 2, []), (126, .iconst 1, []), (127, .iadd, []), (128, .iconst 1, []), (129, .invokevirtual 319, []), (132, .aload_n 1, []), (133, .iload_n 2, []), (134, .iconst 2, []), (135, .iadd, []), (136, .iconst 1, []), (137, .invokevirtual 319, []), (140, .invokevirtual 329, []), (143, .ireturn, [])], [(49, (12, 4, 1, 13, 0)), (16, (0, 1, 1, 1, 1))], [], [], [(939, (3, 3, 69, 0, 0, .inl T_X10_followCell)), (948, (3, 3, 70, 0, 0, .inl T_X10_followEagle)), (957, (3, 2, 46, 0, 0, .inl T_X5_number)), (703, (2, 5, 99, 1, 7, .inr (.inr (.inr T_X10_newSheep)))), (363, (2, 1, 21, 0, 0, .inl T_X9_addSheep)), (966, (2, 2, 43, 0, 0, .inl T_X10_followDrums)), (978, (2, 3, 64, 0, 0, .inl T_X10_followWait)), (987, (3, 6, 135, 0, 0, .inl T_X10_followThrow))], 6, 135, 1, 7)
theorem ok_X10_follow : MOK M_X10_follow := ⟨by decide +kernel, List.forall_mem_cons.mpr ⟨fl_RX10_49, List.forall_mem_cons.mpr ⟨fl_RX10_16, fun _ h => absurd h List.not_mem_nil⟩⟩, fun _ h => absurd h List.not_mem_nil, fun _ h => absurd h List.not_mem_nil, List.forall_mem_cons.mpr ⟨⟨Nat.le_of_ble_eq_true rfl, Nat.le_of_ble_eq_true rfl, cr_RX10_939⟩, List.forall_mem_cons.mpr ⟨⟨Nat.le_of_ble_eq_true rfl, Nat.le_of_ble_eq_true rfl, cr_RX10_948⟩, List.forall_mem_cons.mpr ⟨⟨Nat.le_of_ble_eq_true rfl, Nat.le_of_ble_eq_true rfl, cr_RX10_957⟩, List.forall_mem_cons.mpr ⟨⟨Nat.le_of_ble_eq_true rfl, Nat.le_of_ble_eq_true rfl, cr_RX10_703⟩, List.forall_mem_cons.mpr ⟨⟨Nat.le_of_ble_eq_true rfl, Nat.le_of_ble_eq_true rfl, cr_RX10_363⟩, List.forall_mem_cons.mpr ⟨⟨Nat.le_of_ble_eq_true rfl, Nat.le_of_ble_eq_true rfl, cr_RX10_966⟩, List.forall_mem_cons.mpr ⟨⟨Nat.le_of_ble_eq_true rfl, Nat.le_of_ble_eq_true rfl, cr_RX10_978⟩, List.forall_mem_cons.mpr ⟨⟨Nat.le_of_ble_eq_true rfl, Nat.le_of_ble_eq_true rfl, cr_RX10_987⟩, fun _ h => absurd h List.not_mem_nil⟩⟩⟩⟩⟩⟩⟩⟩⟩
set_option maxRecDepth 100000 in
theorem vc_X10_follow {K : Int32 → AH → Prop} {h : AH} (p1 : Nat) (p2 : Int32) (H : inR p2 100 ∧ ((h.1 13 p1 p2.toNatClampNeg) = iI 99 → S_X10_followCell p1 p2 h (fun x2 h1 => ((x2 = 0 ∨ x2 = 1) ∧ K x2 h1))) ∧ (¬ (h.1 13 p1 p2.toNatClampNeg) = iI 99 → ((h.1 13 p1 p2.toNatClampNeg) = iI 100 → S_X5_number p1 (p2 + (nI 1)) (nI 1) h (fun x4 h3 => S_X10_followDrums x4 h3 (fun x6 h5 => ((x6 = 0 ∨ x6 = 1) ∧ K x6 h5)))) ∧ (¬ (h.1 13 p1 p2.toNatClampNeg) = iI 100 → ((h.1 13 p1 p2.toNatClampNeg) = iI 101 → S_X10_followEagle p1 p2 h (fun x8 h7 => ((x8 = 0 ∨ x8 = 1) ∧ K x8 h7))) ∧ (¬ (h.1 13 p1 p2.toNatClampNeg) = iI 101 → ((h.1 13 p1 p2.toNatClampNeg) = iI 104 → S_X5_number p1 (p2 + (nI 1)) (nI 2) h (fun x10 h9 => S_X10_followWait x10 h9 (fun x12 h11 => ((x12 = 0 ∨ x12 = 1) ∧ K x12 h11)))) ∧ (¬ (h.1 13 p1 p2.toNatClampNeg) = iI 104 → ((h.1 13 p1 p2.toNatClampNeg) = iI 115 → S_X5_number p1 (p2 + (nI 1)) (nI 1) h (fun x14 h13 => S_X5_number p1 (p2 + (nI 2)) (nI 1) h13 (fun x16 h15 => (0 + 1 ≤ 1 ∧ 0 + 7 ≤ 7) ∧ S_X10_newSheep x14 x16 h15 (fun x18 h17 => S_X9_addSheep 1 x18 h17 (fun x20 h19 => ((x20 = 0 ∨ x20 = 1) ∧ K x20 h19)))))) ∧ (¬ (h.1 13 p1 p2.toNatClampNeg) = iI 115 → S_X5_number p1 (p2 + (nI 1)) (nI 1) h (fun x22 h21 => S_X5_number p1 (p2 + (nI 2)) (nI 1) h21 (fun x24 h23 => S_X10_followThrow x22 x24 h23 (fun x26 h25 => ((x26 = 0 ∨ x26 = 1) ∧ K x26 h25)))))))))) : AW M_X10_follow (.inl (fun x u => (x = 0 ∨ x = 1) ∧ K x u)) 0 [some (aR 0 0), some (aR 12 p1), some (aI p2)] [] h 0 0 := AW_go (cuts := []) ok_X10_follow 400 H

theorem snd_X10_follow (d : Nat) (x : Int32) {h : AH} {K : Int32 → AH → Prop} (k : S_X10_follow d x h K) : AW M_X10_follow (.inl (fun x u => (x = 0 ∨ x = 1) ∧ K x u)) 0 [some (aR 0 0), some (aR 12 d), some (aI x)] [] h 0 0 := by
  obtain ⟨S, V, p, fp, rfl, hp, ok, k1, k2⟩ := k
  obtain ⟨p0, cv, hw⟩ := id fp
  obtain ⟨-, -, -, -, e4, -, l2⟩ := rowPs p0.1
  have h4 := hw.1
  have h7 := hw.2.1
  have hbp := p0.2 p (by omega)
  have hH := hb_in (E := S.2 d) hp
  obtain ⟨gne, -, -⟩ := rdS_l ok
  have hst : stO (hb (S.2 d) (S.1 4 d)) V p = isD V (hb (S.2 d) (S.1 4 d) p) (fun j => sNum S d p j) := rfl
  have hE : ∀ n, n < 128 → (S.2 d p = nI n ↔ hb (S.2 d) (S.1 4 d) p = nI n) := fun n hn => by rw [hH, byt_eq hbp hn]
  refine vc_X10_follow d (nI p) ⟨n_in (show p < 100 by omega) (by omega), ?_⟩
  rw [n_cl (show p < 2147483648 by omega), e4 p (by omega), show iI 99 = nI 99 by decide, show iI 100 = nI 100 by decide, show iI 101 = nI 101 by decide, show iI 104 = nI 104 by decide, show iI 115 = nI 115 by decide, hE 99 (by decide), hE 100 (by decide), hE 101 (by decide), hE 104 (by decide), hE 115 (by decide)]
  simp only [nI_add]
  refine ⟨fun q => ?_, fun q1 => ⟨fun q => ?_, fun q2 => ⟨fun q => ?_, fun q3 => ⟨fun q => ?_, fun q4 => ⟨fun q => ?_, fun q5 => ?_⟩⟩⟩⟩⟩
  · rw [hst, q] at k1 k2
    have ei : isD V (nI 99) (fun j => sNum S d p j) = if sNum S d p 0 < 8 then some (uV (uV (uV V 0 (sNum S d p 0) (sNum S d p 1)) 1 (sNum S d p 0) (sNum S d p 2)) 2 (sNum S d p 0) (sNum S d p 3)) else none := by unfold isD; rw [if_pos rfl]
    rw [ei] at k1 k2
    exact ⟨S, V, p, fp, rfl, hp, q, ok, fun z h' o c => ⟨Or.inr (by decide), k1 h' _ (keepY_V o) (if_pos z) c⟩, fun z => ⟨Or.inl (by decide), k2 (if_neg z) h (keepY_rfl h)⟩⟩
  · rw [hst, q] at k1 k2
    obtain ⟨e, ok2⟩ := st_1 q (show grp (nI 100) = 1 :: [] by decide) ok
    obtain ⟨a1, o1, f1⟩ := rdG_c ok2
    have v0 : sNum S d p 0 = (rd (hb (S.2 d) (S.1 4 d)) 1 (p + 1) 0).2.2 := by unfold sNum; rw [e, f1]; rfl
    have b0 : (rd (hb (S.2 d) (S.1 4 d)) 1 (p + 1) 0).2.2 ≤ 9 := rd_b (H := hb (S.2 d) (S.1 4 d)) (p := p + 1) (Or.inl rfl)
    have ei : isD V (nI 100) (fun j => sNum S d p j) = if sNum S d p 0 ≤ 1 then some (uV V 10 3 (sNum S d p 0)) else none := by unfold isD; rw [if_neg (by decide), if_neg (by decide), if_neg (by decide), if_pos rfl]
    rw [ei, v0] at k1 k2
    exact ⟨S, p + 1, 1, p0, rfl, by omega, rfl, by omega, a1, V, _, cv, b0, rfl, fun z h' o c => ⟨Or.inr (by decide), k1 h' _ (keepY_V o) (if_pos z) c⟩, fun z => ⟨Or.inl (by decide), k2 (if_neg z) h (keepY_rfl h)⟩⟩
  · rw [hst, q] at k1 k2
    have ei : isD V (nI 101) (fun j => sNum S d p j) = if (1 ≤ sNum S d p 0 ∧ sNum S d p 0 ≤ 30) ∧ sNum S d p 2 < 4 ∧ V 10 0 < 4 then some (adE V (sNum S d p 0) (sNum S d p 1) (sNum S d p 2)) else none := by unfold isD; rw [if_neg (by decide), if_pos rfl]
    rw [ei] at k1 k2
    exact ⟨S, V, p, fp, rfl, hp, q, ok, fun z h' o c => ⟨Or.inr (by decide), k1 h' _ (keepY_V o) (if_pos z) c⟩, fun z => ⟨Or.inl (by decide), k2 (if_neg z) h (keepY_rfl h)⟩⟩
  · rw [hst, q] at k1 k2
    obtain ⟨e, ok2⟩ := st_1 q (show grp (nI 104) = 2 :: [] by decide) ok
    obtain ⟨a1, o1, f1⟩ := rdG_c ok2
    have v0 : sNum S d p 0 = (rd (hb (S.2 d) (S.1 4 d)) 2 (p + 1) 0).2.2 := by unfold sNum; rw [e, f1]; rfl
    have b0 : (rd (hb (S.2 d) (S.1 4 d)) 2 (p + 1) 0).2.2 ≤ 99 := rd_b (H := hb (S.2 d) (S.1 4 d)) (p := p + 1) (Or.inr rfl)
    have ei : isD V (nI 104) (fun j => sNum S d p j) = if 1 ≤ sNum S d p 0 ∧ sNum S d p 0 ≤ 60 then some (wai V (sNum S d p 0)) else none := by unfold isD; rw [if_neg (by decide), if_neg (by decide), if_neg (by decide), if_neg (by decide), if_pos rfl]
    rw [ei, v0] at k1 k2
    exact ⟨S, p + 1, 2, p0, rfl, by omega, rfl, by omega, a1, V, _, cv, hw, b0, rfl, fun z h' o c => ⟨Or.inr (by decide), k1 h' _ (keepY_V o) (if_pos z) c⟩, fun z => ⟨Or.inl (by decide), k2 (if_neg z) h (keepY_rfl h)⟩⟩
  · rw [hst, q] at k1 k2
    obtain ⟨e, ok2⟩ := st_1 q (show grp (nI 115) = 1 :: [1] by decide) ok
    obtain ⟨a1, o1, f1⟩ := rdG_c ok2
    obtain ⟨a2, o2, f2⟩ := rdG_c o1
    have v0 : sNum S d p 0 = (rd (hb (S.2 d) (S.1 4 d)) 1 (p + 1) 0).2.2 := by unfold sNum; rw [e, f1]; rfl
    have v1 : sNum S d p 1 = (rd (hb (S.2 d) (S.1 4 d)) 1 (p + 2) 0).2.2 := by unfold sNum; rw [e, f1, f2]; rfl
    have b0 : (rd (hb (S.2 d) (S.1 4 d)) 1 (p + 1) 0).2.2 ≤ 9 := rd_b (H := hb (S.2 d) (S.1 4 d)) (p := p + 1) (Or.inl rfl)
    have b1 : (rd (hb (S.2 d) (S.1 4 d)) 1 (p + 2) 0).2.2 ≤ 9 := rd_b (H := hb (S.2 d) (S.1 4 d)) (p := p + 2) (Or.inl rfl)
    have ei : isD V (nI 115) (fun j => sNum S d p j) = if sNum S d p 0 < 8 ∧ V 10 1 < 7 then some (adS V (sNum S d p 0) (sNum S d p 1)) else none := by unfold isD; rw [if_neg (by decide), if_neg (by decide), if_pos rfl]
    rw [ei, v0, v1] at k1 k2
    refine ⟨S, p + 1, 1, p0, rfl, by omega, rfl, by omega, a1, S, p + 2, 1, p0, rfl, by omega, rfl, by omega, a2, ⟨by omega, by omega⟩, fun hno => ?_, fun i j a h1 hi hj ei ej ns sp => ?_⟩
    · refine ⟨V, cv, hw, Or.inl ⟨rfl, Or.inl (by decide), k2 (if_neg (fun z => hno ⟨_, _, by omega, b1, rfl, rfl⟩)) h (keepY_rfl h)⟩⟩
    · have ei := (n_eq (by omega) (by omega)).mp ei
      have ej := (n_eq (by omega) (by omega)).mp ej
      have y1 := keepY_new ns
      refine ⟨V, CV_new ns cv, hw, Or.inr ⟨i, j, sp, fun z => ⟨Or.inl (by decide), k2 (if_neg (by omega)) h1 y1⟩, fun z h' o c => ⟨Or.inr (by decide), k1 h' _ (keepY_tr y1 (keepY_V o)) (if_pos ⟨by omega, z⟩) (by rw [ei, ej]; exact c)⟩⟩⟩
  · have e116 := grp_116 gne q1 q3 q5 q2 q4
    rw [hst, e116] at k1 k2
    obtain ⟨e, ok2⟩ := st_1 e116 (show grp (nI 116) = 1 :: [1] by decide) ok
    obtain ⟨a1, o1, f1⟩ := rdG_c ok2
    obtain ⟨a2, o2, f2⟩ := rdG_c o1
    have v0 : sNum S d p 0 = (rd (hb (S.2 d) (S.1 4 d)) 1 (p + 1) 0).2.2 := by unfold sNum; rw [e, f1]; rfl
    have v1 : sNum S d p 1 = (rd (hb (S.2 d) (S.1 4 d)) 1 (p + 2) 0).2.2 := by unfold sNum; rw [e, f1, f2]; rfl
    have b0 : (rd (hb (S.2 d) (S.1 4 d)) 1 (p + 1) 0).2.2 ≤ 9 := rd_b (H := hb (S.2 d) (S.1 4 d)) (p := p + 1) (Or.inl rfl)
    have b1 : (rd (hb (S.2 d) (S.1 4 d)) 1 (p + 2) 0).2.2 ≤ 9 := rd_b (H := hb (S.2 d) (S.1 4 d)) (p := p + 2) (Or.inl rfl)
    have ei : isD V (nI 116) (fun j => sNum S d p j) = if sNum S d p 0 < V 10 1 ∧ sNum S d p 1 < 8 ∧ sNum S d p 1 ≤ vFl V (sNum S d p 0) then some (thr V (sNum S d p 0) (sNum S d p 1)) else none := by unfold isD; rw [if_neg (by decide), if_neg (by decide), if_neg (by decide), if_neg (by decide), if_neg (by decide)]
    rw [ei, v0, v1] at k1 k2
    exact ⟨S, p + 1, 1, p0, rfl, by omega, rfl, by omega, a1, S, p + 2, 1, p0, rfl, by omega, rfl, by omega, a2, V, _, _, cv, hw, b0, b1, rfl, rfl, fun z h' o c => ⟨Or.inr (by decide), k1 h' _ (keepY_V o) (if_pos z) c⟩, fun z => ⟨Or.inl (by decide), k2 (if_neg z) h (keepY_rfl h)⟩⟩
theorem tr_X10_follow : ∀ (as : List AV) (h : AH) (K : Int32 → AH → Prop), T_X10_follow as h K → ∃ (q : Nat) (r : List AV), as = aR 0 q :: r := by
  intro as h K hk
  match as, hk with
  | [.inr (.inr (.inl q0)), .inr (.inr (.inl q1)), .inl q2], hk =>
    obtain ⟨hb, hk⟩ := tif_inv hk
    simp only [Bool.and_eq_true] at hb
    obtain ⟨⟨e0, e1⟩, e2⟩ := hb
    obtain ⟨a0, b0⟩ := q0
    obtain ⟨a1, b1⟩ := q1
    have f0 : a0 = 0 := Nat.eq_of_beq_eq_true e0
    subst f0
    have f1 : b0 = 0 := Nat.eq_of_beq_eq_true e1
    subst f1
    have f2 : a1 = 12 := Nat.eq_of_beq_eq_true e2
    subst f2
    exact ⟨_, _, rfl⟩
theorem tw_X10_follow : ∀ (as : List AV) (h : AH) (K : Int32 → AH → Prop), T_X10_follow as h K → (ini as).length ≤ mNL M_X10_follow ∧ AW M_X10_follow (.inl (fun x u => (x = 0 ∨ x = 1) ∧ K x u)) 0 (initL (mNL M_X10_follow) as) [] h 0 0 := by
  intro as h K hk
  match as, hk with
  | [.inr (.inr (.inl q0)), .inr (.inr (.inl q1)), .inl q2], hk =>
    obtain ⟨hb, hk⟩ := tif_inv hk
    simp only [Bool.and_eq_true] at hb
    obtain ⟨⟨e0, e1⟩, e2⟩ := hb
    obtain ⟨a0, b0⟩ := q0
    obtain ⟨a1, b1⟩ := q1
    have f0 : a0 = 0 := Nat.eq_of_beq_eq_true e0
    subst f0
    have f1 : b0 = 0 := Nat.eq_of_beq_eq_true e1
    subst f1
    have f2 : a1 = 12 := Nat.eq_of_beq_eq_true e2
    subst f2
    exact ⟨Nat.le_of_ble_eq_true rfl, snd_X10_follow b1 q2 hk⟩
theorem cr_RX10_165 : CR RX10 (kIns 165) (3, 7, 157, 1, 7, .inl T_X10_follow) := crV_z (t := 0) (M := M_X10_follow) (by decide) rfl (by decide) rfl (inG (i := 214) (w := Cond.methodLink RX10 55 yX10_follow) (by decide +kernel) rfl) (inG (i := 216) (w := Cond.instanceMethod yX10_follow) (by decide +kernel) rfl) (inG (i := 37) (w := Cond.initialized RX10) (by decide +kernel) rfl) (inG (i := 3) (w := Cond.selects RX10 yX10_follow yX10_follow) (by decide +kernel) rfl) (inG (i := 217) (w := Cond.code yX10_follow cX10_follow 3 (some .boolean)) (by decide +kernel) rfl) ⟨by decide +kernel, by decide +kernel, by decide +kernel⟩ tr_X10_follow tw_X10_follow

/-- everything but the valleys now and in mind (and new sheep) stays -/
def keepW (h h' : AH) : Prop := (∀ t u i, ¬ (1 ≤ t ∧ t ≤ 9 ∧ u ≤ 1) → t ≠ 18 → h'.1 t u i = h.1 t u i) ∧ (∀ t u i, ¬ (t = 10 ∧ u ≤ 1) → h'.2.1 t u i = h.2.1 t u i) ∧ ∀ t u i a, ¬ (t = 10 ∧ u ≤ 1) → h.2.1 t u i = some a → ∀ j, h'.1 18 a j = h.1 18 a j
theorem keepW_rfl (h : AH) : keepW h h := ⟨fun _ _ _ _ _ => rfl, fun _ _ _ _ => rfl, fun _ _ _ _ _ _ _ => rfl⟩
theorem keepW_Y {h h1 h2 : AH} (a : keepY h h1) (o : onlyV 0 h1 h2) : keepW h h2 := ⟨fun t u i q z => (o.2.1 t u i (by omega)).trans (a.1 t u i (by omega) z), fun t u i q => (o.2.2 t u i (by omega)).trans (a.2.1 t u i (by omega)), fun t u i x q e j => (o.2.1 18 x j (by omega)).trans (a.2.2 t u i x (by omega) e j)⟩
theorem keepW_1 {h h1 : AH} (a : keepY h h1) : keepW h h1 := ⟨fun t u i q z => a.1 t u i (by omega) z, fun t u i q => a.2.1 t u i (by omega), fun t u i x q e j => a.2.2 t u i x (by omega) e j⟩
def S_X10_valley (d : Int32) (h : AH) (K : Int32 → AH → Prop) : Prop := ∃ S V, CSh h S ∧ WS S ∧ WB S ∧ CV h 0 V ∧ WF V ∧ ∀ h', keepW h h' → CV h' 0 (M_valley S V d).2 → K (M_valley S V d).1 h'
def T_X10_valley : List AV → AH → (Int32 → AH → Prop) → Prop := fun as h K => match as with
  | [.inr (.inr (.inl q0)), .inl q1] => tif (Nat.beq q0.1 0 && Nat.beq q0.2 0) (S_X10_valley q1 h K)
  | _ => False

def M_X10_valley : MI := (RX10, cX10_valley, 7, [(0, .aload_n 0, []), (1, .iload_n 1, []), (2, .invokevirtual 33, []), (5, .istore_n 2, []), (6, .iload_n 2, []), (7, .ifCond .eq 5, [12]), (10, .iload_n 2, []), (11, .ireturn, []), (12, .aload_n 0, []), (13, .getfield 24, []), (16, .iload_n 1, []), (17, .aaload, []), (18, .astore_n 3, []), (19, .aload_n 3, []), (20, .invokevirtual 37, []), (23, .istore 4, []), (25, .iload 4, []), (27, .ifCond .lt 10, [37]), (30, .sipush (-1000), []), (33, .iload 4, []), (35, .isub, []), (36, .ireturn, []), (37, .aload_n 0, []), (38, .getfield 16, []), (41, .aload_n 0, []), (42, .getfield 10, []), (45, .invokevirtual 41, []), (48, .iconst 0, []), (49, .istore 5, []), (51, .iconst 0, []), (52, .istore 6, []), (54, .iload 6, []), (56, .aload_n 3, []), (57, .getfield 45, []), (60, .if_icmp .ge 42, [102]), (63, .aload_n 3, []), (64, .getfield 49, []), (67, .iload 6, []), (69, .iaload, []), (70, .invokestatic 52, []), (73, .ifCond .le 23, [96]), (76, .aload_n 0, []), (77, .aload_n 3, []), (78, .iload 6, []), (80, .invokevirtual 55, []), (83, .ifCond .ne 10, [93]), (86, .sipush (-2000), []), (89, .iload 6, []), (91, .isub, []), (92, .ireturn, []), (93, .iinc 5 1, []), (96, .iinc 6 1, []), (99, .goto (-45), [54]), (102, .aload_n 0, []), (103, .getfield 10, []), (106, .aload_n 0, []), (107, .getfield 16, []), (110, .invokevirtual 41, []), (113, .iload 5, []), (115, .ireturn, [])], [(24, (0, 4, 1, 11, 0)), (16, (0, 1, 1, 1, 1)), (10, (0, 0, 1, 1, 0)), (45, (12, 3, 0, 0, 0)), (49, (12, 4, 1, 13, 0))], [], [], [(99, (2, 4, 87, 0, 0, .inl T_X10_refusedBytes)), (111, (1, 2, 46, 0, 0, .inl T_X5_firstBadByte)), (123, (2, 2, 48, 0, 0, .inr (.inl T_X9_become))), (157, (1, 1, 20, 0, 0, .inl T_X5_digitsBehind)), (165, (3, 7, 157, 1, 7, .inl T_X10_follow))], 7, 157, 100, 700)
theorem ok_X10_valley : MOK M_X10_valley := ⟨by decide +kernel, List.forall_mem_cons.mpr ⟨fl_RX10_24, List.forall_mem_cons.mpr ⟨fl_RX10_16, List.forall_mem_cons.mpr ⟨fl_RX10_10, List.forall_mem_cons.mpr ⟨fl_RX10_45, List.forall_mem_cons.mpr ⟨fl_RX10_49, fun _ h => absurd h List.not_mem_nil⟩⟩⟩⟩⟩, fun _ h => absurd h List.not_mem_nil, fun _ h => absurd h List.not_mem_nil, List.forall_mem_cons.mpr ⟨⟨Nat.le_of_ble_eq_true rfl, Nat.le_of_ble_eq_true rfl, cr_RX10_99⟩, List.forall_mem_cons.mpr ⟨⟨Nat.le_of_ble_eq_true rfl, Nat.le_of_ble_eq_true rfl, cr_RX10_111⟩, List.forall_mem_cons.mpr ⟨⟨Nat.le_of_ble_eq_true rfl, Nat.le_of_ble_eq_true rfl, cr_RX10_123⟩, List.forall_mem_cons.mpr ⟨⟨Nat.le_of_ble_eq_true rfl, Nat.le_of_ble_eq_true rfl, cr_RX10_157⟩, List.forall_mem_cons.mpr ⟨⟨Nat.le_of_ble_eq_true rfl, Nat.le_of_ble_eq_true rfl, cr_RX10_165⟩, fun _ h => absurd h List.not_mem_nil⟩⟩⟩⟩⟩⟩
set_option maxRecDepth 100000 in
theorem vc_X10_valley {K : Int32 → AH → Prop} {h : AH} (p1 : Int32) (H : S_X10_refusedBytes p1 h (fun x2 h1 => ((x2 = 0) → inR p1 8 ∧ S_X5_firstBadByte p1.toNatClampNeg h1 (fun x4 h3 => ((x4 < 0) → S_X9_become 1 0 h3 (fun h5 => AW M_X10_valley (.inl K) 54 [some (aR 0 0), none, none, some (aR 12 p1.toNatClampNeg), none, some (aI (nI 0)), some (aI (nI 0))] [] h5 0 0)) ∧ (¬ (x4 < 0) → K ((iI (-1000)) - x4) h3))) ∧ (¬ (x2 = 0) → K x2 h1))) : AW M_X10_valley (.inl K) 0 [some (aR 0 0), some (aI p1), none, none, none, none, none] [] h 0 0 := AW_go (cuts := [(54, [true, false, false, true, false, true, true])]) ok_X10_valley 400 H
set_option maxRecDepth 100000 in
theorem vc_X10_valley_54 {K : Int32 → AH → Prop} {h : AH} {kc ks : Nat} (l3 : Nat) (l5 : Int32) (l6 : Int32) (H : (((h.1 12 l3 3) ≤ l6) → S_X9_become 0 1 h (fun h1 => K l5 h1)) ∧ (¬ ((h.1 12 l3 3) ≤ l6) → inR l6 100 ∧ S_X5_digitsBehind (h.1 13 l3 l6.toNatClampNeg) h (fun x3 h2 => ((x3 ≤ 0) → AW M_X10_valley (.inl K) 54 [some (aR 0 0), none, none, some (aR 12 l3), none, some (aI l5), some (aI (l6 + (nI 1)))] [] h2 kc ks) ∧ (¬ (x3 ≤ 0) → (kc + 1 ≤ 100 ∧ ks + 7 ≤ 700) ∧ S_X10_follow l3 l6 h2 (fun x5 h4 => ((¬ x5 = 0) → AW M_X10_valley (.inl K) 54 [some (aR 0 0), none, none, some (aR 12 l3), none, some (aI (l5 + (nI 1))), some (aI (l6 + (nI 1)))] [] h4 (kc + 1) (ks + 7)) ∧ (¬ (¬ x5 = 0) → K ((iI (-2000)) - l6) h4)))))) : AW M_X10_valley (.inl K) 54 [some (aR 0 0), none, none, some (aR 12 l3), none, some (aI l5), some (aI l6)] [] h kc ks := AW_go (cuts := [(54, [true, false, false, true, false, true, true])]) ok_X10_valley 400 H

theorem skip_X10_valley {S : Sm} {d : Nat} {h : AH} {K : Int32 → AH → Prop} {n kc ks : Nat} (p0 : bytP h S d) : ∀ g p, (flt (hb (S.2 d) (S.1 4 d)) g p).1 = true → AW M_X10_valley (.inl K) 54 [some (aR 0 0), none, none, some (aR 12 d), none, some (aI (nI n)), some (aI (nI (flt (hb (S.2 d) (S.1 4 d)) g p).2))] [] h kc ks → AW M_X10_valley (.inl K) 54 [some (aR 0 0), none, none, some (aR 12 d), none, some (aI (nI n)), some (aI (nI p))] [] h kc ks := by
  obtain ⟨-, -, -, e3, e4, -, l2⟩ := rowPs p0.1
  have one : ∀ p, p < S.1 4 d → grp (S.2 d p) = [] → AW M_X10_valley (.inl K) 54 [some (aR 0 0), none, none, some (aR 12 d), none, some (aI (nI n)), some (aI (nI (p + 1)))] [] h kc ks → AW M_X10_valley (.inl K) 54 [some (aR 0 0), none, none, some (aR 12 d), none, some (aI (nI n)), some (aI (nI p))] [] h kc ks := by
    intro p hp hg k
    refine vc_X10_valley_54 d (nI n) (nI p) ?_
    rw [e3, n_le (by omega) (by omega), n_cl (show p < 2147483648 by omega), e4 p (by omega), nI_add]
    refine ⟨fun q => by omega, fun _ => ⟨n_in (show p < 100 by omega) (by omega), ?_⟩⟩
    unfold S_X5_digitsBehind
    rw [hg]
    exact ⟨fun _ => k, fun z => absurd (show nI 0 ≤ 0 by decide) z⟩
  intro g
  induction g with
  | zero =>
    intro p ok k
    rw [flt_0] at ok k
    by_cases z : hb (S.2 d) (S.1 4 d) p = nI 59
    · rw [if_pos z] at k
      by_cases y : p < S.1 4 d
      · have hbp := p0.2 p (by omega)
        rw [hb_in y] at z
        exact one p y (by rw [(byt_eq hbp (by omega)).mp z]; decide) k
      · rw [hb_out y] at z
        exact absurd z (by decide)
    · rw [if_neg z] at ok
      exact absurd ok (show ¬ false = true by decide)
  | succ g ih =>
    intro p ok k
    rw [flt_s] at ok k
    by_cases z : dgt (hb (S.2 d) (S.1 4 d) p)
    · rw [if_pos z] at ok k
      by_cases y : p < S.1 4 d
      · have hbp := p0.2 p (by omega)
        rw [hb_in y] at z
        obtain ⟨c, hc, ec⟩ := in_d.mp ((byt_dgt hbp).mp z)
        refine one p y ?_ (ih (p + 1) ok k)
        rw [ec]
        have : ∀ c, c ≤ 9 → grp (nI (48 + c)) = [] := by decide
        exact this c hc
      · rw [hb_out y] at z
        exact absurd z dgt_m1
    · rw [if_neg z] at ok
      exact absurd ok (show ¬ false = true by decide)
theorem lp_X10_valley {S : Sm} {d n0 : Nat} {V0 : Vm} {h0 : AH} {K : Int32 → AH → Prop} (p0 : bytP h0 S d) (cv0 : CV h0 0 V0) (hn0 : n0 ≤ 101) (k1 : ∀ h' U, keepW h0 h' → rn (hb (S.2 d) (S.1 4 d)) (S.1 4 d) 101 0 V0 = .inl U → CV h' 0 U → K (nI n0) h') (k2 : ∀ h' p, keepW h0 h' → rn (hb (S.2 d) (S.1 4 d)) (S.1 4 d) 101 0 V0 = .inr p → CV h' 0 V0 → K (iI (-2000) - nI p) h') : ∀ f p m V h kc ks, p + f ≥ 101 → p ≤ 110 → (p < S.1 4 d → sc (hb (S.2 d) (S.1 4 d)) (S.1 4 d) f p m = .inl n0) → (¬ p < S.1 4 d → m = n0) → rn (hb (S.2 d) (S.1 4 d)) (S.1 4 d) 101 0 V0 = rn (hb (S.2 d) (S.1 4 d)) (S.1 4 d) f p V → keepY h0 h → CV h 1 V → WF V → kc ≤ p → ks ≤ 7 * p → AW M_X10_valley (.inl K) 54 [some (aR 0 0), none, none, some (aR 12 d), none, some (aI (nI m)), some (aI (nI p))] [] h kc ks := by
  have l2 := (rowPs p0.1).2.2.2.2.2.2
  intro f
  induction f with
  | zero =>
    intro p m V h kc ks hp hp2 hs hm hr hy cv hw hkc hks
    refine vc_X10_valley_54 d (nI m) (nI p) ?_
    have pr : rowP h S d := ⟨CSh_Y hy p0.1.1, p0.1.2⟩
    have e3 := (rowPs pr).2.2.2.1
    rw [e3, n_le (by omega) (by omega)]
    refine ⟨fun _ => ⟨by decide, V, cv, hw, fun h' o c => ?_⟩, fun q => by omega⟩
    rw [hm (by omega)]
    exact k1 h' V (keepW_Y hy o) (by rw [hr]; rfl) c
  | succ f ih =>
    intro p m V h kc ks hp hp2 hs hm hr hy cv hw hkc hks
    have pr : rowP h S d := ⟨CSh_Y hy p0.1.1, p0.1.2⟩
    obtain ⟨-, -, -, e3, e4, -, -⟩ := rowPs pr
    refine vc_X10_valley_54 d (nI m) (nI p) ?_
    rw [e3, n_le (by omega) (by omega)]
    rw [rn_s (f := f) (p := p) (V := V)] at hr
    refine ⟨fun q => ⟨by decide, V, cv, hw, fun h' o c => ?_⟩, fun q => ?_⟩
    · rw [hm (by omega)]
      rw [if_neg (by omega)] at hr
      exact k1 h' V (keepW_Y hy o) hr c
    · have q : p < S.1 4 d := by omega
      have hs := hs q
      rw [if_pos q] at hr
      rw [sc_s (f := f) (p := p) (n := m)] at hs
      by_cases ok : (rdS (hb (S.2 d) (S.1 4 d)) p).1 = true
      case neg => rw [if_neg ok] at hs; cases hs
      rw [if_pos ok] at hs
      have hbp := p0.2 p (by omega)
      have hH := hb_in (E := S.2 d) q
      obtain ⟨gne, l1, l3⟩ := rdS_l ok
      have hg : grp (hb (S.2 d) (S.1 4 d) p) = grp (S.2 d p) := by rw [hH, byt_grp hbp]
      obtain ⟨g1, g2⟩ := grp_sum (S.2 d p)
      have gs : ¬ (grp (S.2 d p)).sum = 0 := fun z => gne (hg.trans (g2.mp z))
      have hf := rdS_flt gne
      have fok : (flt (hb (S.2 d) (S.1 4 d)) (grp (hb (S.2 d) (S.1 4 d) p)).sum (p + 1)).1 = true := by rw [hf]; exact ok
      have fl := flt_le _ _ fok
      have fl2 : (flt (hb (S.2 d) (S.1 4 d)) (grp (hb (S.2 d) (S.1 4 d) p)).sum (p + 1)).2 = (rdS (hb (S.2 d) (S.1 4 d)) p).2.1 := by rw [hf]
      rw [n_cl (show p < 2147483648 by omega), e4 p (by omega), nI_add]
      refine ⟨n_in (show p < 100 by omega) (by omega), ?_⟩
      unfold S_X5_digitsBehind
      (try dsimp only)
      rw [n_le0 (by omega)]
      refine ⟨fun z => absurd z gs, fun _ => ⟨⟨by omega, by omega⟩, S, V, p, ⟨⟨pr, p0.2⟩, cv, hw⟩, rfl, q, ok, fun h' U hy' hU cU => ⟨fun _ => ?_, fun z => absurd (show ¬ nI 1 = 0 by decide) z⟩, fun hN h' hy' => ⟨fun z => absurd (show nI 0 = 0 by decide) z, fun _ => ?_⟩⟩⟩
      · rw [hU] at hr
        simp only at hr
        rw [nI_add]
        have pr' : bytP h' S d := ⟨⟨CSh_Y (keepY_tr hy hy') p0.1.1, p0.1.2⟩, p0.2⟩
        refine skip_X10_valley pr' _ (p + 1) fok ?_
        rw [fl2] at fl ⊢
        refine ih (rdS (hb (S.2 d) (S.1 4 d)) p).2.1 (m + 1) U h' (kc + 1) (ks + 7) (by omega) (by omega) (fun z => ?_) (fun z => ?_) hr (keepY_tr hy hy') cU (WF_isD hw gne l3 hU) (by omega) (by omega)
        · rw [if_pos z] at hs; exact hs
        · rw [if_neg z] at hs; exact Sum.inl.inj hs
      · rw [hN] at hr
        simp only at hr
        exact k2 h' p (keepW_1 (keepY_tr hy hy')) hr (CV_Y (keepY_tr hy hy') (by decide) cv0)
theorem sc_b {H : Nat → Int32} {sz : Nat} (hz : sz ≤ 100) : ∀ f p m q, p ≤ 100 → sc H sz f p m = .inr q → q ≤ 110
  | 0, p, m, q, hp, h => by
    have := Sum.inr.inj h
    omega
  | f + 1, p, m, q, hp, h => by
    have h1 := rdS_p H p
    rw [sc_s] at h
    split at h
    · split at h
      · exact sc_b hz f _ _ _ (by omega) h
      · cases h
    · have := Sum.inr.inj h
      omega
theorem sc_n {H : Nat → Int32} {sz : Nat} : ∀ f p m n, sc H sz f p m = .inl n → n ≤ m + f
  | 0, p, m, n, h => by cases h
  | f + 1, p, m, n, h => by
    rw [sc_s] at h
    split at h
    · split at h
      · have := sc_n f _ _ _ h
        omega
      · have := Sum.inl.inj h
        omega
    · cases h
theorem snd_X10_valley (d : Int32) {h : AH} {K : Int32 → AH → Prop} (k : S_X10_valley d h K) : AW M_X10_valley (.inl K) 0 [some (aR 0 0), some (aI d), none, none, none, none, none] [] h 0 0 := by
  obtain ⟨S, V, cs, ws, wb, cv, hw, k⟩ := k
  unfold M_valley at k
  refine vc_X10_valley d ⟨S, cs, ws, ?_⟩
  rcases rwR0_cases ws d with ⟨m, hm, rfl, h2, h3, e⟩ | e
  case inr =>
    rw [if_pos e] at k
    exact ⟨fun z => absurd z e, fun _ => k h (keepW_rfl h) cv⟩
  rw [if_neg (fun z => z e), nN_n (show m < 2147483648 by omega)] at k
  have p0 : bytP h S m := ⟨⟨cs, ws, hm, h2⟩, wb m hm h2 h3⟩
  have l2 := (rowPs p0.1).2.2.2.2.2.2
  refine ⟨fun _ => ⟨n_in hm (by omega), ?_⟩, fun z => absurd e z⟩
  rw [n_cl (show m < 2147483648 by omega)]
  refine ⟨S, p0, ?_⟩
  unfold M_text at k
  cases hs : sc (hb (S.2 m) (S.1 4 m)) (S.1 4 m) 101 0 0 with
  | inr p =>
    rw [hs] at k
    simp only at k ⊢
    have hp := sc_b l2 101 0 0 p (by omega) hs
    rw [n_lt0 (by omega)]
    exact ⟨fun z => z.elim, fun _ => k h (keepW_rfl h) cv⟩
  | inl n =>
    rw [hs] at k
    simp only at k ⊢
    have hn := sc_n _ _ _ _ hs
    refine ⟨fun _ => ⟨by decide, V, cv, hw, fun h1 o1 c1 => ?_⟩, fun z => absurd (by decide) z⟩
    have p1 : bytP h1 S m := ⟨⟨CSh_V o1 cs, ws, hm, h2⟩, p0.2⟩
    have kW : ∀ {h'}, keepW h1 h' → keepW h h' := fun {h'} w => ⟨fun t u i q z => (w.1 t u i q z).trans (o1.2.1 t u i (by omega)), fun t u i q => (w.2.1 t u i q).trans (o1.2.2 t u i (by omega)), fun t u i x q e j => (w.2.2 t u i x q (by rw [o1.2.2 t u i (by omega)]; exact e) j).trans (o1.2.1 18 x j (by omega))⟩
    refine lp_X10_valley p1 (CV_V o1 (by decide) cv) (n0 := n) (by omega) (fun h' U w er c => ?_) (fun h' p w er c => ?_) 101 0 0 V h1 0 0 (by omega) (by omega) (fun _ => hs) (fun z => ?_) rfl (keepY_rfl h1) c1 hw (by omega) (by omega)
    · have := k h' (kW w)
      rw [er] at this
      exact this c
    · have := k h' (kW w)
      rw [er] at this
      exact this c
    · exfalso
      have e2 : rdS (hb (S.2 m) (S.1 4 m)) 0 = (false, 0, []) := by
        unfold rdS
        rw [hb_out (by omega)]
        exact if_pos (by decide)
      rw [sc_s (f := 100), e2, if_neg (show ¬ false = true by decide)] at hs
      cases hs
theorem tr_X10_valley : ∀ (as : List AV) (h : AH) (K : Int32 → AH → Prop), T_X10_valley as h K → ∃ (q : Nat) (r : List AV), as = aR 0 q :: r := by
  intro as h K hk
  match as, hk with
  | [.inr (.inr (.inl q0)), .inl q1], hk =>
    obtain ⟨hb, hk⟩ := tif_inv hk
    simp only [Bool.and_eq_true] at hb
    obtain ⟨e0, e1⟩ := hb
    obtain ⟨a0, b0⟩ := q0
    have f0 : a0 = 0 := Nat.eq_of_beq_eq_true e0
    subst f0
    have f1 : b0 = 0 := Nat.eq_of_beq_eq_true e1
    subst f1
    exact ⟨_, _, rfl⟩
theorem tw_X10_valley : ∀ (as : List AV) (h : AH) (K : Int32 → AH → Prop), T_X10_valley as h K → (ini as).length ≤ mNL M_X10_valley ∧ AW M_X10_valley (.inl K) 0 (initL (mNL M_X10_valley) as) [] h 0 0 := by
  intro as h K hk
  match as, hk with
  | [.inr (.inr (.inl q0)), .inl q1], hk =>
    obtain ⟨hb, hk⟩ := tif_inv hk
    simp only [Bool.and_eq_true] at hb
    obtain ⟨e0, e1⟩ := hb
    obtain ⟨a0, b0⟩ := q0
    have f0 : a0 = 0 := Nat.eq_of_beq_eq_true e0
    subst f0
    have f1 : b0 = 0 := Nat.eq_of_beq_eq_true e1
    subst f1
    exact ⟨Nat.le_of_ble_eq_true rfl, snd_X10_valley q1 hk⟩


/-! ===== the reference: two throws, greedily, drums ===== -/
theorem amC_at {f : Nat → Int} {s : Nat} {p : Int × Int} : ∀ k, amC f s k p = p ∨ ∃ c, c < k ∧ amC f s k p = (((10 * s + c : Nat) : Int), f c)
  | 0 => Or.inl rfl
  | k + 1 => by
    unfold amC
    split
    · exact Or.inr ⟨k, by omega, rfl⟩
    · rcases amC_at k with h | ⟨c, hc, h⟩
      · exact Or.inl h
      · exact Or.inr ⟨c, by omega, h⟩
theorem amA_at {f : Nat → Nat → Int} {lim : Nat → Nat} {p : Int × Int} : ∀ k, amA f lim k p = p ∨ ∃ a c, a < k ∧ c ≤ lim a ∧ amA f lim k p = (((10 * a + c : Nat) : Int), f a c)
  | 0 => Or.inl rfl
  | k + 1 => by
    unfold amA
    rcases amC_at (f := f k) (s := k) (p := amA f lim k p) (lim k + 1) with h | ⟨c, hc, h⟩
    · rcases amA_at k with h2 | ⟨a, c, ha, hc, h2⟩
      · exact Or.inl (h.trans h2)
      · exact Or.inr ⟨a, c, by omega, hc, h.trans h2⟩
    · exact Or.inr ⟨k, c, by omega, by omega, h⟩
theorem amC_ge {f : Nat → Int} {s : Nat} {p : Int × Int} : ∀ k, p.2 ≤ (amC f s k p).2 ∧ ∀ c, c < k → f c ≤ (amC f s k p).2
  | 0 => ⟨Int.le_refl _, fun c hc => by omega⟩
  | k + 1 => by
    obtain ⟨h1, h2⟩ := amC_ge (f := f) (s := s) (p := p) k
    unfold amC
    split
    · refine ⟨by show p.2 ≤ f k; omega, fun c hc => ?_⟩
      show f c ≤ f k
      rcases Nat.lt_or_ge c k with h | h
      · have := h2 c h; omega
      · rw [show c = k by omega]; exact Int.le_refl _
    · refine ⟨h1, fun c hc => ?_⟩
      rcases Nat.lt_or_ge c k with h | h
      · exact h2 c h
      · rw [show c = k by omega]; omega
theorem bst_at {V : Vm} (hw : WF V) : ((bst V) = (-4, -1000000000) ∧ V 10 1 = 0) ∨ ∃ a c, a < V 10 1 ∧ c ≤ vFl V a ∧ bst V = (((10 * a + c : Nat) : Int), gn V a c) := by
  rcases amA_at (f := gn V) (lim := vFl V) (p := (-4, -1000000000)) (V 10 1) with h | h
  · refine Or.inl ⟨h, ?_⟩
    cases hs : V 10 1 with
    | zero => rfl
    | succ k =>
      exfalso
      have hb : bst V = amC (gn V k) k (vFl V k + 1) (amA (gn V) (vFl V) k (-4, -1000000000)) := by unfold bst; rw [hs, amA]
      have h1 := (amC_ge (f := gn V k) (s := k) (p := amA (gn V) (vFl V) k (-4, -1000000000)) (vFl V k + 1)).2 0 (by omega)
      rw [← hb] at h1
      have h2 : (bst V).2 = -1000000000 := by unfold bst; rw [h]
      have := gn_b hw (show k < V 10 1 by omega) (show 0 < 8 by omega)
      omega
  · exact Or.inr h
theorem thr_10 {V : Vm} {n m i : Nat} (h : i ≠ 2) : thr V n m 10 i = V 10 i := by
  cases ht : tak V n m with
  | none => rw [fin_none ht]; unfold fin; rw [if_neg (by omega), if_neg (by omega)]
  | some e => rw [fin_crd ht]; unfold fin; rw [if_neg (by omega), if_neg (by omega), crd_10]
theorem thr_8 {V : Vm} {n m t i : Nat} (h : t = 8 ∨ t = 9) : thr V n m t i = V t i := by
  cases ht : tak V n m with
  | none => rw [fin_none ht]; unfold fin; rw [if_neg (by omega), if_neg (by omega)]
  | some e => rw [fin_crd ht]; unfold fin crd; rw [if_neg (by omega), if_neg (by omega), uV_ne (by omega), uV_ne (by omega), uV_ne (by omega), uV_ne (by omega), uV_ne (by omega)]
def twoV (V : Vm) (a c : Nat) : Int := gn V a c + (bst (thr V a c)).2
def two (V : Vm) : Int × Int := amA (twoV V) (vFl V) (V 10 1) (0, -1000000000)
theorem twoV_b {V : Vm} {a c : Nat} (hw : WF V) (ha : a < V 10 1) (hc : c < 8) : twoV V a c ≤ 108 ∧ -68 ≤ twoV V a c ∧ -34 ≤ (bst (thr V a c)).2 ∧ (bst (thr V a c)).2 ≤ 54 := by
  have h1 := gn_b hw ha hc
  have h2 : (bst (thr V a c)).2 ≤ 54 ∧ -34 ≤ (bst (thr V a c)).2 := by
    have hw2 := WF_thr (n := a) hw hc
    rcases bst_at hw2 with ⟨_, h⟩ | ⟨a2, c2, h3, h4, h5⟩
    · rw [thr_10 (by omega)] at h; omega
    · rw [h5]
      have hf : vFl (thr V a c) a2 ≤ 7 := fly_le _
      exact gn_b hw2 h3 (by omega)
  unfold twoV
  omega
theorem two_b {V : Vm} (hw : WF V) : ∀ a, a ≤ V 10 1 → -1000000000 ≤ (amA (twoV V) (vFl V) a (0, -1000000000)).2 ∧ (amA (twoV V) (vFl V) a (0, -1000000000)).2 ≤ 108 ∧ -4 ≤ (amA (twoV V) (vFl V) a (0, -1000000000)).1 ∧ (amA (twoV V) (vFl V) a (0, -1000000000)).1 ≤ 67 := by
  have h7 := hw.2.1
  refine amA_b (n := V 10 1) h7 (fun s _ => fly_le _) (fun s k hs hk => ?_) (by simp) (by simp) (by simp) (by simp)
  have hf : vFl V s ≤ 7 := fly_le _
  have := twoV_b hw hs (show k < 8 by omega)
  omega
def R_twoThrows (V : Vm) (w : Int32) : Int32 := if ¬ w01 w then 1000000001 else if V 10 1 = 0 then 1000000004 else if w = 0 then iI (two V).2 else iI (two V).1
def S_X11_twoThrows (w : Int32) (h : AH) (K : Int32 → AH → Prop) : Prop := ∃ V, RV (h.1 16 0) V ∧ WF V ∧ ∀ h', keepM h h' → K (R_twoThrows V w) h'
def T_X11_twoThrows : List AV → AH → (Int32 → AH → Prop) → Prop := fun as h K => match as with
  | [.inr (.inr (.inl q0)), .inl q1] => tif (Nat.beq q0.1 15 && Nat.beq q0.2 0) (S_X11_twoThrows q1 h K)
  | _ => False

def M_X11_twoThrows : MI := (RX11, cX11_twoThrows, 8, [(0, .iload_n 1, []), (1, .iconst 0, []), (2, .iconst 1, []), (3, .invokestatic 53, []), (6, .ifCond .ne 6, [12]), (9, .ldc 180, []), (11, .ireturn, []), (12, .aload_n 0, []), (13, .getfield 9, []), (16, .iconst 1, []), (17, .iaload, []), (18, .ifCond .ne 6, [24]), (21, .ldc 179, []), (23, .ireturn, []), (24, .iconst 0, []), (25, .istore_n 2, []), (26, .ldc 171, []), (28, .istore_n 3, []), (29, .iconst 0, []), (30, .istore 4, []), (32, .iload 4, []), (34, .aload_n 0, []), (35, .getfield 9, []), (38, .iconst 1, []), (39, .iaload, []), (40, .if_icmp .ge 107, [147]), (43, .iconst 0, []), (44, .istore 5, []), (46, .iload 5, []), (48, .aload_n 0, []), (49, .getfield 9, []), (52, .iload 4, []), (54, .invokestatic 135, []), (57, .if_icmp .gt 84, [141]), (60, .aload_n 0, []), (61, .getfield 9, []), (64, .aload_n 0, []), (65, .getfield 13, []), (68, .invokestatic 148, []), (71, .aload_n 0, []), (72, .getfield 13, []), (75, .iload 4, []), (77, .iload 5, []), (79, .invokestatic 138, []), (82, .aload_n 0, []), (83, .getfield 9, []), (86, .iload 4, []), (88, .invokestatic 158, []), (91, .isub, []), (92, .istore 6, []), (94, .aload_n 0, []), (95, .aload_n 0, []), (96, .getfield 13, []), (99, .invokevirtual 175, []), (102, .istore 7, []), (104, .iload 6, []), (106, .aload_n 0, []), (107, .getfield 172, []), (110, .iadd, []), (111, .iload_n 3, []), (112, .if_icmp .gt 6, [118]), (115, .goto 20, [135]), (118, .iload 6, []), (120, .aload_n 0, []), (121, .getfield 172, []), (124, .iadd, []), (125, .istore_n 3, []), (126, .bipush 10, []), (128, .iload 4, []), (130, .imul, []), (131, .iload 5, []), (133, .iadd, []), (134, .istore_n 2, []), (135, .iinc 5 1, []), (138, .goto (-92), [46]), (141, .iinc 4 1, []), (144, .goto (-112), [32]), (147, .iload_n 1, []), (148, .ifCond .ne 7, [155]), (151, .iload_n 3, []), (152, .goto 4, [156]), (155, .iload_n 2, []), (156, .ireturn, [])], [(9, (15, 0, 1, 16, 0)), (13, (15, 1, 1, 16, 1)), (172, (15, 10, 0, 0, 0))], [(180, 1000000001), (179, 1000000004), (171, (-1000000000))], [], [(160, (3, 1, 22, 0, 0, .inl T_X11_isIn)), (406, (2, 2, 42, 0, 0, .inl T_X11_flies)), (445, (2, 1, 22, 0, 0, .inr (.inl T_X11_copies))), (415, (3, 5, 116, 0, 0, .inl T_X11_throwIn)), (475, (2, 2, 43, 0, 0, .inl T_X11_price)), (525, (2, 7, 164, 0, 0, .inl T_X11_bestBy))], 7, 164, 0, 0)
theorem ok_X11_twoThrows : MOK M_X11_twoThrows := ⟨by decide +kernel, List.forall_mem_cons.mpr ⟨fl_RX11_9, List.forall_mem_cons.mpr ⟨fl_RX11_13, List.forall_mem_cons.mpr ⟨fl_RX11_172, fun _ h => absurd h List.not_mem_nil⟩⟩⟩, List.forall_mem_cons.mpr ⟨(inG (i := 1167) (w := Cond.constant RX11 180 1000000001) (by decide +kernel) rfl), List.forall_mem_cons.mpr ⟨(inG (i := 1158) (w := Cond.constant RX11 179 1000000004) (by decide +kernel) rfl), List.forall_mem_cons.mpr ⟨(inG (i := 1153) (w := Cond.constant RX11 171 (-1000000000)) (by decide +kernel) rfl), fun _ h => absurd h List.not_mem_nil⟩⟩⟩, fun _ h => absurd h List.not_mem_nil, List.forall_mem_cons.mpr ⟨⟨Nat.le_of_ble_eq_true rfl, Nat.le_of_ble_eq_true rfl, cr_RX11_160⟩, List.forall_mem_cons.mpr ⟨⟨Nat.le_of_ble_eq_true rfl, Nat.le_of_ble_eq_true rfl, cr_RX11_406⟩, List.forall_mem_cons.mpr ⟨⟨Nat.le_of_ble_eq_true rfl, Nat.le_of_ble_eq_true rfl, cr_RX11_445⟩, List.forall_mem_cons.mpr ⟨⟨Nat.le_of_ble_eq_true rfl, Nat.le_of_ble_eq_true rfl, cr_RX11_415⟩, List.forall_mem_cons.mpr ⟨⟨Nat.le_of_ble_eq_true rfl, Nat.le_of_ble_eq_true rfl, cr_RX11_475⟩, List.forall_mem_cons.mpr ⟨⟨Nat.le_of_ble_eq_true rfl, Nat.le_of_ble_eq_true rfl, cr_RX11_525⟩, fun _ h => absurd h List.not_mem_nil⟩⟩⟩⟩⟩⟩⟩
set_option maxRecDepth 100000 in
theorem vc_X11_twoThrows {K : Int32 → AH → Prop} {h : AH} (p1 : Int32) (H : S_X11_isIn p1 (nI 0) (nI 1) h (fun x2 h1 => ((¬ x2 = 0) → inR (nI 1) 62 ∧ ((¬ (h1.1 16 0 (nI 1).toNatClampNeg) = 0) → AW M_X11_twoThrows (.inl K) 32 [some (aR 15 0), some (aI p1), some (aI (nI 0)), some (aI (-1000000000 : Int32)), some (aI (nI 0)), none, none, none] [] h1 0 0) ∧ (¬ (¬ (h1.1 16 0 (nI 1).toNatClampNeg) = 0) → K (1000000004 : Int32) h1)) ∧ (¬ (¬ x2 = 0) → K (1000000001 : Int32) h1))) : AW M_X11_twoThrows (.inl K) 0 [some (aR 15 0), some (aI p1), none, none, none, none, none, none] [] h 0 0 := AW_go (cuts := [(32, [true, true, true, true, true, false, false, false]), (46, [true, true, true, true, true, true, false, false])]) ok_X11_twoThrows 400 H
set_option maxRecDepth 100000 in
theorem vc_X11_twoThrows_32 {K : Int32 → AH → Prop} {h : AH}  (l1 : Int32) (l2 : Int32) (l3 : Int32) (l4 : Int32) (H : inR (nI 1) 62 ∧ (((h.1 16 0 (nI 1).toNatClampNeg) ≤ l4) → ((¬ l1 = 0) → K l2 h) ∧ (¬ (¬ l1 = 0) → K l3 h)) ∧ (¬ ((h.1 16 0 (nI 1).toNatClampNeg) ≤ l4) → AW M_X11_twoThrows (.inl K) 46 [some (aR 15 0), some (aI l1), some (aI l2), some (aI l3), some (aI l4), some (aI (nI 0)), none, none] [] h 0 0)) : AW M_X11_twoThrows (.inl K) 32 [some (aR 15 0), some (aI l1), some (aI l2), some (aI l3), some (aI l4), none, none, none] [] h 0 0 := AW_go (cuts := [(32, [true, true, true, true, true, false, false, false]), (46, [true, true, true, true, true, true, false, false])]) ok_X11_twoThrows 400 H
set_option maxRecDepth 100000 in
theorem vc_X11_twoThrows_46 {K : Int32 → AH → Prop} {h : AH}  (l1 : Int32) (l2 : Int32) (l3 : Int32) (l4 : Int32) (l5 : Int32) (H : S_X11_flies 0 l4 h (fun x2 h1 => ((x2 < l5) → AW M_X11_twoThrows (.inl K) 32 [some (aR 15 0), some (aI l1), some (aI l2), some (aI l3), some (aI (l4 + (nI 1))), none, none, none] [] h1 0 0) ∧ (¬ (x2 < l5) → S_X11_copies 0 1 h1 (fun h3 => S_X11_throwIn 1 l4 l5 h3 (fun x5 h4 => S_X11_price 0 l4 h4 (fun x7 h6 => S_X11_bestBy 1 h6 (fun x9 h8 => ((l3 < ((x5 - x7) + (h8.1 15 0 10))) → AW M_X11_twoThrows (.inl K) 46 [some (aR 15 0), some (aI l1), some (aI (((nI 10) * l4) + l5)), some (aI ((x5 - x7) + (h8.1 15 0 10))), some (aI l4), some (aI (l5 + (nI 1))), none, none] [] h8 0 0) ∧ (¬ (l3 < ((x5 - x7) + (h8.1 15 0 10))) → AW M_X11_twoThrows (.inl K) 46 [some (aR 15 0), some (aI l1), some (aI l2), some (aI l3), some (aI l4), some (aI (l5 + (nI 1))), none, none] [] h8 0 0)))))))) : AW M_X11_twoThrows (.inl K) 46 [some (aR 15 0), some (aI l1), some (aI l2), some (aI l3), some (aI l4), some (aI l5), none, none] [] h 0 0 := AW_go (cuts := [(32, [true, true, true, true, true, false, false, false]), (46, [true, true, true, true, true, true, false, false])]) ok_X11_twoThrows 400 H

theorem lp_X11_twoThrows {V : Vm} {w : Int32} {h0 : AH} {K : Int32 → AH → Prop} (hr : RV (h0.1 16 0) V) (hw : WF V) (k : ∀ h', keepM h0 h' → K (if w = 0 then iI (two V).2 else iI (two V).1) h') : ∀ r a h, a + r = V 10 1 → keepM h0 h → AW M_X11_twoThrows (.inl K) 32 [some (aR 15 0), some (aI w), some (aI (iI (amA (twoV V) (vFl V) a (0, -1000000000)).1)), some (aI (iI (amA (twoV V) (vFl V) a (0, -1000000000)).2)), some (aI (nI a)), none, none, none] [] h 0 0 := by
  have h7 := hw.2.1
  intro r
  induction r with
  | zero =>
    intro a h ha h1
    refine vc_X11_twoThrows_32 w _ _ (nI a) ?_
    obtain ⟨-, -, -, -, -, -, -, -, -, -, -, e1, -, -⟩ := RVs hr
    rw [← keepM_r0 h1] at e1
    simp (disch := omega) only [n_inT, n_cl, true_and, e1, n_le]
    have : a = V 10 1 := by omega
    subst this
    have := k h h1
    refine ⟨fun _ => ⟨fun q => ?_, fun q => ?_⟩, fun q => absurd (by omega) q⟩
    · rw [if_neg q] at this; exact this
    · rw [if_pos (Decidable.not_not.mp q)] at this; exact this
  | succ r ih =>
    intro a h ha h1
    refine vc_X11_twoThrows_32 w _ _ (nI a) ?_
    obtain ⟨-, -, -, -, -, -, -, -, -, -, -, e1, -, -⟩ := RVs hr
    rw [← keepM_r0 h1] at e1
    simp (disch := omega) only [n_inT, n_cl, true_and, e1, n_le]
    refine ⟨fun q => by omega, fun _ => ?_⟩
    have hf : vFl V a ≤ 7 := fly_le _
    have hpr : vPr V a ≤ 34 := prc_le (hw.2.2.2.2.2.2 a (by omega)).2
    obtain ⟨b1, b2, b3, b4⟩ := two_b hw a (by omega)
    have bC := amC_b (s := a) (n := vFl V a + 1) (f := twoV V a) (p := amA (twoV V) (vFl V) a (0, -1000000000)) (A := -1000000000) (B := 108) (by omega) (by omega) (fun c hc => by have := twoV_b hw (show a < V 10 1 by omega) (show c < 8 by omega); omega) b1 b2 b3 b4
    have inner : ∀ r2 c h, c + r2 = vFl V a + 1 → keepM h0 h → AW M_X11_twoThrows (.inl K) 46 [some (aR 15 0), some (aI w), some (aI (iI (amC (twoV V a) a c (amA (twoV V) (vFl V) a (0, -1000000000))).1)), some (aI (iI (amC (twoV V a) a c (amA (twoV V) (vFl V) a (0, -1000000000))).2)), some (aI (nI a)), some (aI (nI c)), none, none] [] h 0 0 := by
      intro r2
      induction r2 with
      | zero =>
        intro c h hc h1
        refine vc_X11_twoThrows_46 w _ _ (nI a) (nI c) ?_
        have hr' := hr
        rw [← keepM_r0 h1] at hr'
        refine ⟨V, a, ⟨hr', hw, by omega, rfl⟩, ?_⟩
        simp (disch := omega) only [n_lt, nI_add]
        refine ⟨fun _ => ?_, fun q => absurd (by omega) q⟩
        have : c = vFl V a + 1 := by omega
        subst this
        exact ih (a + 1) h (by omega) h1
      | succ r2 ih2 =>
        intro c h hc h1
        refine vc_X11_twoThrows_46 w _ _ (nI a) (nI c) ?_
        have hr' := hr
        rw [← keepM_r0 h1] at hr'
        refine ⟨V, a, ⟨hr', hw, by omega, rfl⟩, ?_⟩
        simp (disch := omega) only [n_lt, nI_add, pk_mul]
        refine ⟨fun q => by omega, fun _ => ⟨by decide, fun h3 o3 c3 => ?_⟩⟩
        have k3 := keepM_tr h1 (keepM_o (by decide) (by decide) o3)
        refine ⟨V, a, c, ⟨RV_cp hw hr' c3, hw, by omega, rfl⟩, by omega, rfl, fun h4 o4 q4 => ?_⟩
        have k4 := keepM_tr k3 (keepM_o (by decide) (by decide) o4)
        have hr4 := hr
        rw [← keepM_r0 k4] at hr4
        have hw4 : WF (thr V a c) := WF_thr hw (by omega)
        refine ⟨V, a, ⟨hr4, hw, by omega, rfl⟩, thr V a c, q4, hw4, by decide, fun h5 o5 e5 => ?_⟩
        have k5 := keepM_tr k4 (keepM_B o5)
        have ht := twoV_b hw (show a < V 10 1 by omega) (show c < 8 by omega)
        have hg := gn_b hw (show a < V 10 1 by omega) (show c < 8 by omega)
        obtain ⟨c1, c2, c3, c4⟩ := bC c (by omega)
        have := ih2 (c + 1) h5 (by omega) k5
        rw [amC] at this
        dsimp only
        rw [e5, n_subI, show (brg V a c : Int) - (vPr V a : Int) = gn V a c from rfl, i_add, show gn V a c + (bst (thr V a c)).2 = twoV V a c from rfl, i_lt (by omega) (by omega) (by omega) (by omega)]
        refine ⟨fun q => ?_, fun q => ?_⟩
        · rw [if_pos q] at this
          rw [nI_iI (10 * a + c)]
          exact this
        · rw [if_neg q] at this
          exact this
    exact inner (vFl V a + 1) 0 h (by omega) h1
theorem snd_X11_twoThrows (w : Int32) {h : AH} {K : Int32 → AH → Prop} (k : S_X11_twoThrows w h K) : AW M_X11_twoThrows (.inl K) 0 [some (aR 15 0), some (aI w), none, none, none, none, none, none] [] h 0 0 := by
  obtain ⟨V, hr, hw, k⟩ := k
  have h7 := hw.2.1
  refine vc_X11_twoThrows w ?_
  unfold S_X11_isIn
  simp only [if10_eq]
  unfold R_twoThrows at k
  obtain ⟨-, -, -, -, -, -, -, -, -, -, -, e1, -, -⟩ := RVs hr
  simp (disch := omega) only [n_inT, n_cl, true_and, e1, n_eq0]
  refine ⟨fun q => ⟨fun q2 => ?_, fun q2 => ?_⟩, fun q => ?_⟩
  · rw [if_neg (fun z => z (Decidable.not_not.mp q)), if_neg q2] at k
    rw [i_far]
    exact lp_X11_twoThrows hr hw k (V 10 1) 0 h (by omega) (keepM_rfl h)
  · rw [if_neg (fun z => z (Decidable.not_not.mp q)), if_pos (Decidable.not_not.mp q2)] at k
    exact k h (keepM_rfl h)
  · rw [if_pos (fun z => q (fun y => y z))] at k
    exact k h (keepM_rfl h)
theorem tr_X11_twoThrows : ∀ (as : List AV) (h : AH) (K : Int32 → AH → Prop), T_X11_twoThrows as h K → ∃ (q : Nat) (r : List AV), as = aR 15 q :: r := by
  intro as h K hk
  match as, hk with
  | [.inr (.inr (.inl q0)), .inl q1], hk =>
    obtain ⟨hb, hk⟩ := tif_inv hk
    simp only [Bool.and_eq_true] at hb
    obtain ⟨e0, e1⟩ := hb
    obtain ⟨a0, b0⟩ := q0
    have f0 : a0 = 15 := Nat.eq_of_beq_eq_true e0
    subst f0
    have f1 : b0 = 0 := Nat.eq_of_beq_eq_true e1
    subst f1
    exact ⟨_, _, rfl⟩
theorem tw_X11_twoThrows : ∀ (as : List AV) (h : AH) (K : Int32 → AH → Prop), T_X11_twoThrows as h K → (ini as).length ≤ mNL M_X11_twoThrows ∧ AW M_X11_twoThrows (.inl K) 0 (initL (mNL M_X11_twoThrows) as) [] h 0 0 := by
  intro as h K hk
  match as, hk with
  | [.inr (.inr (.inl q0)), .inl q1], hk =>
    obtain ⟨hb, hk⟩ := tif_inv hk
    simp only [Bool.and_eq_true] at hb
    obtain ⟨e0, e1⟩ := hb
    obtain ⟨a0, b0⟩ := q0
    have f0 : a0 = 15 := Nat.eq_of_beq_eq_true e0
    subst f0
    have f1 : b0 = 0 := Nat.eq_of_beq_eq_true e1
    subst f1
    exact ⟨Nat.le_of_ble_eq_true rfl, snd_X11_twoThrows q1 hk⟩

def grd : Nat → Vm → Int × Nat
  | 0, _ => (0, 0)
  | n + 1, V => if (bst V).1 < 0 ∨ (bst V).2 ≤ 0 then (0, 0) else ((bst V).2 + (grd n (thr V ((bst V).1.toNat / 10) ((bst V).1.toNat % 10))).1, (grd n (thr V ((bst V).1.toNat / 10) ((bst V).1.toNat % 10))).2 + 1)
def R_greedily (V : Vm) (n w : Int32) : Int32 := if ¬ (nI 0 ≤ n ∧ n ≤ nI 20) ∨ ¬ w01 w then iI (-1) else if w = 0 then iI (grd (nN n) V).1 else nI (grd (nN n) V).2
def S_X11_greedily (n w : Int32) (h : AH) (K : Int32 → AH → Prop) : Prop := ∃ V, RV (h.1 16 0) V ∧ WF V ∧ ∀ h', keepM h h' → K (R_greedily V n w) h'
def T_X11_greedily : List AV → AH → (Int32 → AH → Prop) → Prop := fun as h K => match as with
  | [.inr (.inr (.inl q0)), .inl q1, .inl q2] => tif (Nat.beq q0.1 15 && Nat.beq q0.2 0) (S_X11_greedily q1 q2 h K)
  | _ => False

def M_X11_greedily : MI := (RX11, cX11_greedily, 7, [(0, .iload_n 1, []), (1, .iconst 0, []), (2, .bipush 20, []), (4, .invokestatic 53, []), (7, .ifCond .eq 12, [19]), (10, .iload_n 2, []), (11, .iconst 0, []), (12, .iconst 1, []), (13, .invokestatic 53, []), (16, .ifCond .ne 5, [21]), (19, .iconst (-1), []), (20, .ireturn, []), (21, .aload_n 0, []), (22, .getfield 9, []), (25, .aload_n 0, []), (26, .getfield 13, []), (29, .invokestatic 148, []), (32, .iconst 0, []), (33, .istore_n 3, []), (34, .iconst 0, []), (35, .istore 4, []), (37, .aload_n 0, []), (38, .aload_n 0, []), (39, .getfield 13, []), (42, .invokevirtual 175, []), (45, .istore 5, []), (47, .iload 4, []), (49, .iload_n 1, []), (50, .if_icmp .ge 57, [107]), (53, .iload 5, []), (55, .ifCond .lt 52, [107]), (58, .aload_n 0, []), (59, .getfield 172, []), (62, .ifCond .le 45, [107]), (65, .iload_n 3, []), (66, .aload_n 0, []), (67, .getfield 172, []), (70, .iadd, []), (71, .istore_n 3, []), (72, .iinc 4 1, []), (75, .aload_n 0, []), (76, .getfield 13, []), (79, .iload 5, []), (81, .bipush 10, []), (83, .idiv, []), (84, .iload 5, []), (86, .bipush 10, []), (88, .irem, []), (89, .invokestatic 138, []), (92, .istore 6, []), (94, .aload_n 0, []), (95, .aload_n 0, []), (96, .getfield 13, []), (99, .invokevirtual 175, []), (102, .istore 5, []), (104, .goto (-57), [47]), (107, .iload_n 2, []), (108, .ifCond .ne 7, [115]), (111, .iload_n 3, []), (112, .goto 5, [117]), (115, .iload 4, []), (117, .ireturn, [])], [(9, (15, 0, 1, 16, 0)), (13, (15, 1, 1, 16, 1)), (172, (15, 10, 0, 0, 0))], [], [], [(160, (3, 1, 22, 0, 0, .inl T_X11_isIn)), (445, (2, 1, 22, 0, 0, .inr (.inl T_X11_copies))), (525, (2, 7, 164, 0, 0, .inl T_X11_bestBy)), (415, (3, 5, 116, 0, 0, .inl T_X11_throwIn))], 7, 164, 0, 0)
theorem ok_X11_greedily : MOK M_X11_greedily := ⟨by decide +kernel, List.forall_mem_cons.mpr ⟨fl_RX11_9, List.forall_mem_cons.mpr ⟨fl_RX11_13, List.forall_mem_cons.mpr ⟨fl_RX11_172, fun _ h => absurd h List.not_mem_nil⟩⟩⟩, fun _ h => absurd h List.not_mem_nil, fun _ h => absurd h List.not_mem_nil, List.forall_mem_cons.mpr ⟨⟨Nat.le_of_ble_eq_true rfl, Nat.le_of_ble_eq_true rfl, cr_RX11_160⟩, List.forall_mem_cons.mpr ⟨⟨Nat.le_of_ble_eq_true rfl, Nat.le_of_ble_eq_true rfl, cr_RX11_445⟩, List.forall_mem_cons.mpr ⟨⟨Nat.le_of_ble_eq_true rfl, Nat.le_of_ble_eq_true rfl, cr_RX11_525⟩, List.forall_mem_cons.mpr ⟨⟨Nat.le_of_ble_eq_true rfl, Nat.le_of_ble_eq_true rfl, cr_RX11_415⟩, fun _ h => absurd h List.not_mem_nil⟩⟩⟩⟩⟩
set_option maxRecDepth 100000 in
theorem vc_X11_greedily {K : Int32 → AH → Prop} {h : AH} (p1 : Int32) (p2 : Int32) (H : S_X11_isIn p1 (nI 0) (nI 20) h (fun x2 h1 => ((x2 = 0) → K (iI (-1)) h1) ∧ (¬ (x2 = 0) → S_X11_isIn p2 (nI 0) (nI 1) h1 (fun x4 h3 => ((¬ x4 = 0) → S_X11_copies 0 1 h3 (fun h5 => S_X11_bestBy 1 h5 (fun x7 h6 => AW M_X11_greedily (.inl K) 47 [some (aR 15 0), some (aI p1), some (aI p2), some (aI (nI 0)), some (aI (nI 0)), some (aI x7), none] [] h6 0 0))) ∧ (¬ (¬ x4 = 0) → K (iI (-1)) h3))))) : AW M_X11_greedily (.inl K) 0 [some (aR 15 0), some (aI p1), some (aI p2), none, none, none, none] [] h 0 0 := AW_go (cuts := [(47, [true, true, true, true, true, true, false])]) ok_X11_greedily 400 H
set_option maxRecDepth 100000 in
theorem vc_X11_greedily_47 {K : Int32 → AH → Prop} {h : AH}  (l1 : Int32) (l2 : Int32) (l3 : Int32) (l4 : Int32) (l5 : Int32) (H : ((l1 ≤ l4) → ((¬ l2 = 0) → K l4 h) ∧ (¬ (¬ l2 = 0) → K l3 h)) ∧ (¬ (l1 ≤ l4) → ((l5 < 0) → ((¬ l2 = 0) → K l4 h) ∧ (¬ (¬ l2 = 0) → K l3 h)) ∧ (¬ (l5 < 0) → (((h.1 15 0 10) ≤ 0) → ((¬ l2 = 0) → K l4 h) ∧ (¬ (¬ l2 = 0) → K l3 h)) ∧ (¬ ((h.1 15 0 10) ≤ 0) → (¬ (nI 10) = 0) ∧ (¬ (nI 10) = 0) ∧ S_X11_throwIn 1 (l5 / (nI 10)) (l5 - l5 / (nI 10) * (nI 10)) h (fun x2 h1 => S_X11_bestBy 1 h1 (fun x4 h3 => AW M_X11_greedily (.inl K) 47 [some (aR 15 0), some (aI l1), some (aI l2), some (aI (l3 + (h.1 15 0 10))), some (aI (l4 + (nI 1))), some (aI x4), none] [] h3 0 0)))))) : AW M_X11_greedily (.inl K) 47 [some (aR 15 0), some (aI l1), some (aI l2), some (aI l3), some (aI l4), some (aI l5), none] [] h 0 0 := AW_go (cuts := [(47, [true, true, true, true, true, true, false])]) ok_X11_greedily 400 H

theorem lp_X11_greedily {w : Int32} {h0 : AH} {K : Int32 → AH → Prop} {N : Nat} (hN : N ≤ 20) : ∀ r W A B h, B + r = N → 0 ≤ A → A ≤ 54 * (B : Int) → WF W → RV (h.1 16 1) W → h.1 15 0 10 = iI (bst W).2 → keepM h0 h → (∀ h', keepM h0 h' → K (if w = 0 then iI (A + (grd r W).1) else nI (B + (grd r W).2)) h') → AW M_X11_greedily (.inl K) 47 [some (aR 15 0), some (aI (nI N)), some (aI w), some (aI (iI A)), some (aI (nI B)), some (aI (iI (bst W).1)), none] [] h 0 0 := by
  intro r
  induction r with
  | zero =>
    intro W A B h hB hA hA2 hw hr he hk k
    refine vc_X11_greedily_47 (nI N) w (iI A) (nI B) (iI (bst W).1) ?_
    have := k h hk
    rw [grd] at this
    simp (disch := omega) only [n_le]
    simp only [Int.add_zero, Nat.add_zero] at this
    refine ⟨fun _ => ⟨fun q => ?_, fun q => ?_⟩, fun q => absurd (by omega) q⟩
    · rw [if_neg q] at this; exact this
    · rw [if_pos (Decidable.not_not.mp q)] at this; exact this
  | succ r ih =>
    intro W A B h hB hA hA2 hw hr he hk k
    refine vc_X11_greedily_47 (nI N) w (iI A) (nI B) (iI (bst W).1) ?_
    have h7 := hw.2.1
    obtain ⟨b1, b2, b3, b4⟩ := bst_b hw _ (Nat.le_refl _)
    have b1 : -1000000000 ≤ (bst W).2 := b1
    have b2 : (bst W).2 ≤ 54 := b2
    have b3 : -4 ≤ (bst W).1 := b3
    have b4 : (bst W).1 ≤ 67 := b4
    have stop : ((bst W).1 < 0 ∨ (bst W).2 ≤ 0) → (¬ w = 0 → K (nI B) h) ∧ (¬ ¬ w = 0 → K (iI A) h) := by
      intro hs
      have := k h hk
      rw [grd, if_pos hs] at this
      simp only [Int.add_zero, Nat.add_zero] at this
      refine ⟨fun q => ?_, fun q => ?_⟩
      · rw [if_neg q] at this; exact this
      · rw [if_pos (Decidable.not_not.mp q)] at this; exact this
    rw [he]
    simp (disch := omega) only [n_le, i_0, i_lt, i_le]
    simp only [← i_0]
    refine ⟨fun q => by omega, fun _ => ⟨fun q => stop (Or.inl q), fun q => ⟨fun q2 => stop (Or.inr q2), fun q2 => ⟨by decide, by decide, ?_⟩⟩⟩⟩
    rcases bst_at hw with ⟨h1, _⟩ | ⟨a, c, ha, hc, hb⟩
    · rw [h1] at q; exact absurd (by decide) q
    have hf : vFl W a ≤ 7 := fly_le _
    have e1 : (bst W).1 = ((10 * a + c : Nat) : Int) := by rw [hb]
    have ex : iI (bst W).1 = nI (10 * a + c) := by rw [e1, nI_iI]
    rw [ex]
    rw [n_rem (show 10 * a + c < 2147483648 by omega) (by omega) (by omega), n_div (show 10 * a + c < 2147483648 by omega) (by omega) (by omega)]
    rw [show (10 * a + c) / 10 = a by omega, show (10 * a + c) % 10 = c by omega]
    have et : (bst W).1.toNat = 10 * a + c := by rw [e1]; rfl
    refine ⟨W, a, c, ⟨hr, hw, ha, rfl⟩, by omega, rfl, fun h2 o2 q2' => ⟨thr W a c, q2', WF_thr hw (by omega), by decide, fun h3 o3 e3 => ?_⟩⟩
    have hg := gn_b hw ha (show c < 8 by omega)
    rw [i_add, nI_add]
    refine ih (thr W a c) (A + (bst W).2) (B + 1) h3 (by omega) (by omega) (by omega) (WF_thr hw (by omega)) (by rw [onlyB_r (by decide) o3]; exact q2') e3 (keepM_tr (keepM_tr hk (keepM_o (by decide) (by decide) o2)) (keepM_B o3)) (fun h' q' => ?_)
    have := k h' q'
    have hng : ¬ ((bst W).1 < 0 ∨ (bst W).2 ≤ 0) := by omega
    rw [grd, if_neg hng, et, show (10 * a + c) / 10 = a by omega, show (10 * a + c) % 10 = c by omega] at this
    rw [show A + (bst W).2 + (grd r (thr W a c)).1 = A + ((bst W).2 + (grd r (thr W a c)).1) by omega, show B + 1 + (grd r (thr W a c)).2 = B + ((grd r (thr W a c)).2 + 1) by omega]
    exact this
theorem snd_X11_greedily (n w : Int32) {h : AH} {K : Int32 → AH → Prop} (k : S_X11_greedily n w h K) : AW M_X11_greedily (.inl K) 0 [some (aR 15 0), some (aI n), some (aI w), none, none, none, none] [] h 0 0 := by
  obtain ⟨V, hr, hw, k⟩ := k
  refine vc_X11_greedily n w ?_
  unfold S_X11_isIn
  simp only [if10_eq]
  unfold R_greedily at k
  refine ⟨fun q => ?_, fun q => ⟨fun q2 => ⟨by decide, fun h2 o2 c2 => ?_⟩, fun q2 => ?_⟩⟩
  · rw [if_pos (Or.inl q)] at k
    exact k h (keepM_rfl h)
  · have q := Decidable.not_not.mp q
    rw [if_neg (by rintro (z | z); exact z q; exact q2 z)] at k
    obtain ⟨i, hi, rfl⟩ := n_of (by omega) q.1 q.2
    unfold nN at k
    rw [n_cl (show i < 2147483648 by omega)] at k
    have hr2 := RV_cp hw hr c2
    refine ⟨V, hr2, hw, by decide, fun h3 o3 e3 => ?_⟩
    have := lp_X11_greedily (w := w) (h0 := h) (K := K) hi i V 0 0 h3 (by omega) (by omega) (by omega) hw (by rw [onlyB_r (by decide) o3]; exact hr2) e3 (keepM_tr (keepM_o (by decide) (by decide) o2) (keepM_B o3)) (fun h' q' => by rw [Int.zero_add, Nat.zero_add]; exact k h' q')
    rw [show iI 0 = nI 0 from rfl] at this
    exact this
  · rw [if_pos (Or.inr (fun z => q2 (fun y => y z)))] at k
    exact k h (keepM_rfl h)
theorem tr_X11_greedily : ∀ (as : List AV) (h : AH) (K : Int32 → AH → Prop), T_X11_greedily as h K → ∃ (q : Nat) (r : List AV), as = aR 15 q :: r := by
  intro as h K hk
  match as, hk with
  | [.inr (.inr (.inl q0)), .inl q1, .inl q2], hk =>
    obtain ⟨hb, hk⟩ := tif_inv hk
    simp only [Bool.and_eq_true] at hb
    obtain ⟨e0, e1⟩ := hb
    obtain ⟨a0, b0⟩ := q0
    have f0 : a0 = 15 := Nat.eq_of_beq_eq_true e0
    subst f0
    have f1 : b0 = 0 := Nat.eq_of_beq_eq_true e1
    subst f1
    exact ⟨_, _, rfl⟩
theorem tw_X11_greedily : ∀ (as : List AV) (h : AH) (K : Int32 → AH → Prop), T_X11_greedily as h K → (ini as).length ≤ mNL M_X11_greedily ∧ AW M_X11_greedily (.inl K) 0 (initL (mNL M_X11_greedily) as) [] h 0 0 := by
  intro as h K hk
  match as, hk with
  | [.inr (.inr (.inl q0)), .inl q1, .inl q2], hk =>
    obtain ⟨hb, hk⟩ := tif_inv hk
    simp only [Bool.and_eq_true] at hb
    obtain ⟨e0, e1⟩ := hb
    obtain ⟨a0, b0⟩ := q0
    have f0 : a0 = 15 := Nat.eq_of_beq_eq_true e0
    subst f0
    have f1 : b0 = 0 := Nat.eq_of_beq_eq_true e1
    subst f1
    exact ⟨Nat.le_of_ble_eq_true rfl, snd_X11_greedily q1 q2 hk⟩


/-! ===== the reference: merchants ===== -/
def aft (V : Vm) (s m : Nat) : Vm := if s = V 10 1 then V else thr V s m
theorem WF_aft {V : Vm} {s m : Nat} (hv : WF V) (hm : m < 8) : WF (aft V s m) := by
  unfold aft
  split
  · exact hv
  · exact WF_thr hv hm
theorem sam_aft (V : Vm) (s m : Nat) : sam V (aft V s m) := by
  unfold aft
  split
  · exact sam_rfl V
  · exact sam_thr V s m
def R_merchants (V : Vm) (c : Int32) : Int32 := if ¬ cel c then iI (-1) else nI (10 * bc V (nN c) + bc (aft V (bc V (nN c)) (nN c)) (nN c))
def S_X11_merchants (c : Int32) (h : AH) (K : Int32 → AH → Prop) : Prop := ∃ V, RV (h.1 16 0) V ∧ WF V ∧ ∀ h', keepM h h' → K (R_merchants V c) h'
def T_X11_merchants : List AV → AH → (Int32 → AH → Prop) → Prop := fun as h K => match as with
  | [.inr (.inr (.inl q0)), .inl q1] => tif (Nat.beq q0.1 15 && Nat.beq q0.2 0) (S_X11_merchants q1 h K)
  | _ => False

def M_X11_merchants : MI := (RX11, cX11_merchants, 5, [(0, .iload_n 1, []), (1, .invokestatic 120, []), (4, .ifCond .ne 5, [9]), (7, .iconst (-1), []), (8, .ireturn, []), (9, .iconst 0, []), (10, .istore_n 2, []), (11, .iload_n 2, []), (12, .aload_n 0, []), (13, .getfield 9, []), (16, .iconst 1, []), (17, .iaload, []), (18, .if_icmp .gt 117, [135]), (21, .iconst 0, []), (22, .istore_n 3, []), (23, .iload_n 3, []), (24, .aload_n 0, []), (25, .getfield 9, []), (28, .iconst 1, []), (29, .iaload, []), (30, .if_icmp .gt 99, [129]), (33, .aload_n 0, []), (34, .iload_n 2, []), (35, .iload_n 1, []), (36, .invokevirtual 213, []), (39, .ifCond .eq 84, [123]), (42, .aload_n 0, []), (43, .iload_n 3, []), (44, .iload_n 1, []), (45, .invokevirtual 213, []), (48, .ifCond .eq 75, [123]), (51, .aload_n 0, []), (52, .aload_n 0, []), (53, .getfield 9, []), (56, .iload_n 2, []), (57, .iload_n 1, []), (58, .invokevirtual 219, []), (61, .ifCond .ne 6, [67]), (64, .goto 59, [123]), (67, .aload_n 0, []), (68, .getfield 9, []), (71, .aload_n 0, []), (72, .getfield 13, []), (75, .invokestatic 148, []), (78, .iload_n 2, []), (79, .aload_n 0, []), (80, .getfield 9, []), (83, .iconst 1, []), (84, .iaload, []), (85, .if_icmp .ne 7, [92]), (88, .iconst 0, []), (89, .goto 12, [101]), (92, .aload_n 0, []), (93, .getfield 13, []), (96, .iload_n 2, []), (97, .iload_n 1, []), (98, .invokestatic 138, []), (101, .istore 4, []), (103, .aload_n 0, []), (104, .aload_n 0, []), (105, .getfield 13, []), (108, .iload_n 3, []), (109, .iload_n 1, []), (110, .invokevirtual 219, []), (113, .ifCond .eq 10, [123]), (116, .bipush 10, []), (118, .iload_n 2, []), (119, .imul, []), (120, .iload_n 3, []), (121, .iadd, []), (122, .ireturn, []), (123, .iinc 3 1, []), (126, .goto (-103), [23]), (129, .iinc 2 1, []), (132, .goto (-121), [11]), (135, .bipush (-4), []), (137, .ireturn, [])], [(9, (15, 0, 1, 16, 0)), (13, (15, 1, 1, 16, 1))], [], [], [(361, (1, 2, 42, 0, 0, .inl T_X11_isCell)), (639, (3, 3, 64, 0, 0, .inl T_X11_isChoice)), (657, (4, 8, 186, 0, 0, .inl T_X11_isBest)), (445, (2, 1, 22, 0, 0, .inr (.inl T_X11_copies))), (415, (3, 5, 116, 0, 0, .inl T_X11_throwIn))], 8, 186, 0, 0)
theorem ok_X11_merchants : MOK M_X11_merchants := ⟨by decide +kernel, List.forall_mem_cons.mpr ⟨fl_RX11_9, List.forall_mem_cons.mpr ⟨fl_RX11_13, fun _ h => absurd h List.not_mem_nil⟩⟩, fun _ h => absurd h List.not_mem_nil, fun _ h => absurd h List.not_mem_nil, List.forall_mem_cons.mpr ⟨⟨Nat.le_of_ble_eq_true rfl, Nat.le_of_ble_eq_true rfl, cr_RX11_361⟩, List.forall_mem_cons.mpr ⟨⟨Nat.le_of_ble_eq_true rfl, Nat.le_of_ble_eq_true rfl, cr_RX11_639⟩, List.forall_mem_cons.mpr ⟨⟨Nat.le_of_ble_eq_true rfl, Nat.le_of_ble_eq_true rfl, cr_RX11_657⟩, List.forall_mem_cons.mpr ⟨⟨Nat.le_of_ble_eq_true rfl, Nat.le_of_ble_eq_true rfl, cr_RX11_445⟩, List.forall_mem_cons.mpr ⟨⟨Nat.le_of_ble_eq_true rfl, Nat.le_of_ble_eq_true rfl, cr_RX11_415⟩, fun _ h => absurd h List.not_mem_nil⟩⟩⟩⟩⟩⟩
set_option maxRecDepth 100000 in
theorem vc_X11_merchants {K : Int32 → AH → Prop} {h : AH} (p1 : Int32) (H : S_X11_isCell p1 h (fun x2 h1 => ((¬ x2 = 0) → AW M_X11_merchants (.inl K) 11 [some (aR 15 0), some (aI p1), some (aI (nI 0)), none, none] [] h1 0 0) ∧ (¬ (¬ x2 = 0) → K (iI (-1)) h1))) : AW M_X11_merchants (.inl K) 0 [some (aR 15 0), some (aI p1), none, none, none] [] h 0 0 := AW_go (cuts := [(11, [true, true, true, false, false]), (23, [true, true, true, true, false])]) ok_X11_merchants 400 H
set_option maxRecDepth 100000 in
theorem vc_X11_merchants_11 {K : Int32 → AH → Prop} {h : AH}  (l1 : Int32) (l2 : Int32) (H : inR (nI 1) 62 ∧ (((h.1 16 0 (nI 1).toNatClampNeg) < l2) → K (iI (-4)) h) ∧ (¬ ((h.1 16 0 (nI 1).toNatClampNeg) < l2) → AW M_X11_merchants (.inl K) 23 [some (aR 15 0), some (aI l1), some (aI l2), some (aI (nI 0)), none] [] h 0 0)) : AW M_X11_merchants (.inl K) 11 [some (aR 15 0), some (aI l1), some (aI l2), none, none] [] h 0 0 := AW_go (cuts := [(11, [true, true, true, false, false]), (23, [true, true, true, true, false])]) ok_X11_merchants 400 H
set_option maxRecDepth 100000 in
theorem vc_X11_merchants_23 {K : Int32 → AH → Prop} {h : AH}  (l1 : Int32) (l2 : Int32) (l3 : Int32) (H : inR (nI 1) 62 ∧ (((h.1 16 0 (nI 1).toNatClampNeg) < l3) → AW M_X11_merchants (.inl K) 11 [some (aR 15 0), some (aI l1), some (aI (l2 + (nI 1))), none, none] [] h 0 0) ∧ (¬ ((h.1 16 0 (nI 1).toNatClampNeg) < l3) → S_X11_isChoice l2 l1 h (fun x2 h1 => ((x2 = 0) → AW M_X11_merchants (.inl K) 23 [some (aR 15 0), some (aI l1), some (aI l2), some (aI (l3 + (nI 1))), none] [] h1 0 0) ∧ (¬ (x2 = 0) → S_X11_isChoice l3 l1 h1 (fun x4 h3 => ((x4 = 0) → AW M_X11_merchants (.inl K) 23 [some (aR 15 0), some (aI l1), some (aI l2), some (aI (l3 + (nI 1))), none] [] h3 0 0) ∧ (¬ (x4 = 0) → S_X11_isBest 0 l2 l1 h3 (fun x6 h5 => ((¬ x6 = 0) → S_X11_copies 0 1 h5 (fun h7 => inR (nI 1) 62 ∧ ((¬ l2 = (h7.1 16 0 (nI 1).toNatClampNeg)) → S_X11_throwIn 1 l2 l1 h7 (fun x9 h8 => S_X11_isBest 1 l3 l1 h8 (fun x11 h10 => ((x11 = 0) → AW M_X11_merchants (.inl K) 23 [some (aR 15 0), some (aI l1), some (aI l2), some (aI (l3 + (nI 1))), none] [] h10 0 0) ∧ (¬ (x11 = 0) → K (((nI 10) * l2) + l3) h10)))) ∧ (¬ (¬ l2 = (h7.1 16 0 (nI 1).toNatClampNeg)) → S_X11_isBest 1 l3 l1 h7 (fun x13 h12 => ((x13 = 0) → AW M_X11_merchants (.inl K) 23 [some (aR 15 0), some (aI l1), some (aI l2), some (aI (l3 + (nI 1))), none] [] h12 0 0) ∧ (¬ (x13 = 0) → K (((nI 10) * l2) + l3) h12))))) ∧ (¬ (¬ x6 = 0) → AW M_X11_merchants (.inl K) 23 [some (aR 15 0), some (aI l1), some (aI l2), some (aI (l3 + (nI 1))), none] [] h5 0 0)))))))) : AW M_X11_merchants (.inl K) 23 [some (aR 15 0), some (aI l1), some (aI l2), some (aI l3), none] [] h 0 0 := AW_go (cuts := [(11, [true, true, true, false, false]), (23, [true, true, true, true, false])]) ok_X11_merchants 400 H

theorem lpA_X11_merchants {V : Vm} {m s1 : Nat} {h0 : AH} {K : Int32 → AH → Prop} (hr : RV (h0.1 16 0) V) (hv : WF V) (hm : m < 8) (hs1 : s1 < bc V m) (k : ∀ h', keepM h0 h' → AW M_X11_merchants (.inl K) 11 [some (aR 15 0), some (aI (nI m)), some (aI (nI (s1 + 1))), none, none] [] h' 0 0) : ∀ r s2 h, s2 + r = V 10 1 + 1 → keepM h0 h → AW M_X11_merchants (.inl K) 23 [some (aR 15 0), some (aI (nI m)), some (aI (nI s1)), some (aI (nI s2)), none] [] h 0 0 := by
  have h7 := hv.2.1
  obtain ⟨b1, b2, b3, b4⟩ := bc_ok V m
  intro r
  induction r with
  | zero =>
    intro s2 h hs hk
    refine vc_X11_merchants_23 (nI m) (nI s1) (nI s2) ?_
    have hr1 := hr
    rw [← keepM_r0 hk] at hr1
    have e1 := (RVs hr1).2.2.2.2.2.2.2.2.2.2.2.1
    simp (disch := omega) only [n_inT, n_cl, true_and, e1, n_lt, nI_add]
    exact ⟨fun _ => k h hk, fun q => absurd (by omega) q⟩
  | succ r ih =>
    intro s2 h hs hk
    refine vc_X11_merchants_23 (nI m) (nI s1) (nI s2) ?_
    have hr1 := hr
    rw [← keepM_r0 hk] at hr1
    have e1 := (RVs hr1).2.2.2.2.2.2.2.2.2.2.2.1
    simp (disch := omega) only [n_inT, n_cl, true_and, e1, n_lt, nI_add]
    refine ⟨fun q => by omega, fun _ => ⟨V, s1, m, ⟨hr1, hv, by omega, rfl, hm, rfl⟩, ?_⟩⟩
    dsimp only
    simp only [if10_eq]
    refine ⟨fun q => ih (s2 + 1) h (by omega) hk, fun q => ⟨V, s2, m, ⟨hr1, hv, by omega, rfl, hm, rfl⟩, ?_⟩⟩
    dsimp only
    simp only [if10_eq]
    refine ⟨fun q => ih (s2 + 1) h (by omega) hk, fun q2 => ⟨V, V, s1, m, ⟨hr1, hv, by omega, rfl, hm, rfl⟩, hr1, hv, sam_rfl V, by omega, fun h1 o1 => ⟨fun z => absurd z (b4 s1 hs1 (Decidable.not_not.mp q)), fun z => ⟨fun y => absurd (by decide) y, fun _ => ?_⟩⟩⟩⟩
    exact ih (s2 + 1) h1 (by omega) (keepM_tr hk (keepM_o (by omega) (by omega) o1))
theorem lpB_X11_merchants {V : Vm} {m : Nat} {h0 : AH} {K : Int32 → AH → Prop} (hr : RV (h0.1 16 0) V) (hv : WF V) (hm : m < 8) (k : ∀ h', keepM h0 h' → K (nI (10 * bc V m + bc (aft V (bc V m) m) m)) h') : ∀ r s2 h, s2 + r = bc (aft V (bc V m) m) m → keepM h0 h → AW M_X11_merchants (.inl K) 23 [some (aR 15 0), some (aI (nI m)), some (aI (nI (bc V m))), some (aI (nI s2)), none] [] h 0 0 := by
  have h7 := hv.2.1
  obtain ⟨b1, b2, b3, b4⟩ := bc_ok V m
  obtain ⟨c1, c2, c3, c4⟩ := bc_ok (aft V (bc V m) m) m
  have hsm := sam_aft V (bc V m) m
  have hwa : WF (aft V (bc V m) m) := WF_aft hv hm
  have hn := hsm.1
  have hcv : ∀ t, cho (aft V (bc V m) m) t m ↔ cho V t m := fun t => by unfold cho; rw [hn, hsm.2.2]
  have key : ∀ s2 h, s2 ≤ bc (aft V (bc V m) m) m → keepM h0 h → (∀ h', keepM h0 h' → s2 < bc (aft V (bc V m) m) m → AW M_X11_merchants (.inl K) 23 [some (aR 15 0), some (aI (nI m)), some (aI (nI (bc V m))), some (aI (nI (s2 + 1))), none] [] h' 0 0) → AW M_X11_merchants (.inl K) 23 [some (aR 15 0), some (aI (nI m)), some (aI (nI (bc V m))), some (aI (nI s2)), none] [] h 0 0 := by
    intro s2 h hs hk ih
    refine vc_X11_merchants_23 (nI m) (nI (bc V m)) (nI s2) ?_
    have hr1 := hr
    rw [← keepM_r0 hk] at hr1
    have e1 := (RVs hr1).2.2.2.2.2.2.2.2.2.2.2.1
    simp (disch := omega) only [n_inT, n_cl, true_and, e1, n_lt, nI_add]
    refine ⟨fun q => by omega, fun _ => ⟨V, bc V m, m, ⟨hr1, hv, by omega, rfl, hm, rfl⟩, ?_⟩⟩
    dsimp only
    simp only [if10_eq]
    refine ⟨fun q => absurd b2 q, fun q => ⟨V, s2, m, ⟨hr1, hv, by omega, rfl, hm, rfl⟩, ?_⟩⟩
    dsimp only
    simp only [if10_eq]
    have hne : ∀ t, t = bc (aft V (bc V m) m) m → cho V t m := fun t e => (hcv t).mp (e ▸ c2)
    refine ⟨fun q => ih h hk (Nat.lt_of_le_of_ne hs (fun e => q (hne s2 e))), fun q2 => ⟨V, V, bc V m, m, ⟨hr1, hv, by omega, rfl, hm, rfl⟩, hr1, hv, sam_rfl V, by omega, fun h1 o1 => ⟨fun _ => ⟨fun _ => ?_, fun y => absurd (by decide) y⟩, fun z => absurd b3 z⟩⟩⟩
    have hcs2 := (hcv s2).mpr (Decidable.not_not.mp q2)
    have k1 := keepM_tr hk (keepM_o (by omega) (by omega) o1)
    refine ⟨by omega, fun h2 o2 cp2 => ?_⟩
    have k2 := keepM_tr k1 (keepM_o (by omega) (by omega) o2)
    have hr2 := hr
    rw [← keepM_r0 k2] at hr2
    have hr1' := hr
    rw [← keepM_r0 k1] at hr1'
    have e2 := (RVs hr2).2.2.2.2.2.2.2.2.2.2.2.1
    have hu2 : RV (h2.1 16 1) V := RV_cp hv hr1' cp2
    simp (disch := omega) only [n_inT, n_cl, true_and, e2, n_eq, pk_mul, nI_add]
    have fin : ∀ h3, keepM h0 h3 → RV (h3.1 16 1) (aft V (bc V m) m) → S_X11_isBest 1 (nI s2) (nI m) h3 (fun x11 h10 => (x11 = 0 → AW M_X11_merchants (.inl K) 23 [some (aR 15 0), some (aI (nI m)), some (aI (nI (bc V m))), some (aI (nI (s2 + 1))), none] [] h10 0 0) ∧ (¬ x11 = 0 → K (nI (10 * bc V m + s2)) h10)) := by
      intro h3 k3 hu3
      have hr3 := hr
      rw [← keepM_r0 k3] at hr3
      refine ⟨V, aft V (bc V m) m, s2, m, ⟨hr3, hv, by omega, rfl, hm, rfl⟩, hu3, hwa, hsm, by omega, fun h4 o4 => ⟨fun z => ⟨fun y => absurd y (by decide), fun _ => ?_⟩, fun z => ⟨fun _ => ?_, fun y => absurd (by decide) y⟩⟩⟩
      · have : s2 = bc (aft V (bc V m) m) m := by
          by_cases w : s2 < bc (aft V (bc V m) m) m
          · exact absurd z (c4 s2 w hcs2)
          · omega
        have kk := k h4 (keepM_tr k3 (keepM_o (by omega) (by omega) o4))
        rw [← this] at kk
        exact kk
      · refine ih h4 (keepM_tr k3 (keepM_o (by omega) (by omega) o4)) (Nat.lt_of_le_of_ne hs (fun e => z ?_))
        rw [e]
        exact c3
    refine ⟨fun q => ?_, fun q => ?_⟩
    · refine ⟨V, bc V m, m, ⟨hu2, hv, by omega, rfl⟩, hm, rfl, fun h3 o3 r3 => ?_⟩
      refine fin h3 (keepM_tr k2 (keepM_o (by omega) (by omega) o3)) ?_
      unfold aft
      rw [if_neg q]
      exact r3
    · refine fin h2 k2 ?_
      unfold aft
      rw [if_pos (Decidable.not_not.mp q)]
      exact hu2
  intro r
  induction r with
  | zero => exact fun s2 h hs hk => key s2 h (by omega) hk (fun h' _ q => by omega)
  | succ r ih => exact fun s2 h hs hk => key s2 h (by omega) hk (fun h' k' _ => ih (s2 + 1) h' (by omega) k')
theorem lp_X11_merchants {V : Vm} {m : Nat} {h0 : AH} {K : Int32 → AH → Prop} (hr : RV (h0.1 16 0) V) (hv : WF V) (hm : m < 8) (k : ∀ h', keepM h0 h' → K (nI (10 * bc V m + bc (aft V (bc V m) m) m)) h') : ∀ r s1 h, s1 + r = bc V m → keepM h0 h → AW M_X11_merchants (.inl K) 11 [some (aR 15 0), some (aI (nI m)), some (aI (nI s1)), none, none] [] h 0 0 := by
  have h7 := hv.2.1
  obtain ⟨b1, b2, b3, b4⟩ := bc_ok V m
  intro r
  induction r with
  | zero =>
    intro s1 h hs hk
    refine vc_X11_merchants_11 (nI m) (nI s1) ?_
    have hr1 := hr
    rw [← keepM_r0 hk] at hr1
    have e1 := (RVs hr1).2.2.2.2.2.2.2.2.2.2.2.1
    simp (disch := omega) only [n_inT, n_cl, true_and, e1, n_lt]
    have : s1 = bc V m := by omega
    subst this
    exact ⟨fun q => by omega, fun _ => lpB_X11_merchants hr hv hm k (bc (aft V (bc V m) m) m) 0 h (by omega) hk⟩
  | succ r ih =>
    intro s1 h hs hk
    refine vc_X11_merchants_11 (nI m) (nI s1) ?_
    have hr1 := hr
    rw [← keepM_r0 hk] at hr1
    have e1 := (RVs hr1).2.2.2.2.2.2.2.2.2.2.2.1
    simp (disch := omega) only [n_inT, n_cl, true_and, e1, n_lt]
    exact ⟨fun q => by omega, fun _ => lpA_X11_merchants hr hv hm (by omega) (fun h' k' => ih (s1 + 1) h' (by omega) k') (V 10 1 + 1) 0 h (by omega) hk⟩
theorem snd_X11_merchants (c : Int32) {h : AH} {K : Int32 → AH → Prop} (k : S_X11_merchants c h K) : AW M_X11_merchants (.inl K) 0 [some (aR 15 0), some (aI c), none, none, none] [] h 0 0 := by
  obtain ⟨V, hr, hv, k⟩ := k
  refine vc_X11_merchants c ?_
  unfold S_X11_isCell
  simp only [if10_eq]
  unfold R_merchants at k
  refine ⟨fun q => ?_, fun q => ?_⟩
  · rw [if_neg q] at k
    obtain ⟨m, hm, rfl⟩ := in8_iff.mp (Decidable.not_not.mp q)
    unfold nN at k
    rw [n_cl (show m < 2147483648 by omega)] at k
    exact lp_X11_merchants hr hv hm k (bc V m) 0 h (by omega) (keepM_rfl h)
  · rw [if_pos (fun z => q (fun z2 => z2 z))] at k
    exact k h (keepM_rfl h)
theorem tr_X11_merchants : ∀ (as : List AV) (h : AH) (K : Int32 → AH → Prop), T_X11_merchants as h K → ∃ (q : Nat) (r : List AV), as = aR 15 q :: r := by
  intro as h K hk
  match as, hk with
  | [.inr (.inr (.inl q0)), .inl q1], hk =>
    obtain ⟨hb, hk⟩ := tif_inv hk
    simp only [Bool.and_eq_true] at hb
    obtain ⟨e0, e1⟩ := hb
    obtain ⟨a0, b0⟩ := q0
    have f0 : a0 = 15 := Nat.eq_of_beq_eq_true e0
    subst f0
    have f1 : b0 = 0 := Nat.eq_of_beq_eq_true e1
    subst f1
    exact ⟨_, _, rfl⟩
theorem tw_X11_merchants : ∀ (as : List AV) (h : AH) (K : Int32 → AH → Prop), T_X11_merchants as h K → (ini as).length ≤ mNL M_X11_merchants ∧ AW M_X11_merchants (.inl K) 0 (initL (mNL M_X11_merchants) as) [] h 0 0 := by
  intro as h K hk
  match as, hk with
  | [.inr (.inr (.inl q0)), .inl q1], hk =>
    obtain ⟨hb, hk⟩ := tif_inv hk
    simp only [Bool.and_eq_true] at hb
    obtain ⟨e0, e1⟩ := hb
    obtain ⟨a0, b0⟩ := q0
    have f0 : a0 = 15 := Nat.eq_of_beq_eq_true e0
    subst f0
    have f1 : b0 = 0 := Nat.eq_of_beq_eq_true e1
    subst f1
    exact ⟨Nat.le_of_ble_eq_true rfl, snd_X11_merchants q1 hk⟩


/-! ===== the component's calls: hours, two throws, greedily, drums ===== -/
theorem wai_o {V : Vm} {k t i : Nat} (h5 : t ≠ 5) (h10 : t ≠ 10) : wai V k t i = V t i := by unfold wai; rw [if_neg h5, if_neg (fun z => h10 z.1)]
theorem am1_s {f : Nat → Int} {k : Nat} {p : Int × Int} : am1 f (k + 1) p = if (am1 f k p).2 < f k then ((k : Int), f k) else am1 f k p := rfl
def S_X10_bestHour (a c w : Int32) (h : AH) (K : Int32 → AH → Prop) : Prop := ∃ V, CV h 0 V ∧ WF V ∧ ∀ h', keepC h h' → K (R_bestHour V a c w) h'
def T_X10_bestHour : List AV → AH → (Int32 → AH → Prop) → Prop := fun as h K => match as with
  | [.inr (.inr (.inl q0)), .inl q1, .inl q2, .inl q3] => tif (Nat.beq q0.1 0 && Nat.beq q0.2 0) (S_X10_bestHour q1 q2 q3 h K)
  | _ => False

def M_X10_bestHour : MI := (RX10, cX10_bestHour, 9, [(0, .iload_n 3, []), (1, .iconst 0, []), (2, .iconst 1, []), (3, .invokestatic 59, []), (6, .ifCond .eq 15, [21]), (9, .aload_n 0, []), (10, .getfield 10, []), (13, .iload_n 1, []), (14, .iload_n 2, []), (15, .invokevirtual 138, []), (18, .goto 4, [22]), (21, .iconst (-1), []), (22, .istore 4, []), (24, .iload 4, []), (26, .ifCond .eq 6, [32]), (29, .iload 4, []), (31, .ireturn, []), (32, .iconst 0, []), (33, .istore 5, []), (35, .iconst (-1), []), (36, .istore 6, []), (38, .iconst 0, []), (39, .istore 7, []), (41, .iload 7, []), (43, .bipush 24, []), (45, .if_icmp .ge 63, [108]), (48, .aload_n 0, []), (49, .getfield 16, []), (52, .aload_n 0, []), (53, .getfield 10, []), (56, .invokevirtual 41, []), (59, .aload_n 0, []), (60, .getfield 16, []), (63, .iload 7, []), (65, .invokevirtual 145, []), (68, .aload_n 0, []), (69, .getfield 16, []), (72, .aload_n 0, []), (73, .getfield 10, []), (76, .getfield 149, []), (79, .iload_n 1, []), (80, .aaload, []), (81, .iload_n 2, []), (82, .invokevirtual 153, []), (85, .istore 8, []), (87, .iload 8, []), (89, .iload 6, []), (91, .if_icmp .le 11, [102]), (94, .iload 8, []), (96, .istore 6, []), (98, .iload 7, []), (100, .istore 5, []), (102, .iinc 7 1, []), (105, .goto (-64), [41]), (108, .iload_n 3, []), (109, .ifCond .ne 8, [117]), (112, .iload 5, []), (114, .goto 5, [119]), (117, .iload 6, []), (119, .ireturn, [])], [(10, (0, 0, 1, 1, 0)), (16, (0, 1, 1, 1, 1)), (149, (1, 10, 1, 10, 0))], [], [], [(178, (3, 1, 22, 0, 0, .inl T_X10_within)), (414, (3, 3, 66, 0, 0, .inl T_X9_refusedThrow)), (123, (2, 2, 48, 0, 0, .inr (.inl T_X9_become))), (435, (2, 2, 43, 0, 0, .inr (.inl T_X9_pass))), (459, (3, 4, 87, 0, 0, .inl T_X9_broughtBy))], 4, 87, 0, 0)
theorem ok_X10_bestHour : MOK M_X10_bestHour := ⟨by decide +kernel, List.forall_mem_cons.mpr ⟨fl_RX10_10, List.forall_mem_cons.mpr ⟨fl_RX10_16, List.forall_mem_cons.mpr ⟨fl_RX10_149, fun _ h => absurd h List.not_mem_nil⟩⟩⟩, fun _ h => absurd h List.not_mem_nil, fun _ h => absurd h List.not_mem_nil, List.forall_mem_cons.mpr ⟨⟨Nat.le_of_ble_eq_true rfl, Nat.le_of_ble_eq_true rfl, cr_RX10_178⟩, List.forall_mem_cons.mpr ⟨⟨Nat.le_of_ble_eq_true rfl, Nat.le_of_ble_eq_true rfl, cr_RX10_414⟩, List.forall_mem_cons.mpr ⟨⟨Nat.le_of_ble_eq_true rfl, Nat.le_of_ble_eq_true rfl, cr_RX10_123⟩, List.forall_mem_cons.mpr ⟨⟨Nat.le_of_ble_eq_true rfl, Nat.le_of_ble_eq_true rfl, cr_RX10_435⟩, List.forall_mem_cons.mpr ⟨⟨Nat.le_of_ble_eq_true rfl, Nat.le_of_ble_eq_true rfl, cr_RX10_459⟩, fun _ h => absurd h List.not_mem_nil⟩⟩⟩⟩⟩⟩
set_option maxRecDepth 100000 in
theorem vc_X10_bestHour {K : Int32 → AH → Prop} {h : AH} (p1 : Int32) (p2 : Int32) (p3 : Int32) (H : S_X10_within p3 (nI 0) (nI 1) h (fun x2 h1 => ((x2 = 0) → (((iI (-1)) = 0) → AW M_X10_bestHour (.inl K) 41 [some (aR 0 0), some (aI p1), some (aI p2), some (aI p3), none, some (aI (nI 0)), some (aI (iI (-1))), some (aI (nI 0)), none] [] h1 0 0) ∧ (¬ ((iI (-1)) = 0) → K (iI (-1)) h1)) ∧ (¬ (x2 = 0) → S_X9_refusedThrow 0 p1 p2 h1 (fun x4 h3 => ((x4 = 0) → AW M_X10_bestHour (.inl K) 41 [some (aR 0 0), some (aI p1), some (aI p2), some (aI p3), none, some (aI (nI 0)), some (aI (iI (-1))), some (aI (nI 0)), none] [] h3 0 0) ∧ (¬ (x4 = 0) → K x4 h3))))) : AW M_X10_bestHour (.inl K) 0 [some (aR 0 0), some (aI p1), some (aI p2), some (aI p3), none, none, none, none, none] [] h 0 0 := AW_go (cuts := [(41, [true, true, true, true, false, true, true, true, false])]) ok_X10_bestHour 400 H
set_option maxRecDepth 100000 in
theorem vc_X10_bestHour_41 {K : Int32 → AH → Prop} {h : AH}  (l1 : Int32) (l2 : Int32) (l3 : Int32) (l5 : Int32) (l6 : Int32) (l7 : Int32) (H : (((nI 24) ≤ l7) → ((¬ l3 = 0) → K l6 h) ∧ (¬ (¬ l3 = 0) → K l5 h)) ∧ (¬ ((nI 24) ≤ l7) → S_X9_become 1 0 h (fun h1 => S_X9_pass 1 l7 h1 (fun h2 => inR l1 7 ∧ S_X9_broughtBy 1 (h2.2.1 10 0 l1.toNatClampNeg) l2 h2 (fun x4 h3 => ((x4 ≤ l6) → AW M_X10_bestHour (.inl K) 41 [some (aR 0 0), some (aI l1), some (aI l2), some (aI l3), none, some (aI l5), some (aI l6), some (aI (l7 + (nI 1))), none] [] h3 0 0) ∧ (¬ (x4 ≤ l6) → AW M_X10_bestHour (.inl K) 41 [some (aR 0 0), some (aI l1), some (aI l2), some (aI l3), none, some (aI l7), some (aI x4), some (aI (l7 + (nI 1))), none] [] h3 0 0)))))) : AW M_X10_bestHour (.inl K) 41 [some (aR 0 0), some (aI l1), some (aI l2), some (aI l3), none, some (aI l5), some (aI l6), some (aI l7), none] [] h 0 0 := AW_go (cuts := [(41, [true, true, true, true, false, true, true, true, false])]) ok_X10_bestHour 400 H

theorem lp_X10_bestHour {V : Vm} {n m : Nat} {w : Int32} {h0 : AH} {K : Int32 → AH → Prop} (cv : CV h0 0 V) (hw : WF V) (hn : n < V 10 1) (hm : m < 8) (k : ∀ h', keepC h0 h' → K (if w = 0 then iI (bHour V n m).1 else iI (bHour V n m).2) h') : ∀ r c h, c + r = 24 → keepC h0 h → AW M_X10_bestHour (.inl K) 41 [some (aR 0 0), some (aI (nI n)), some (aI (nI m)), some (aI w), none, some (aI (iI (am1 (fun k => (brg (wai V k) n m : Int)) c (0, -1)).1)), some (aI (iI (am1 (fun k => (brg (wai V k) n m : Int)) c (0, -1)).2)), some (aI (nI c)), none] [] h 0 0 := by
  have h7 := hw.2.1
  intro r
  induction r with
  | zero =>
    intro c h hc h1
    refine vc_X10_bestHour_41 (nI n) (nI m) w _ _ (nI c) ?_
    have : c = 24 := by omega
    subst this
    have := k h h1
    refine ⟨fun _ => nn_if (fun q => ?_) (fun q => ?_), fun q => absurd (Int32.le_refl _) q⟩
    · rw [if_pos q] at this; exact this
    · rw [if_neg q] at this; exact this
  | succ r ih =>
    intro c h hc h1
    refine vc_X10_bestHour_41 (nI n) (nI m) w _ _ (nI c) ?_
    rw [n_le (by omega) (by omega), nI_add]
    refine ⟨fun q => by omega, fun _ => ⟨by decide, V, CV_K h1 (by decide) cv, hw, fun h2 o2 c2 => ⟨V, c, c2, hw, by omega, rfl, fun h3 o3 c3 => ⟨n_in (show n < 7 by omega) (by omega), ?_⟩⟩⟩⟩
    have k3 := keepC_tr h1 (keepC_tr (keepC_V o2) (keepC_V o3))
    have sp := (CVs (CV_K k3 (by decide) cv)).2.2.2.2.2.2.2.2.2.2.2.2 n hn
    rw [n_cl (show n < 2147483648 by omega)]
    have sp' : SHP h3 (h3.2.1 10 0 n) (wai V c 8 n) (wai V c 9 n) := by rw [wai_o (by omega) (by omega), wai_o (by omega) (by omega)]; exact sp
    refine ⟨wai V c, n, m, ⟨c3, WF_wai hw, by rw [wai_10 (by omega)]; exact hn, sp'⟩, hm, rfl, ?_⟩
    have := ih (c + 1) h3 (by omega) k3
    obtain ⟨b1, b2, b3, b4⟩ := bHour_b hw hn hm c (by omega)
    have g1 := brg_le (WF_wai (k := c) hw) (show n < wai V c 10 1 by rw [wai_10 (by omega)]; exact hn) hm
    rw [am1_s] at this
    (try dsimp only)
    rw [nI_iI (brg (wai V c) n m), i_le (by omega) (by omega) (by omega) (by omega)]
    refine ⟨fun q => ?_, fun q => ?_⟩
    · rw [if_neg (by omega)] at this; exact this
    · rw [if_pos (by omega), ← nI_iI c] at this; exact this
theorem snd_X10_bestHour (a c w : Int32) {h : AH} {K : Int32 → AH → Prop} (k : S_X10_bestHour a c w h K) : AW M_X10_bestHour (.inl K) 0 [some (aR 0 0), some (aI a), some (aI c), some (aI w), none, none, none, none, none] [] h 0 0 := by
  obtain ⟨V, cv, hw, k⟩ := k
  unfold R_bestHour at k
  refine vc_X10_bestHour a c w (w_if (fun q => ⟨V, cv, hw, ?_⟩) (fun q => ⟨fun z => absurd z (by decide), fun _ => ?_⟩))
  case refine_2 => rw [if_pos q] at k; exact k h (keepC_rfl h)
  rw [if_neg (fun z => z q)] at k
  rcases rfT_cases hw a c with ⟨n, m, hn, hm, hf, rfl, rfl, e⟩ | e
  case inr =>
    rw [if_pos e] at k
    exact ⟨fun z => absurd z e, fun _ => k h (keepC_rfl h)⟩
  rw [if_neg (fun z => z e)] at k
  have h7 := hw.2.1
  unfold nN at k
  rw [n_cl (show n < 2147483648 by omega), n_cl (show m < 2147483648 by omega)] at k
  exact ⟨fun _ => lp_X10_bestHour cv hw hn hm k 24 0 h (by omega) (keepC_rfl h), fun q => absurd e q⟩
theorem tr_X10_bestHour : ∀ (as : List AV) (h : AH) (K : Int32 → AH → Prop), T_X10_bestHour as h K → ∃ (q : Nat) (r : List AV), as = aR 0 q :: r := by
  intro as h K hk
  match as, hk with
  | [.inr (.inr (.inl q0)), .inl q1, .inl q2, .inl q3], hk =>
    obtain ⟨hb, hk⟩ := tif_inv hk
    simp only [Bool.and_eq_true] at hb
    obtain ⟨e0, e1⟩ := hb
    obtain ⟨a0, b0⟩ := q0
    have f0 : a0 = 0 := Nat.eq_of_beq_eq_true e0
    subst f0
    have f1 : b0 = 0 := Nat.eq_of_beq_eq_true e1
    subst f1
    exact ⟨_, _, rfl⟩
theorem tw_X10_bestHour : ∀ (as : List AV) (h : AH) (K : Int32 → AH → Prop), T_X10_bestHour as h K → (ini as).length ≤ mNL M_X10_bestHour ∧ AW M_X10_bestHour (.inl K) 0 (initL (mNL M_X10_bestHour) as) [] h 0 0 := by
  intro as h K hk
  match as, hk with
  | [.inr (.inr (.inl q0)), .inl q1, .inl q2, .inl q3], hk =>
    obtain ⟨hb, hk⟩ := tif_inv hk
    simp only [Bool.and_eq_true] at hb
    obtain ⟨e0, e1⟩ := hb
    obtain ⟨a0, b0⟩ := q0
    have f0 : a0 = 0 := Nat.eq_of_beq_eq_true e0
    subst f0
    have f1 : b0 = 0 := Nat.eq_of_beq_eq_true e1
    subst f1
    exact ⟨Nat.le_of_ble_eq_true rfl, snd_X10_bestHour q1 q2 q3 hk⟩

def S_X10_twoThrows (w : Int32) (h : AH) (K : Int32 → AH → Prop) : Prop := ∃ V, CV h 0 V ∧ WF V ∧ ∀ h', keepC h h' → K (R_twoThrows V w) h'
def T_X10_twoThrows : List AV → AH → (Int32 → AH → Prop) → Prop := fun as h K => match as with
  | [.inr (.inr (.inl q0)), .inl q1] => tif (Nat.beq q0.1 0 && Nat.beq q0.2 0) (S_X10_twoThrows q1 h K)
  | _ => False

def M_X10_twoThrows : MI := (RX10, cX10_twoThrows, 8, [(0, .iload_n 1, []), (1, .iconst 0, []), (2, .iconst 1, []), (3, .invokestatic 59, []), (6, .ifCond .ne 6, [12]), (9, .ldc 175, []), (11, .ireturn, []), (12, .aload_n 0, []), (13, .getfield 10, []), (16, .getfield 125, []), (19, .ifCond .ne 6, [25]), (22, .ldc 171, []), (24, .ireturn, []), (25, .bipush (-4), []), (27, .istore_n 2, []), (28, .iconst 0, []), (29, .istore_n 3, []), (30, .iconst 0, []), (31, .istore 4, []), (33, .iload 4, []), (35, .aload_n 0, []), (36, .getfield 10, []), (39, .getfield 125, []), (42, .if_icmp .ge 110, [152]), (45, .iconst 0, []), (46, .istore 5, []), (48, .iload 5, []), (50, .aload_n 0, []), (51, .getfield 10, []), (54, .getfield 149, []), (57, .iload 4, []), (59, .aaload, []), (60, .getfield 105, []), (63, .if_icmp .gt 83, [146]), (66, .aload_n 0, []), (67, .getfield 16, []), (70, .aload_n 0, []), (71, .getfield 10, []), (74, .invokevirtual 41, []), (77, .aload_n 0, []), (78, .getfield 16, []), (81, .iload 4, []), (83, .iload 5, []), (85, .invokevirtual 142, []), (88, .aload_n 0, []), (89, .getfield 16, []), (92, .getfield 149, []), (95, .iload 4, []), (97, .aaload, []), (98, .getfield 108, []), (101, .isub, []), (102, .istore 6, []), (104, .iload 6, []), (106, .aload_n 0, []), (107, .getfield 16, []), (110, .invokevirtual 172, []), (113, .iadd, []), (114, .istore 7, []), (116, .iload_n 2, []), (117, .bipush (-4), []), (119, .if_icmp .eq 9, [128]), (122, .iload 7, []), (124, .iload_n 3, []), (125, .if_icmp .le 15, [140]), (128, .iload 7, []), (130, .istore_n 3, []), (131, .bipush 10, []), (133, .iload 4, []), (135, .imul, []), (136, .iload 5, []), (138, .iadd, []), (139, .istore_n 2, []), (140, .iinc 5 1, []), (143, .goto (-95), [48]), (146, .iinc 4 1, []), (149, .goto (-116), [33]), (152, .iload_n 1, []), (153, .ifCond .ne 7, [160]), (156, .iload_n 3, []), (157, .goto 4, [161]), (160, .iload_n 2, []), (161, .ireturn, [])], [(10, (0, 0, 1, 1, 0)), (125, (1, 9, 0, 0, 0)), (149, (1, 10, 1, 10, 0)), (105, (18, 4, 0, 0, 0)), (16, (0, 1, 1, 1, 1)), (108, (18, 5, 0, 0, 0))], [(175, 1000000001), (171, 1000000004)], [], [(178, (3, 1, 22, 0, 0, .inl T_X10_within)), (123, (2, 2, 48, 0, 0, .inr (.inl T_X9_become))), (426, (3, 5, 113, 0, 0, .inl T_X9_throwOnto)), (516, (1, 6, 137, 0, 0, .inl T_X9_richestGain))], 6, 137, 0, 0)
theorem ok_X10_twoThrows : MOK M_X10_twoThrows := ⟨by decide +kernel, List.forall_mem_cons.mpr ⟨fl_RX10_10, List.forall_mem_cons.mpr ⟨fl_RX10_125, List.forall_mem_cons.mpr ⟨fl_RX10_149, List.forall_mem_cons.mpr ⟨fl_RX10_105, List.forall_mem_cons.mpr ⟨fl_RX10_16, List.forall_mem_cons.mpr ⟨fl_RX10_108, fun _ h => absurd h List.not_mem_nil⟩⟩⟩⟩⟩⟩, List.forall_mem_cons.mpr ⟨(inG (i := 601) (w := Cond.constant RX10 175 1000000001) (by decide +kernel) rfl), List.forall_mem_cons.mpr ⟨(inG (i := 583) (w := Cond.constant RX10 171 1000000004) (by decide +kernel) rfl), fun _ h => absurd h List.not_mem_nil⟩⟩, fun _ h => absurd h List.not_mem_nil, List.forall_mem_cons.mpr ⟨⟨Nat.le_of_ble_eq_true rfl, Nat.le_of_ble_eq_true rfl, cr_RX10_178⟩, List.forall_mem_cons.mpr ⟨⟨Nat.le_of_ble_eq_true rfl, Nat.le_of_ble_eq_true rfl, cr_RX10_123⟩, List.forall_mem_cons.mpr ⟨⟨Nat.le_of_ble_eq_true rfl, Nat.le_of_ble_eq_true rfl, cr_RX10_426⟩, List.forall_mem_cons.mpr ⟨⟨Nat.le_of_ble_eq_true rfl, Nat.le_of_ble_eq_true rfl, cr_RX10_516⟩, fun _ h => absurd h List.not_mem_nil⟩⟩⟩⟩⟩
set_option maxRecDepth 100000 in
theorem vc_X10_twoThrows {K : Int32 → AH → Prop} {h : AH} (p1 : Int32) (H : S_X10_within p1 (nI 0) (nI 1) h (fun x2 h1 => ((¬ x2 = 0) → ((¬ (h1.1 1 0 9) = 0) → AW M_X10_twoThrows (.inl K) 33 [some (aR 0 0), some (aI p1), some (aI (iI (-4))), some (aI (nI 0)), some (aI (nI 0)), none, none, none] [] h1 0 0) ∧ (¬ (¬ (h1.1 1 0 9) = 0) → K (1000000004 : Int32) h1)) ∧ (¬ (¬ x2 = 0) → K (1000000001 : Int32) h1))) : AW M_X10_twoThrows (.inl K) 0 [some (aR 0 0), some (aI p1), none, none, none, none, none, none] [] h 0 0 := AW_go (cuts := [(33, [true, true, true, true, true, false, false, false]), (48, [true, true, true, true, true, true, false, false])]) ok_X10_twoThrows 400 H
set_option maxRecDepth 100000 in
theorem vc_X10_twoThrows_33 {K : Int32 → AH → Prop} {h : AH}  (l1 : Int32) (l2 : Int32) (l3 : Int32) (l4 : Int32) (H : (((h.1 1 0 9) ≤ l4) → ((¬ l1 = 0) → K l2 h) ∧ (¬ (¬ l1 = 0) → K l3 h)) ∧ (¬ ((h.1 1 0 9) ≤ l4) → AW M_X10_twoThrows (.inl K) 48 [some (aR 0 0), some (aI l1), some (aI l2), some (aI l3), some (aI l4), some (aI (nI 0)), none, none] [] h 0 0)) : AW M_X10_twoThrows (.inl K) 33 [some (aR 0 0), some (aI l1), some (aI l2), some (aI l3), some (aI l4), none, none, none] [] h 0 0 := AW_go (cuts := [(33, [true, true, true, true, true, false, false, false]), (48, [true, true, true, true, true, true, false, false])]) ok_X10_twoThrows 400 H
set_option maxRecDepth 100000 in
theorem vc_X10_twoThrows_48 {K : Int32 → AH → Prop} {h : AH}  (l1 : Int32) (l2 : Int32) (l3 : Int32) (l4 : Int32) (l5 : Int32) (H : inR l4 7 ∧ oE (h.2.1 10 0 l4.toNatClampNeg) fun a1 => (((h.1 18 a1 4) < l5) → AW M_X10_twoThrows (.inl K) 33 [some (aR 0 0), some (aI l1), some (aI l2), some (aI l3), some (aI (l4 + (nI 1))), none, none, none] [] h 0 0) ∧ (¬ ((h.1 18 a1 4) < l5) → S_X9_become 1 0 h (fun h2 => S_X9_throwOnto 1 l4 l5 h2 (fun x4 h3 => inR l4 7 ∧ oE (h3.2.1 10 1 l4.toNatClampNeg) fun a5 => S_X9_richestGain 1 h3 (fun x7 h6 => ((l2 = (iI (-4))) → AW M_X10_twoThrows (.inl K) 48 [some (aR 0 0), some (aI l1), some (aI (((nI 10) * l4) + l5)), some (aI ((x4 - (h3.1 18 a5 5)) + x7)), some (aI l4), some (aI (l5 + (nI 1))), none, none] [] h6 0 0) ∧ (¬ (l2 = (iI (-4))) → ((((x4 - (h3.1 18 a5 5)) + x7) ≤ l3) → AW M_X10_twoThrows (.inl K) 48 [some (aR 0 0), some (aI l1), some (aI l2), some (aI l3), some (aI l4), some (aI (l5 + (nI 1))), none, none] [] h6 0 0) ∧ (¬ (((x4 - (h3.1 18 a5 5)) + x7) ≤ l3) → AW M_X10_twoThrows (.inl K) 48 [some (aR 0 0), some (aI l1), some (aI (((nI 10) * l4) + l5)), some (aI ((x4 - (h3.1 18 a5 5)) + x7)), some (aI l4), some (aI (l5 + (nI 1))), none, none] [] h6 0 0))))))) : AW M_X10_twoThrows (.inl K) 48 [some (aR 0 0), some (aI l1), some (aI l2), some (aI l3), some (aI l4), some (aI l5), none, none] [] h 0 0 := AW_go (cuts := [(33, [true, true, true, true, true, false, false, false]), (48, [true, true, true, true, true, true, false, false])]) ok_X10_twoThrows 400 H

abbrev twP (V : Vm) (a c : Nat) : Int × Int := amC (twoV V a) a c (amA (twoV V) (vFl V) a (0, -1000000000))
theorem twP_b {V : Vm} (hw : WF V) {a : Nat} (ha : a < V 10 1) : ∀ c, c ≤ vFl V a + 1 → -1000000000 ≤ (twP V a c).2 ∧ (twP V a c).2 ≤ 108 ∧ 0 ≤ (twP V a c).1 ∧ (twP V a c).1 ≤ 67 := by
  have h7 := hw.2.1
  have hf : vFl V a ≤ 7 := fly_le _
  obtain ⟨b1, b2, b3, b4⟩ := two_b hw a (by omega)
  intro c hc
  have := amC_b (s := a) (n := vFl V a + 1) (f := twoV V a) (p := amA (twoV V) (vFl V) a (0, -1000000000)) (A := -1000000000) (B := 108) (by omega) (by omega) (fun c hc => by have := twoV_b hw ha (show c < 8 by omega); omega) b1 b2 b3 b4 c hc
  refine ⟨this.1, this.2.1, ?_, this.2.2.2⟩
  rcases amC_at (f := twoV V a) (s := a) (p := amA (twoV V) (vFl V) a (0, -1000000000)) c with h | ⟨c', _, h⟩
  · show 0 ≤ (amC (twoV V a) a c (amA (twoV V) (vFl V) a (0, -1000000000))).1
    rw [h]
    rcases amA_at (f := twoV V) (lim := vFl V) (p := (0, -1000000000)) a with h | ⟨a', c', _, _, h⟩
    · rw [h]; exact Int.le_refl _
    · rw [h]; exact Int.natCast_nonneg _
  · show 0 ≤ (amC (twoV V a) a c (amA (twoV V) (vFl V) a (0, -1000000000))).1
    rw [h]
    exact Int.natCast_nonneg _
def twS (V : Vm) (a c : Nat) (x y : Int32) : Prop := (a = 0 ∧ c = 0 ∧ x = iI (-4)) ∨ (¬ (a = 0 ∧ c = 0) ∧ x = iI (twP V a c).1 ∧ y = iI (twP V a c).2)
theorem in_X10_twoThrows {V : Vm} {w : Int32} {a : Nat} {h0 : AH} {K : Int32 → AH → Prop} (cv : CV h0 0 V) (hw : WF V) (ha : a < V 10 1) (next : ∀ h x y, keepC h0 h → twS V (a + 1) 0 x y → AW M_X10_twoThrows (.inl K) 33 [some (aR 0 0), some (aI w), some (aI x), some (aI y), some (aI (nI (a + 1))), none, none, none] [] h 0 0) : ∀ r c h x y, c + r = vFl V a + 1 → keepC h0 h → twS V a c x y → AW M_X10_twoThrows (.inl K) 48 [some (aR 0 0), some (aI w), some (aI x), some (aI y), some (aI (nI a)), some (aI (nI c)), none, none] [] h 0 0 := by
  have h7 := hw.2.1
  have hf : fly (V 8 a) ≤ 7 := fly_le _
  intro r
  induction r with
  | zero =>
    intro c h x y hc hk hs
    have hc : c + 0 = fly (V 8 a) + 1 := hc
    refine vc_X10_twoThrows_48 w x y (nI a) (nI c) ⟨n_in (show a < 7 by omega) (by omega), ?_⟩
    obtain ⟨b, eb, -, -, -, -, s5, -⟩ := (CVs (CV_K hk (by decide) cv)).2.2.2.2.2.2.2.2.2.2.2.2 a ha
    rw [n_cl (show a < 2147483648 by omega), eb]
    show (h.1 18 b 4 < nI c → _) ∧ (¬ h.1 18 b 4 < nI c → _)
    rw [s5, n_lt (by omega) (by omega), nI_add]
    refine ⟨fun _ => next h x y hk ?_, fun q => absurd (by omega) q⟩
    rcases hs with ⟨_, z, _⟩ | ⟨_, e1, e2⟩
    · omega
    · refine Or.inr ⟨by omega, ?_, ?_⟩
      · rw [e1, show c = vFl V a + 1 from hc]; rfl
      · rw [e2, show c = vFl V a + 1 from hc]; rfl
  | succ r ih =>
    intro c h x y hc hk hs
    have hc' : c + (r + 1) = fly (V 8 a) + 1 := hc
    refine vc_X10_twoThrows_48 w x y (nI a) (nI c) ⟨n_in (show a < 7 by omega) (by omega), ?_⟩
    have cvh := CV_K hk (by decide) cv
    obtain ⟨b, eb, -, -, -, -, s5, -⟩ := (CVs cvh).2.2.2.2.2.2.2.2.2.2.2.2 a ha
    rw [n_cl (show a < 2147483648 by omega), eb]
    show (h.1 18 b 4 < nI c → _) ∧ (¬ h.1 18 b 4 < nI c → _)
    rw [s5, n_lt (by omega) (by omega)]
    refine ⟨fun q => by omega, fun _ => ⟨by decide, V, cvh, hw, fun h2 o2 c2 => ⟨V, a, c, c2, hw, ha, rfl, by omega, rfl, fun h3 o3 c3 => ⟨n_in (show a < 7 by omega) (by omega), ?_⟩⟩⟩⟩
    have k3 := keepC_tr hk (keepC_tr (keepC_V o2) (keepC_V o3))
    have n1 : thr V a c 10 1 = V 10 1 := thr_10 (by omega)
    have hwT : WF (thr V a c) := WF_thr hw (by omega)
    obtain ⟨b', eb', -, -, -, -, -, s6', -⟩ := (CVs c3).2.2.2.2.2.2.2.2.2.2.2.2 a (by rw [n1]; exact ha)
    rw [thr_8 (Or.inl rfl), thr_8 (Or.inr rfl)] at s6'
    rw [eb']
    refine oE_s ⟨thr V a c, c3, hwT, ?_⟩
    rcases bst_n hwT with ⟨h1, hz⟩ | ⟨a2, c2', ha2, hc2, e1, e2, e3, e4, e5, e6⟩
    · rw [n1] at hz; omega
    rw [if_neg (show ¬ (bst (thr V a c)).1 < 0 by omega), e3]
    have gb := twoV_b hw ha (show c < 8 by omega)
    have ev : nI (brg V a c) - h3.1 18 b' 5 + iI (gn (thr V a c) a2 c2') = iI (twoV V a c) := by
      rw [s6', ← e3, n_subI, i_add]
      rfl
    (try dsimp only)
    rw [ev, pk_mul, nI_add, nI_add]
    have step : twP V a (c + 1) = if (twP V a c).2 < twoV V a c then (((10 * a + c : Nat) : Int), twoV V a c) else twP V a c := amC_s
    have take : (twP V a c).2 < twoV V a c → AW M_X10_twoThrows (.inl K) 48 [some (aR 0 0), some (aI w), some (aI (nI (10 * a + c))), some (aI (iI (twoV V a c))), some (aI (nI a)), some (aI (nI (c + 1))), none, none] [] h3 0 0 := fun z =>
      ih (c + 1) h3 _ _ (by omega) k3 (Or.inr ⟨by omega, by rw [step, if_pos z, nI_iI], by rw [step, if_pos z]⟩)
    rcases hs with ⟨rfl, rfl, rfl⟩ | ⟨z0, rfl, rfl⟩
    · exact ⟨fun _ => take (show (-1000000000 : Int) < _ by omega), fun q => absurd rfl q⟩
    · obtain ⟨b1, b2, b3, b4⟩ := twP_b hw ha c (by simp only [vFl]; omega)
      rw [i_eq (by omega) (by omega) (by omega) (by omega), i_le (by omega) (by omega) (by omega) (by omega)]
      refine ⟨fun q => by omega, fun _ => ⟨fun q => ?_, fun q => take (by omega)⟩⟩
      exact ih (c + 1) h3 _ _ (by omega) k3 (Or.inr ⟨by omega, by rw [step, if_neg (by omega)], by rw [step, if_neg (by omega)]⟩)
theorem lp_X10_twoThrows {V : Vm} {w : Int32} {h0 : AH} {K : Int32 → AH → Prop} (cv : CV h0 0 V) (hw : WF V) (hz : V 10 1 ≠ 0) (k : ∀ h', keepC h0 h' → K (if w = 0 then iI (two V).2 else iI (two V).1) h') : ∀ r a h x y, a + r = V 10 1 → keepC h0 h → twS V a 0 x y → AW M_X10_twoThrows (.inl K) 33 [some (aR 0 0), some (aI w), some (aI x), some (aI y), some (aI (nI a)), none, none, none] [] h 0 0 := by
  have h7 := hw.2.1
  intro r
  induction r with
  | zero =>
    intro a h x y ha hk hs
    refine vc_X10_twoThrows_33 w x y (nI a) ?_
    have e9 := (CVs (CV_K hk (by decide) cv)).2.2.2.2.2.2.2.2.2.1
    have : a = V 10 1 := by omega
    subst this
    rw [e9]
    rcases hs with ⟨z, _⟩ | ⟨_, rfl, rfl⟩
    · omega
    · have := k h hk
      refine ⟨fun _ => nn_if (fun q => ?_) (fun q => ?_), fun q => absurd (Int32.le_refl _) q⟩
      · rw [if_pos q] at this; exact this
      · rw [if_neg q] at this; exact this
  | succ r ih =>
    intro a h x y ha hk hs
    refine vc_X10_twoThrows_33 w x y (nI a) ?_
    have e9 := (CVs (CV_K hk (by decide) cv)).2.2.2.2.2.2.2.2.2.1
    rw [e9, n_le (by omega) (by omega)]
    exact ⟨fun q => by omega, fun _ => in_X10_twoThrows cv hw (by omega) (fun h x y k s => ih (a + 1) h x y (by omega) k s) (vFl V a + 1) 0 h x y (by omega) hk hs⟩
theorem snd_X10_twoThrows (w : Int32) {h : AH} {K : Int32 → AH → Prop} (k : S_X10_twoThrows w h K) : AW M_X10_twoThrows (.inl K) 0 [some (aR 0 0), some (aI w), none, none, none, none, none, none] [] h 0 0 := by
  obtain ⟨V, cv, hw, k⟩ := k
  have h7 := hw.2.1
  unfold R_twoThrows at k
  refine vc_X10_twoThrows w (w_ni (fun q => ?_) (fun q => ?_))
  · rw [if_neg (fun z => z q)] at k
    (try dsimp only)
    rw [(CVs cv).2.2.2.2.2.2.2.2.2.1, n_eq0 (by omega)]
    refine nn_if (fun q0 => ?_) (fun q0 => ?_)
    · rw [if_pos q0] at k; exact k h (keepC_rfl h)
    · rw [if_neg q0] at k; exact lp_X10_twoThrows cv hw q0 k (V 10 1) 0 h _ _ (by omega) (keepC_rfl h) (Or.inl ⟨rfl, rfl, rfl⟩)
  · rw [if_pos q] at k; exact k h (keepC_rfl h)
theorem tr_X10_twoThrows : ∀ (as : List AV) (h : AH) (K : Int32 → AH → Prop), T_X10_twoThrows as h K → ∃ (q : Nat) (r : List AV), as = aR 0 q :: r := by
  intro as h K hk
  match as, hk with
  | [.inr (.inr (.inl q0)), .inl q1], hk =>
    obtain ⟨hb, hk⟩ := tif_inv hk
    simp only [Bool.and_eq_true] at hb
    obtain ⟨e0, e1⟩ := hb
    obtain ⟨a0, b0⟩ := q0
    have f0 : a0 = 0 := Nat.eq_of_beq_eq_true e0
    subst f0
    have f1 : b0 = 0 := Nat.eq_of_beq_eq_true e1
    subst f1
    exact ⟨_, _, rfl⟩
theorem tw_X10_twoThrows : ∀ (as : List AV) (h : AH) (K : Int32 → AH → Prop), T_X10_twoThrows as h K → (ini as).length ≤ mNL M_X10_twoThrows ∧ AW M_X10_twoThrows (.inl K) 0 (initL (mNL M_X10_twoThrows) as) [] h 0 0 := by
  intro as h K hk
  match as, hk with
  | [.inr (.inr (.inl q0)), .inl q1], hk =>
    obtain ⟨hb, hk⟩ := tif_inv hk
    simp only [Bool.and_eq_true] at hb
    obtain ⟨e0, e1⟩ := hb
    obtain ⟨a0, b0⟩ := q0
    have f0 : a0 = 0 := Nat.eq_of_beq_eq_true e0
    subst f0
    have f1 : b0 = 0 := Nat.eq_of_beq_eq_true e1
    subst f1
    exact ⟨Nat.le_of_ble_eq_true rfl, snd_X10_twoThrows q1 hk⟩

def S_X10_greedily (n w : Int32) (h : AH) (K : Int32 → AH → Prop) : Prop := ∃ V, CV h 0 V ∧ WF V ∧ ∀ h', keepC h h' → K (R_greedily V n w) h'
def T_X10_greedily : List AV → AH → (Int32 → AH → Prop) → Prop := fun as h K => match as with
  | [.inr (.inr (.inl q0)), .inl q1, .inl q2] => tif (Nat.beq q0.1 0 && Nat.beq q0.2 0) (S_X10_greedily q1 q2 h K)
  | _ => False

def M_X10_greedily : MI := (RX10, cX10_greedily, 7, [(0, .iload_n 1, []), (1, .iconst 0, []), (2, .bipush 20, []), (4, .invokestatic 59, []), (7, .ifCond .eq 12, [19]), (10, .iload_n 2, []), (11, .iconst 0, []), (12, .iconst 1, []), (13, .invokestatic 59, []), (16, .ifCond .ne 5, [21]), (19, .iconst (-1), []), (20, .ireturn, []), (21, .aload_n 0, []), (22, .getfield 16, []), (25, .aload_n 0, []), (26, .getfield 10, []), (29, .invokevirtual 41, []), (32, .iconst 0, []), (33, .istore_n 3, []), (34, .iconst 0, []), (35, .istore 4, []), (37, .iload 4, []), (39, .iload_n 1, []), (40, .if_icmp .ge 79, [119]), (43, .aload_n 0, []), (44, .getfield 16, []), (47, .invokevirtual 168, []), (50, .istore 5, []), (52, .iload 5, []), (54, .bipush (-4), []), (56, .if_icmp .ne 7, [63]), (59, .iconst 0, []), (60, .goto 20, [80]), (63, .aload_n 0, []), (64, .getfield 16, []), (67, .iload 5, []), (69, .bipush 10, []), (71, .idiv, []), (72, .iload 5, []), (74, .bipush 10, []), (76, .irem, []), (77, .invokevirtual 176, []), (80, .istore 6, []), (82, .iload 6, []), (84, .ifCond .gt 6, [90]), (87, .goto 32, [119]), (90, .aload_n 0, []), (91, .getfield 16, []), (94, .iload 5, []), (96, .bipush 10, []), (98, .idiv, []), (99, .iload 5, []), (101, .bipush 10, []), (103, .irem, []), (104, .invokevirtual 142, []), (107, .pop, []), (108, .iload_n 3, []), (109, .iload 6, []), (111, .iadd, []), (112, .istore_n 3, []), (113, .iinc 4 1, []), (116, .goto (-79), [37]), (119, .iload_n 2, []), (120, .ifCond .ne 7, [127]), (123, .iload_n 3, []), (124, .goto 5, [129]), (127, .iload 4, []), (129, .ireturn, [])], [(16, (0, 1, 1, 1, 1)), (10, (0, 0, 1, 1, 0))], [], [], [(178, (3, 1, 22, 0, 0, .inl T_X10_within)), (123, (2, 2, 48, 0, 0, .inr (.inl T_X9_become))), (504, (1, 5, 116, 0, 0, .inl T_X9_richestThrow)), (528, (3, 5, 109, 0, 0, .inl T_X9_gainOf)), (426, (3, 5, 113, 0, 0, .inl T_X9_throwOnto))], 5, 116, 0, 0)
theorem ok_X10_greedily : MOK M_X10_greedily := ⟨by decide +kernel, List.forall_mem_cons.mpr ⟨fl_RX10_16, List.forall_mem_cons.mpr ⟨fl_RX10_10, fun _ h => absurd h List.not_mem_nil⟩⟩, fun _ h => absurd h List.not_mem_nil, fun _ h => absurd h List.not_mem_nil, List.forall_mem_cons.mpr ⟨⟨Nat.le_of_ble_eq_true rfl, Nat.le_of_ble_eq_true rfl, cr_RX10_178⟩, List.forall_mem_cons.mpr ⟨⟨Nat.le_of_ble_eq_true rfl, Nat.le_of_ble_eq_true rfl, cr_RX10_123⟩, List.forall_mem_cons.mpr ⟨⟨Nat.le_of_ble_eq_true rfl, Nat.le_of_ble_eq_true rfl, cr_RX10_504⟩, List.forall_mem_cons.mpr ⟨⟨Nat.le_of_ble_eq_true rfl, Nat.le_of_ble_eq_true rfl, cr_RX10_528⟩, List.forall_mem_cons.mpr ⟨⟨Nat.le_of_ble_eq_true rfl, Nat.le_of_ble_eq_true rfl, cr_RX10_426⟩, fun _ h => absurd h List.not_mem_nil⟩⟩⟩⟩⟩⟩
set_option maxRecDepth 100000 in
theorem vc_X10_greedily {K : Int32 → AH → Prop} {h : AH} (p1 : Int32) (p2 : Int32) (H : S_X10_within p1 (nI 0) (nI 20) h (fun x2 h1 => ((x2 = 0) → K (iI (-1)) h1) ∧ (¬ (x2 = 0) → S_X10_within p2 (nI 0) (nI 1) h1 (fun x4 h3 => ((¬ x4 = 0) → S_X9_become 1 0 h3 (fun h5 => AW M_X10_greedily (.inl K) 37 [some (aR 0 0), some (aI p1), some (aI p2), some (aI (nI 0)), some (aI (nI 0)), none, none] [] h5 0 0)) ∧ (¬ (¬ x4 = 0) → K (iI (-1)) h3))))) : AW M_X10_greedily (.inl K) 0 [some (aR 0 0), some (aI p1), some (aI p2), none, none, none, none] [] h 0 0 := AW_go (cuts := [(37, [true, true, true, true, true, false, false])]) ok_X10_greedily 400 H
set_option maxRecDepth 100000 in
theorem vc_X10_greedily_37 {K : Int32 → AH → Prop} {h : AH}  (l1 : Int32) (l2 : Int32) (l3 : Int32) (l4 : Int32) (H : ((l1 ≤ l4) → ((¬ l2 = 0) → K l4 h) ∧ (¬ (¬ l2 = 0) → K l3 h)) ∧ (¬ (l1 ≤ l4) → S_X9_richestThrow 1 h (fun x2 h1 => ((¬ x2 = (iI (-4))) → (¬ (nI 10) = 0) ∧ (¬ (nI 10) = 0) ∧ S_X9_gainOf 1 (x2 / (nI 10)) (x2 - x2 / (nI 10) * (nI 10)) h1 (fun x4 h3 => ((0 < x4) → (¬ (nI 10) = 0) ∧ (¬ (nI 10) = 0) ∧ S_X9_throwOnto 1 (x2 / (nI 10)) (x2 - x2 / (nI 10) * (nI 10)) h3 (fun x6 h5 => AW M_X10_greedily (.inl K) 37 [some (aR 0 0), some (aI l1), some (aI l2), some (aI (l3 + x4)), some (aI (l4 + (nI 1))), none, none] [] h5 0 0)) ∧ (¬ (0 < x4) → ((¬ l2 = 0) → K l4 h3) ∧ (¬ (¬ l2 = 0) → K l3 h3)))) ∧ (¬ (¬ x2 = (iI (-4))) → ((0 < (nI 0)) → (¬ (nI 10) = 0) ∧ (¬ (nI 10) = 0) ∧ S_X9_throwOnto 1 (x2 / (nI 10)) (x2 - x2 / (nI 10) * (nI 10)) h1 (fun x8 h7 => AW M_X10_greedily (.inl K) 37 [some (aR 0 0), some (aI l1), some (aI l2), some (aI (l3 + (nI 0))), some (aI (l4 + (nI 1))), none, none] [] h7 0 0)) ∧ (¬ (0 < (nI 0)) → ((¬ l2 = 0) → K l4 h1) ∧ (¬ (¬ l2 = 0) → K l3 h1)))))) : AW M_X10_greedily (.inl K) 37 [some (aR 0 0), some (aI l1), some (aI l2), some (aI l3), some (aI l4), none, none] [] h 0 0 := AW_go (cuts := [(37, [true, true, true, true, true, false, false])]) ok_X10_greedily 400 H

theorem grd_s {n : Nat} {V : Vm} : grd (n + 1) V = if (bst V).1 < 0 ∨ (bst V).2 ≤ 0 then (0, 0) else ((bst V).2 + (grd n (thr V ((bst V).1.toNat / 10) ((bst V).1.toNat % 10))).1, (grd n (thr V ((bst V).1.toNat / 10) ((bst V).1.toNat % 10))).2 + 1) := rfl
theorem lp_X10_greedily {w : Int32} {h0 : AH} {K : Int32 → AH → Prop} {N : Nat} (hN : N ≤ 20) : ∀ r W A B h, B + r = N → WF W → CV h 1 W → keepC h0 h → (∀ h', keepC h0 h' → K (if w = 0 then iI (A + (grd r W).1) else nI (B + (grd r W).2)) h') → AW M_X10_greedily (.inl K) 37 [some (aR 0 0), some (aI (nI N)), some (aI w), some (aI (iI A)), some (aI (nI B)), none, none] [] h 0 0 := by
  intro r
  induction r with
  | zero =>
    intro W A B h hB hw cv hk k
    refine vc_X10_greedily_37 (nI N) w (iI A) (nI B) ?_
    have := k h hk
    rw [grd] at this
    simp only [Int.add_zero, Nat.add_zero] at this
    rw [n_le (by omega) (by omega)]
    refine ⟨fun _ => nn_if (fun q => ?_) (fun q => ?_), fun q => absurd (by omega) q⟩
    · rw [if_pos q] at this; exact this
    · rw [if_neg q] at this; exact this
  | succ r ih =>
    intro W A B h hB hw cv hk k
    refine vc_X10_greedily_37 (nI N) w (iI A) (nI B) ?_
    have stop : ((bst W).1 < 0 ∨ (bst W).2 ≤ 0) → (¬ w = 0 → K (nI B) h) ∧ (¬ ¬ w = 0 → K (iI A) h) := by
      intro hs
      have := k h hk
      rw [grd_s, if_pos hs] at this
      simp only [Int.add_zero, Nat.add_zero] at this
      refine nn_if (fun q => ?_) (fun q => ?_)
      · rw [if_pos q] at this; exact this
      · rw [if_neg q] at this; exact this
    rw [n_le (by omega) (by omega)]
    refine ⟨fun q => by omega, fun _ => ⟨W, cv, hw, ?_⟩⟩
    rcases bst_n hw with ⟨h1, hz⟩ | ⟨a, c, ha, hc, e1, e2, e3, e4, e5, e6⟩
    · rw [h1]
      exact ⟨fun z => absurd rfl z, fun _ => ⟨fun z => absurd z (by decide), fun _ => stop (Or.inl (by omega))⟩⟩
    · refine ⟨fun _ => ⟨by decide, by decide, ?_⟩, fun z => absurd e6 z⟩
      rw [e5, e4]
      refine ⟨W, a, c, cv, hw, ha, rfl, hc, rfl, ?_⟩
      have hg := gn_b hw ha hc
      have i0 : (0 : Int32) < iI (gn W a c) ↔ (0 : Int) < gn W a c := by
        have := i_lt (a := 0) (b := gn W a c) (by omega) (by omega) (by omega) (by omega)
        rw [i_0]
        exact this
      (try dsimp only)
      rw [i0]
      refine ⟨fun q => ⟨by decide, by decide, W, a, c, cv, hw, ha, rfl, hc, rfl, fun h2 o2 c2 => ?_⟩, fun q => stop (Or.inr (by omega))⟩
      rw [i_add, nI_add]
      refine ih (thr W a c) (A + gn W a c) (B + 1) h2 (by omega) (WF_thr hw hc) c2 (keepC_tr hk (keepC_V o2)) (fun h' q' => ?_)
      have := k h' q'
      have hgr : grd (r + 1) W = (gn W a c + (grd r (thr W a c)).1, (grd r (thr W a c)).2 + 1) := by
        rw [grd_s, if_neg (by omega), e1, Int.toNat_natCast, show (10 * a + c) / 10 = a by omega, show (10 * a + c) % 10 = c by omega, e3]
      rw [hgr] at this
      rw [show A + gn W a c + (grd r (thr W a c)).1 = A + (gn W a c + (grd r (thr W a c)).1) by omega, show B + 1 + (grd r (thr W a c)).2 = B + ((grd r (thr W a c)).2 + 1) by omega]
      exact this
theorem snd_X10_greedily (n w : Int32) {h : AH} {K : Int32 → AH → Prop} (k : S_X10_greedily n w h K) : AW M_X10_greedily (.inl K) 0 [some (aR 0 0), some (aI n), some (aI w), none, none, none, none] [] h 0 0 := by
  obtain ⟨V, cv, hw, k⟩ := k
  unfold R_greedily at k
  refine vc_X10_greedily n w (w_if (fun q => w_ni (fun q2 => ⟨by decide, V, cv, hw, fun h2 o2 c2 => ?_⟩) (fun q2 => ?_)) (fun q => ?_))
  · rw [if_neg (by rintro (z | z); exact z q; exact z q2)] at k
    obtain ⟨i, hi, rfl⟩ := (in_n (by omega)).mp q
    unfold nN at k
    rw [n_cl (show i < 2147483648 by omega)] at k
    have := lp_X10_greedily (w := w) (h0 := h) (K := K) hi i V 0 0 h2 (by omega) hw c2 (keepC_V o2) (fun h' q' => by rw [Int.zero_add, Nat.zero_add]; exact k h' q')
    rw [show iI 0 = nI 0 from rfl] at this
    exact this
  · rw [if_pos (Or.inr q2)] at k; exact k h (keepC_rfl h)
  · rw [if_pos (Or.inl q)] at k; exact k h (keepC_rfl h)
theorem tr_X10_greedily : ∀ (as : List AV) (h : AH) (K : Int32 → AH → Prop), T_X10_greedily as h K → ∃ (q : Nat) (r : List AV), as = aR 0 q :: r := by
  intro as h K hk
  match as, hk with
  | [.inr (.inr (.inl q0)), .inl q1, .inl q2], hk =>
    obtain ⟨hb, hk⟩ := tif_inv hk
    simp only [Bool.and_eq_true] at hb
    obtain ⟨e0, e1⟩ := hb
    obtain ⟨a0, b0⟩ := q0
    have f0 : a0 = 0 := Nat.eq_of_beq_eq_true e0
    subst f0
    have f1 : b0 = 0 := Nat.eq_of_beq_eq_true e1
    subst f1
    exact ⟨_, _, rfl⟩
theorem tw_X10_greedily : ∀ (as : List AV) (h : AH) (K : Int32 → AH → Prop), T_X10_greedily as h K → (ini as).length ≤ mNL M_X10_greedily ∧ AW M_X10_greedily (.inl K) 0 (initL (mNL M_X10_greedily) as) [] h 0 0 := by
  intro as h K hk
  match as, hk with
  | [.inr (.inr (.inl q0)), .inl q1, .inl q2], hk =>
    obtain ⟨hb, hk⟩ := tif_inv hk
    simp only [Bool.and_eq_true] at hb
    obtain ⟨e0, e1⟩ := hb
    obtain ⟨a0, b0⟩ := q0
    have f0 : a0 = 0 := Nat.eq_of_beq_eq_true e0
    subst f0
    have f1 : b0 = 0 := Nat.eq_of_beq_eq_true e1
    subst f1
    exact ⟨Nat.le_of_ble_eq_true rfl, snd_X10_greedily q1 q2 hk⟩

def S_X10_broughtDrumming (a c n z : Int32) (h : AH) (K : Int32 → AH → Prop) : Prop := ∃ V s m k x, CV h 0 V ∧ WF V ∧ s < V 10 1 ∧ m < 8 ∧ k ≤ 8 ∧ x < 256 ∧ a = nI s ∧ c = nI m ∧ n = nI k ∧ z = nI x ∧ ∀ h', keepC h h' → K (nI (drm V s m x k).1) h'
def T_X10_broughtDrumming : List AV → AH → (Int32 → AH → Prop) → Prop := fun as h K => match as with
  | [.inr (.inr (.inl q0)), .inl q1, .inl q2, .inl q3, .inl q4] => tif (Nat.beq q0.1 0 && Nat.beq q0.2 0) (S_X10_broughtDrumming q1 q2 q3 q4 h K)
  | _ => False

def M_X10_broughtDrumming : MI := (RX10, cX10_broughtDrumming, 7, [(0, .aload_n 0, []), (1, .getfield 16, []), (4, .aload_n 0, []), (5, .getfield 10, []), (8, .invokevirtual 41, []), (11, .iconst 0, []), (12, .istore 5, []), (14, .iconst 0, []), (15, .istore 6, []), (17, .iload 6, []), (19, .iload_n 3, []), (20, .if_icmp .ge 37, [57]), (23, .aload_n 0, []), (24, .getfield 16, []), (27, .iload 4, []), (29, .iload 6, []), (31, .ishr, []), (32, .iconst 1, []), (33, .iand, []), (34, .putfield 132, []), (37, .iload 5, []), (39, .aload_n 0, []), (40, .getfield 16, []), (43, .iload_n 1, []), (44, .iload_n 2, []), (45, .invokevirtual 142, []), (48, .iadd, []), (49, .istore 5, []), (51, .iinc 6 1, []), (54, .goto (-37), [17]), (57, .iload 5, []), (59, .ireturn, [])], [(16, (0, 1, 1, 1, 1)), (10, (0, 0, 1, 1, 0)), (132, (1, 12, 0, 0, 0))], [], [], [(123, (2, 2, 48, 0, 0, .inr (.inl T_X9_become))), (426, (3, 5, 113, 0, 0, .inl T_X9_throwOnto))], 5, 113, 0, 0)
theorem ok_X10_broughtDrumming : MOK M_X10_broughtDrumming := ⟨by decide +kernel, List.forall_mem_cons.mpr ⟨fl_RX10_16, List.forall_mem_cons.mpr ⟨fl_RX10_10, List.forall_mem_cons.mpr ⟨fl_RX10_132, fun _ h => absurd h List.not_mem_nil⟩⟩⟩, fun _ h => absurd h List.not_mem_nil, fun _ h => absurd h List.not_mem_nil, List.forall_mem_cons.mpr ⟨⟨Nat.le_of_ble_eq_true rfl, Nat.le_of_ble_eq_true rfl, cr_RX10_123⟩, List.forall_mem_cons.mpr ⟨⟨Nat.le_of_ble_eq_true rfl, Nat.le_of_ble_eq_true rfl, cr_RX10_426⟩, fun _ h => absurd h List.not_mem_nil⟩⟩⟩
set_option maxRecDepth 100000 in
theorem vc_X10_broughtDrumming {K : Int32 → AH → Prop} {h : AH} (p1 : Int32) (p2 : Int32) (p3 : Int32) (p4 : Int32) (H : S_X9_become 1 0 h (fun h1 => AW M_X10_broughtDrumming (.inl K) 17 [some (aR 0 0), some (aI p1), some (aI p2), some (aI p3), some (aI p4), some (aI (nI 0)), some (aI (nI 0))] [] h1 0 0)) : AW M_X10_broughtDrumming (.inl K) 0 [some (aR 0 0), some (aI p1), some (aI p2), some (aI p3), some (aI p4), none, none] [] h 0 0 := AW_go (cuts := [(17, [true, true, true, true, true, true, true])]) ok_X10_broughtDrumming 400 H
set_option maxRecDepth 100000 in
theorem vc_X10_broughtDrumming_17 {K : Int32 → AH → Prop} {h : AH}  (l1 : Int32) (l2 : Int32) (l3 : Int32) (l4 : Int32) (l5 : Int32) (l6 : Int32) (H : ((l3 ≤ l6) → K l5 h) ∧ (¬ (l3 ≤ l6) → S_X9_throwOnto 1 l1 l2 (wI h 1 1 12 ((l4 >>> (l6 &&& 31)) &&& (nI 1))) (fun x2 h1 => AW M_X10_broughtDrumming (.inl K) 17 [some (aR 0 0), some (aI l1), some (aI l2), some (aI l3), some (aI l4), some (aI (l5 + x2)), some (aI (l6 + (nI 1)))] [] h1 0 0))) : AW M_X10_broughtDrumming (.inl K) 17 [some (aR 0 0), some (aI l1), some (aI l2), some (aI l3), some (aI l4), some (aI l5), some (aI l6)] [] h 0 0 := AW_go (cuts := [(17, [true, true, true, true, true, true, true])]) ok_X10_broughtDrumming 400 H

theorem lp_X10_broughtDrumming {V : Vm} {s m k x : Nat} {h0 : AH} {K : Int32 → AH → Prop} (hw : WF V) (hs : s < V 10 1) (hm : m < 8) (hk : k ≤ 8) (hx : x < 256) (kk : ∀ h', keepC h0 h' → K (nI (drm V s m x k).1) h') : ∀ r e h, e + r = k → keepC h0 h → CV h 1 (drm V s m x e).2 → AW M_X10_broughtDrumming (.inl K) 17 [some (aR 0 0), some (aI (nI s)), some (aI (nI m)), some (aI (nI k)), some (aI (nI x)), some (aI (nI (drm V s m x e).1)), some (aI (nI e))] [] h 0 0 := by
  intro r
  induction r with
  | zero =>
    intro e h he hq cv
    refine vc_X10_broughtDrumming_17 _ _ _ _ _ _ ?_
    have : e = k := by omega
    subst this
    exact ⟨fun _ => kk h hq, fun q => absurd (Int32.le_refl _) q⟩
  | succ r ih =>
    intro e h he hq cv
    refine vc_X10_broughtDrumming_17 _ _ _ _ _ _ ?_
    rw [n_le (by omega) (by omega), bit2 x hx e (by omega)]
    obtain ⟨d1, d2, d3⟩ := drm_ok (z := x) hw hs hm e
    rw [nI_add]
    refine ⟨fun q => by omega, fun _ => ⟨uV (drm V s m x e).2 10 3 ((x >>> e) % 2), s, m, CV_drums cv, WF_dr d1 (by omega), by rw [uV_ne (by omega), d2]; exact hs, rfl, hm, rfl, fun h' o c => ?_⟩⟩
    (try dsimp only)
    rw [nI_add]
    exact ih (e + 1) h' (by omega) (keepC_tr hq (keepC_V (onlyV_tr (onlyV_w (by omega) (by omega)) o))) c
theorem snd_X10_broughtDrumming (a c n z : Int32) {h : AH} {K : Int32 → AH → Prop} (k : S_X10_broughtDrumming a c n z h K) : AW M_X10_broughtDrumming (.inl K) 0 [some (aR 0 0), some (aI a), some (aI c), some (aI n), some (aI z), none, none] [] h 0 0 := by
  obtain ⟨V, s, m, k, x, cv, hw, hs, hm, hk, hx, rfl, rfl, rfl, rfl, kk⟩ := k
  exact vc_X10_broughtDrumming _ _ _ _ ⟨by decide, V, cv, hw, fun h1 o1 c1 => lp_X10_broughtDrumming hw hs hm hk hx kk k 0 h1 (by omega) (keepC_V o1) c1⟩
theorem tr_X10_broughtDrumming : ∀ (as : List AV) (h : AH) (K : Int32 → AH → Prop), T_X10_broughtDrumming as h K → ∃ (q : Nat) (r : List AV), as = aR 0 q :: r := by
  intro as h K hk
  match as, hk with
  | [.inr (.inr (.inl q0)), .inl q1, .inl q2, .inl q3, .inl q4], hk =>
    obtain ⟨hb, hk⟩ := tif_inv hk
    simp only [Bool.and_eq_true] at hb
    obtain ⟨e0, e1⟩ := hb
    obtain ⟨a0, b0⟩ := q0
    have f0 : a0 = 0 := Nat.eq_of_beq_eq_true e0
    subst f0
    have f1 : b0 = 0 := Nat.eq_of_beq_eq_true e1
    subst f1
    exact ⟨_, _, rfl⟩
theorem tw_X10_broughtDrumming : ∀ (as : List AV) (h : AH) (K : Int32 → AH → Prop), T_X10_broughtDrumming as h K → (ini as).length ≤ mNL M_X10_broughtDrumming ∧ AW M_X10_broughtDrumming (.inl K) 0 (initL (mNL M_X10_broughtDrumming) as) [] h 0 0 := by
  intro as h K hk
  match as, hk with
  | [.inr (.inr (.inl q0)), .inl q1, .inl q2, .inl q3, .inl q4], hk =>
    obtain ⟨hb, hk⟩ := tif_inv hk
    simp only [Bool.and_eq_true] at hb
    obtain ⟨e0, e1⟩ := hb
    obtain ⟨a0, b0⟩ := q0
    have f0 : a0 = 0 := Nat.eq_of_beq_eq_true e0
    subst f0
    have f1 : b0 = 0 := Nat.eq_of_beq_eq_true e1
    subst f1
    exact ⟨Nat.le_of_ble_eq_true rfl, snd_X10_broughtDrumming q1 q2 q3 q4 hk⟩
theorem cr_RX10_537 : CR RX10 (kIns 537) (5, 6, 139, 0, 0, .inl T_X10_broughtDrumming) := crV_i (t := 0) (M := M_X10_broughtDrumming) (by decide) rfl (by decide) rfl (inG (i := 611) (w := Cond.methodLink RX10 179 yX10_broughtDrumming) (by decide +kernel) rfl) (inG (i := 613) (w := Cond.instanceMethod yX10_broughtDrumming) (by decide +kernel) rfl) (inG (i := 37) (w := Cond.initialized RX10) (by decide +kernel) rfl) (inG (i := 10) (w := Cond.selects RX10 yX10_broughtDrumming yX10_broughtDrumming) (by decide +kernel) rfl) (inG (i := 614) (w := Cond.code yX10_broughtDrumming cX10_broughtDrumming 7 (some .int)) (by decide +kernel) rfl) ⟨by decide +kernel, by decide +kernel, by decide +kernel⟩ tr_X10_broughtDrumming tw_X10_broughtDrumming

def S_X10_drum (a c n w : Int32) (h : AH) (K : Int32 → AH → Prop) : Prop := ∃ V, CV h 0 V ∧ WF V ∧ ∀ h', keepC h h' → K (R_drum V a c n w) h'
def T_X10_drum : List AV → AH → (Int32 → AH → Prop) → Prop := fun as h K => match as with
  | [.inr (.inr (.inl q0)), .inl q1, .inl q2, .inl q3, .inl q4] => tif (Nat.beq q0.1 0 && Nat.beq q0.2 0) (S_X10_drum q1 q2 q3 q4 h K)
  | _ => False

def M_X10_drum : MI := (RX10, cX10_drum, 10, [(0, .iload_n 3, []), (1, .iconst 0, []), (2, .bipush 8, []), (4, .invokestatic 59, []), (7, .ifCond .eq 25, [32]), (10, .iload 4, []), (12, .iconst 0, []), (13, .iconst 1, []), (14, .invokestatic 59, []), (17, .ifCond .eq 15, [32]), (20, .aload_n 0, []), (21, .getfield 10, []), (24, .iload_n 1, []), (25, .iload_n 2, []), (26, .invokevirtual 138, []), (29, .goto 4, [33]), (32, .iconst (-1), []), (33, .istore 5, []), (35, .iload 5, []), (37, .ifCond .eq 6, [43]), (40, .iload 5, []), (42, .ireturn, []), (43, .iconst 0, []), (44, .istore 6, []), (46, .iconst (-1), []), (47, .istore 7, []), (49, .iconst 0, []), (50, .istore 8, []), (52, .iload 8, []), (54, .iconst 1, []), (55, .iload_n 3, []), (56, .ishl, []), (57, .if_icmp .ge 35, [92]), (60, .aload_n 0, []), (61, .iload_n 1, []), (62, .iload_n 2, []), (63, .iload_n 3, []), (64, .iload 8, []), (66, .invokevirtual 179, []), (69, .istore 9, []), (71, .iload 9, []), (73, .iload 7, []), (75, .if_icmp .le 11, [86]), (78, .iload 9, []), (80, .istore 7, []), (82, .iload 8, []), (84, .istore 6, []), (86, .iinc 8 1, []), (89, .goto (-37), [52]), (92, .iload 4, []), (94, .ifCond .ne 8, [102]), (97, .iload 6, []), (99, .goto 5, [104]), (102, .iload 7, []), (104, .ireturn, [])], [(10, (0, 0, 1, 1, 0))], [], [], [(178, (3, 1, 22, 0, 0, .inl T_X10_within)), (414, (3, 3, 66, 0, 0, .inl T_X9_refusedThrow)), (537, (5, 6, 139, 0, 0, .inl T_X10_broughtDrumming))], 6, 139, 0, 0)
theorem ok_X10_drum : MOK M_X10_drum := ⟨by decide +kernel, List.forall_mem_cons.mpr ⟨fl_RX10_10, fun _ h => absurd h List.not_mem_nil⟩, fun _ h => absurd h List.not_mem_nil, fun _ h => absurd h List.not_mem_nil, List.forall_mem_cons.mpr ⟨⟨Nat.le_of_ble_eq_true rfl, Nat.le_of_ble_eq_true rfl, cr_RX10_178⟩, List.forall_mem_cons.mpr ⟨⟨Nat.le_of_ble_eq_true rfl, Nat.le_of_ble_eq_true rfl, cr_RX10_414⟩, List.forall_mem_cons.mpr ⟨⟨Nat.le_of_ble_eq_true rfl, Nat.le_of_ble_eq_true rfl, cr_RX10_537⟩, fun _ h => absurd h List.not_mem_nil⟩⟩⟩⟩
set_option maxRecDepth 100000 in
theorem vc_X10_drum {K : Int32 → AH → Prop} {h : AH} (p1 : Int32) (p2 : Int32) (p3 : Int32) (p4 : Int32) (H : S_X10_within p3 (nI 0) (nI 8) h (fun x2 h1 => ((x2 = 0) → (((iI (-1)) = 0) → AW M_X10_drum (.inl K) 52 [some (aR 0 0), some (aI p1), some (aI p2), some (aI p3), some (aI p4), none, some (aI (nI 0)), some (aI (iI (-1))), some (aI (nI 0)), none] [] h1 0 0) ∧ (¬ ((iI (-1)) = 0) → K (iI (-1)) h1)) ∧ (¬ (x2 = 0) → S_X10_within p4 (nI 0) (nI 1) h1 (fun x4 h3 => ((x4 = 0) → (((iI (-1)) = 0) → AW M_X10_drum (.inl K) 52 [some (aR 0 0), some (aI p1), some (aI p2), some (aI p3), some (aI p4), none, some (aI (nI 0)), some (aI (iI (-1))), some (aI (nI 0)), none] [] h3 0 0) ∧ (¬ ((iI (-1)) = 0) → K (iI (-1)) h3)) ∧ (¬ (x4 = 0) → S_X9_refusedThrow 0 p1 p2 h3 (fun x6 h5 => ((x6 = 0) → AW M_X10_drum (.inl K) 52 [some (aR 0 0), some (aI p1), some (aI p2), some (aI p3), some (aI p4), none, some (aI (nI 0)), some (aI (iI (-1))), some (aI (nI 0)), none] [] h5 0 0) ∧ (¬ (x6 = 0) → K x6 h5))))))) : AW M_X10_drum (.inl K) 0 [some (aR 0 0), some (aI p1), some (aI p2), some (aI p3), some (aI p4), none, none, none, none, none] [] h 0 0 := AW_go (cuts := [(52, [true, true, true, true, true, false, true, true, true, false])]) ok_X10_drum 400 H
set_option maxRecDepth 100000 in
theorem vc_X10_drum_52 {K : Int32 → AH → Prop} {h : AH}  (l1 : Int32) (l2 : Int32) (l3 : Int32) (l4 : Int32) (l6 : Int32) (l7 : Int32) (l8 : Int32) (H : ((((nI 1) <<< (l3 &&& 31)) ≤ l8) → ((¬ l4 = 0) → K l7 h) ∧ (¬ (¬ l4 = 0) → K l6 h)) ∧ (¬ (((nI 1) <<< (l3 &&& 31)) ≤ l8) → S_X10_broughtDrumming l1 l2 l3 l8 h (fun x2 h1 => ((x2 ≤ l7) → AW M_X10_drum (.inl K) 52 [some (aR 0 0), some (aI l1), some (aI l2), some (aI l3), some (aI l4), none, some (aI l6), some (aI l7), some (aI (l8 + (nI 1))), none] [] h1 0 0) ∧ (¬ (x2 ≤ l7) → AW M_X10_drum (.inl K) 52 [some (aR 0 0), some (aI l1), some (aI l2), some (aI l3), some (aI l4), none, some (aI l8), some (aI x2), some (aI (l8 + (nI 1))), none] [] h1 0 0)))) : AW M_X10_drum (.inl K) 52 [some (aR 0 0), some (aI l1), some (aI l2), some (aI l3), some (aI l4), none, some (aI l6), some (aI l7), some (aI l8), none] [] h 0 0 := AW_go (cuts := [(52, [true, true, true, true, true, false, true, true, true, false])]) ok_X10_drum 400 H

theorem lp_X10_drum {V : Vm} {s m n : Nat} {w : Int32} {h0 : AH} {K : Int32 → AH → Prop} (cv : CV h0 0 V) (hw : WF V) (hs : s < V 10 1) (hm : m < 8) (hn : n ≤ 8) (k : ∀ h', keepC h0 h' → K (if w = 0 then iI (drB V s m n).1 else iI (drB V s m n).2) h') : ∀ r z h, z + r = 2 ^ n → keepC h0 h → AW M_X10_drum (.inl K) 52 [some (aR 0 0), some (aI (nI s)), some (aI (nI m)), some (aI (nI n)), some (aI w), none, some (aI (iI (am1 (fun z => ((drm V s m z n).1 : Int)) z (0, -1)).1)), some (aI (iI (am1 (fun z => ((drm V s m z n).1 : Int)) z (0, -1)).2)), some (aI (nI z)), none] [] h 0 0 := by
  have hp := pow8 hn
  have bb := am1_b (f := fun z => ((drm V s m z n).1 : Int)) (n := 2 ^ n) (p := (0, -1)) (A := -1) (B := 432) (fun z _ => by have := (drm_ok (z := z) hw hs hm n).2.2; omega) (by simp) (by simp) (by simp) (Int.natCast_nonneg _)
  intro r
  induction r with
  | zero =>
    intro z h hz h1
    refine vc_X10_drum_52 (nI s) (nI m) (nI n) w _ _ (nI z) ?_
    rw [sh2 n (by omega), n_le (by omega) (by omega)]
    have : z = 2 ^ n := by omega
    subst this
    have := k h h1
    refine ⟨fun _ => nn_if (fun q => ?_) (fun q => ?_), fun q => absurd (by omega) q⟩
    · rw [if_pos q] at this; exact this
    · rw [if_neg q] at this; exact this
  | succ r ih =>
    intro z h hz h1
    refine vc_X10_drum_52 (nI s) (nI m) (nI n) w _ _ (nI z) ?_
    rw [sh2 n (by omega), n_le (by omega) (by omega)]
    refine ⟨fun q => by omega, fun _ => ⟨V, s, m, n, z, CV_K h1 (by decide) cv, hw, hs, hm, hn, by omega, rfl, rfl, rfl, rfl, fun h2 k2 => ?_⟩⟩
    obtain ⟨b1, b2, b3, b4⟩ := bb z (by omega)
    have hd := (drm_ok (z := z) hw hs hm n).2.2
    have := ih (z + 1) h2 (by omega) (keepC_tr h1 k2)
    rw [am1_s] at this
    (try dsimp only)
    rw [nI_iI (drm V s m z n).1, i_le (by omega) (by omega) (by omega) (by omega), nI_add]
    refine ⟨fun q => ?_, fun q => ?_⟩
    · rw [if_neg (by omega)] at this; exact this
    · rw [if_pos (by omega), ← nI_iI z] at this; exact this
theorem snd_X10_drum (a c n w : Int32) {h : AH} {K : Int32 → AH → Prop} (k : S_X10_drum a c n w h K) : AW M_X10_drum (.inl K) 0 [some (aR 0 0), some (aI a), some (aI c), some (aI n), some (aI w), none, none, none, none, none] [] h 0 0 := by
  obtain ⟨V, cv, hw, k⟩ := k
  unfold R_drum at k
  have no : ¬ (nI 0 ≤ n ∧ n ≤ nI 8) ∨ ¬ w01 w → K (iI (-1)) h := fun z => by
    rw [if_pos z] at k
    exact k h (keepC_rfl h)
  refine vc_X10_drum a c n w (w_if (fun q => w_if (fun q2 => ⟨V, cv, hw, ?_⟩) (fun q2 => ⟨fun z => absurd z (by decide), fun _ => no (Or.inr q2)⟩)) (fun q => ⟨fun z => absurd z (by decide), fun _ => no (Or.inl q)⟩))
  rw [if_neg (by rintro (z | z); exact z q; exact z q2)] at k
  rcases rfT_cases hw a c with ⟨s, m, hs, hm, hf, rfl, rfl, e⟩ | e
  case inr =>
    rw [if_pos e] at k
    exact ⟨fun z => absurd z e, fun _ => k h (keepC_rfl h)⟩
  rw [if_neg (fun z => z e)] at k
  have h7 := hw.2.1
  obtain ⟨i, hi, rfl⟩ := (in_n (by omega)).mp q
  unfold nN at k
  rw [n_cl (show s < 2147483648 by omega), n_cl (show m < 2147483648 by omega), n_cl (show i < 2147483648 by omega)] at k
  exact ⟨fun _ => lp_X10_drum cv hw hs hm hi k (2 ^ i) 0 h (by omega) (keepC_rfl h), fun q => absurd e q⟩
theorem tr_X10_drum : ∀ (as : List AV) (h : AH) (K : Int32 → AH → Prop), T_X10_drum as h K → ∃ (q : Nat) (r : List AV), as = aR 0 q :: r := by
  intro as h K hk
  match as, hk with
  | [.inr (.inr (.inl q0)), .inl q1, .inl q2, .inl q3, .inl q4], hk =>
    obtain ⟨hb, hk⟩ := tif_inv hk
    simp only [Bool.and_eq_true] at hb
    obtain ⟨e0, e1⟩ := hb
    obtain ⟨a0, b0⟩ := q0
    have f0 : a0 = 0 := Nat.eq_of_beq_eq_true e0
    subst f0
    have f1 : b0 = 0 := Nat.eq_of_beq_eq_true e1
    subst f1
    exact ⟨_, _, rfl⟩
theorem tw_X10_drum : ∀ (as : List AV) (h : AH) (K : Int32 → AH → Prop), T_X10_drum as h K → (ini as).length ≤ mNL M_X10_drum ∧ AW M_X10_drum (.inl K) 0 (initL (mNL M_X10_drum) as) [] h 0 0 := by
  intro as h K hk
  match as, hk with
  | [.inr (.inr (.inl q0)), .inl q1, .inl q2, .inl q3, .inl q4], hk =>
    obtain ⟨hb, hk⟩ := tif_inv hk
    simp only [Bool.and_eq_true] at hb
    obtain ⟨e0, e1⟩ := hb
    obtain ⟨a0, b0⟩ := q0
    have f0 : a0 = 0 := Nat.eq_of_beq_eq_true e0
    subst f0
    have f1 : b0 = 0 := Nat.eq_of_beq_eq_true e1
    subst f1
    exact ⟨Nat.le_of_ble_eq_true rfl, snd_X10_drum q1 q2 q3 q4 hk⟩


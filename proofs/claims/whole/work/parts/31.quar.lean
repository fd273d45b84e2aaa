/-! ===== the reference: nests ===== -/
def cx (g : Nat → Nat) (i j k : Nat) : Nat := if k = i then max (g i) (g j) else if k = j then min (g i) (g j) else g k
def srt (w : Nat → Nat) : Nat → Nat := cx (cx (cx (cx (cx (cx w 0 1) 0 2) 0 3) 1 2) 1 3) 2 3
theorem most_n {a b : Nat} (ha : a < 2147483648) (hb : b < 2147483648) : (if nI b < nI a then nI a else nI b) = nI (max a b) := by
  by_cases q : b < a
  · rw [if_pos ((n_lt hb ha).mpr q), Nat.max_eq_left (by omega)]
  · rw [if_neg (fun z => q ((n_lt hb ha).mp z)), Nat.max_eq_right (by omega)]
def S_X11_sorts (h : AH) (K : AH → Prop) : Prop := ∃ V, RV (h.1 16 0) V ∧ (∀ n, n < 4 → V 3 n < 500000000) ∧ ∀ h', only 20 0 h h' → (∀ i, i < 4 → h'.1 20 0 i = nI (srt (V 3) i)) → K h'
def T_X11_sorts : List AV → AH → (AH → Prop) → Prop := fun as h K => match as with
  | [.inr (.inr (.inl q0))] => tif (Nat.beq q0.1 15 && Nat.beq q0.2 0) (S_X11_sorts h K)
  | _ => False

def M_X11_sorts : MI := (RX11, cX11_sorts, 4, [(0, .iconst 0, []), (1, .istore_n 1, []), (2, .iload_n 1, []), (3, .iconst 4, []), (4, .if_icmp .ge 24, [28]), (7, .aload_n 0, []), (8, .getfield 32, []), (11, .iload_n 1, []), (12, .aload_n 0, []), (13, .getfield 9, []), (16, .bipush 44, []), (18, .iload_n 1, []), (19, .iadd, []), (20, .iaload, []), (21, .iastore, []), (22, .iinc 1 1, []), (25, .goto (-23), [2]), (28, .iconst 0, []), (29, .istore_n 1, []), (30, .iload_n 1, []), (31, .iconst 4, []), (32, .if_icmp .ge 68, [100]), (35, .iload_n 1, []), (36, .iconst 1, []), (37, .iadd, []), (38, .istore_n 2, []), (39, .iload_n 2, []), (40, .iconst 4, []), (41, .if_icmp .ge 53, [94]), (44, .aload_n 0, []), (45, .getfield 32, []), (48, .iload_n 1, []), (49, .iaload, []), (50, .aload_n 0, []), (51, .getfield 32, []), (54, .iload_n 2, []), (55, .iaload, []), (56, .invokestatic 88, []), (59, .istore_n 3, []), (60, .aload_n 0, []), (61, .getfield 32, []), (64, .iload_n 2, []), (65, .aload_n 0, []), (66, .getfield 32, []), (69, .iload_n 1, []), (70, .iaload, []), (71, .aload_n 0, []), (72, .getfield 32, []), (75, .iload_n 2, []), (76, .iaload, []), (77, .invokestatic 85, []), (80, .iastore, []), (81, .aload_n 0, []), (82, .getfield 32, []), (85, .iload_n 1, []), (86, .iload_n 3, []), (87, .iastore, []), (88, .iinc 2 1, []), (91, .goto (-52), [39]), (94, .iinc 1 1, []), (97, .goto (-67), [30]), (100, .return_, [])], [(32, (15, 14, 1, 20, 0)), (9, (15, 0, 1, 16, 0))], [], [], [(265, (2, 1, 21, 0, 0, .inl T_X11_most)), (256, (2, 1, 21, 0, 0, .inl T_X11_least))], 1, 21, 0, 0)
theorem ok_X11_sorts : MOK M_X11_sorts := ⟨by decide +kernel, List.forall_mem_cons.mpr ⟨fl_RX11_32, List.forall_mem_cons.mpr ⟨fl_RX11_9, fun _ h => absurd h List.not_mem_nil⟩⟩, fun _ h => absurd h List.not_mem_nil, fun _ h => absurd h List.not_mem_nil, List.forall_mem_cons.mpr ⟨⟨Nat.le_of_ble_eq_true rfl, Nat.le_of_ble_eq_true rfl, cr_RX11_265⟩, List.forall_mem_cons.mpr ⟨⟨Nat.le_of_ble_eq_true rfl, Nat.le_of_ble_eq_true rfl, cr_RX11_256⟩, fun _ h => absurd h List.not_mem_nil⟩⟩⟩
set_option maxRecDepth 100000 in
theorem vc_X11_sorts {K : AH → Prop} {h : AH}  (H : AW M_X11_sorts (.inr (.inl K)) 2 [some (aR 15 0), some (aI (nI 0)), none, none] [] h 0 0) : AW M_X11_sorts (.inr (.inl K)) 0 [some (aR 15 0), none, none, none] [] h 0 0 := AW_go (cuts := [(2, [true, true, false, false]), (30, [true, true, false, false]), (39, [true, true, true, false])]) ok_X11_sorts 400 H
set_option maxRecDepth 100000 in
theorem vc_X11_sorts_2 {K : AH → Prop} {h : AH}  (l1 : Int32) (H : (((nI 4) ≤ l1) → AW M_X11_sorts (.inr (.inl K)) 30 [some (aR 15 0), some (aI (nI 0)), none, none] [] h 0 0) ∧ (¬ ((nI 4) ≤ l1) → inR ((nI 44) + l1) 62 ∧ inR l1 4 ∧ AW M_X11_sorts (.inr (.inl K)) 2 [some (aR 15 0), some (aI (l1 + (nI 1))), none, none] [] (wI h 20 0 l1.toNatClampNeg (h.1 16 0 ((nI 44) + l1).toNatClampNeg)) 0 0)) : AW M_X11_sorts (.inr (.inl K)) 2 [some (aR 15 0), some (aI l1), none, none] [] h 0 0 := AW_go (cuts := [(2, [true, true, false, false]), (30, [true, true, false, false]), (39, [true, true, true, false])]) ok_X11_sorts 400 H
set_option maxRecDepth 100000 in
theorem vc_X11_sorts_30 {K : AH → Prop} {h : AH}  (l1 : Int32) (H : (((nI 4) ≤ l1) → K h) ∧ (¬ ((nI 4) ≤ l1) → AW M_X11_sorts (.inr (.inl K)) 39 [some (aR 15 0), some (aI l1), some (aI (l1 + (nI 1))), none] [] h 0 0)) : AW M_X11_sorts (.inr (.inl K)) 30 [some (aR 15 0), some (aI l1), none, none] [] h 0 0 := AW_go (cuts := [(2, [true, true, false, false]), (30, [true, true, false, false]), (39, [true, true, true, false])]) ok_X11_sorts 400 H
set_option maxRecDepth 100000 in
theorem vc_X11_sorts_39 {K : AH → Prop} {h : AH}  (l1 : Int32) (l2 : Int32) (H : (((nI 4) ≤ l2) → AW M_X11_sorts (.inr (.inl K)) 30 [some (aR 15 0), some (aI (l1 + (nI 1))), none, none] [] h 0 0) ∧ (¬ ((nI 4) ≤ l2) → inR l1 4 ∧ inR l2 4 ∧ S_X11_most (h.1 20 0 l1.toNatClampNeg) (h.1 20 0 l2.toNatClampNeg) h (fun x2 h1 => inR l1 4 ∧ inR l2 4 ∧ S_X11_least (h1.1 20 0 l1.toNatClampNeg) (h1.1 20 0 l2.toNatClampNeg) h1 (fun x4 h3 => inR l2 4 ∧ inR l1 4 ∧ AW M_X11_sorts (.inr (.inl K)) 39 [some (aR 15 0), some (aI l1), some (aI (l2 + (nI 1))), none] [] (wI (wI h3 20 0 l2.toNatClampNeg x4) 20 0 l1.toNatClampNeg x2) 0 0)))) : AW M_X11_sorts (.inr (.inl K)) 39 [some (aR 15 0), some (aI l1), some (aI l2), none] [] h 0 0 := AW_go (cuts := [(2, [true, true, false, false]), (30, [true, true, false, false]), (39, [true, true, true, false])]) ok_X11_sorts 400 H

theorem st_X11_sorts {h : AH} {K : AH → Prop} {g : Nat → Nat} {i j : Nat} (hij : i < j) (hj : j < 4) (hg : ∀ k, k < 4 → g k < 500000000) (he : ∀ k, k < 4 → h.1 20 0 k = nI (g k)) (k : ∀ h', only 20 0 h h' → (∀ k, k < 4 → h'.1 20 0 k = nI (cx g i j k)) → (∀ k, k < 4 → cx g i j k < 500000000) → AW M_X11_sorts (.inr (.inl K)) 39 [some (aR 15 0), some (aI (nI i)), some (aI (nI (j + 1))), none] [] h' 0 0) : AW M_X11_sorts (.inr (.inl K)) 39 [some (aR 15 0), some (aI (nI i)), some (aI (nI j)), none] [] h 0 0 := by
  refine vc_X11_sorts_39 (nI i) (nI j) ?_
  have g1 := hg i (by omega)
  have g2 := hg j (by omega)
  have e1 := he i (by omega)
  have e2 := he j (by omega)
  unfold S_X11_most S_X11_least
  simp (disch := omega) only [n_inT, n_cl, true_and, n_le, nI_add, e1, e2, most_n, least_n]
  refine ⟨fun q => by omega, fun _ => k _ (only_tr (only_wI _ _ _ _ _) (only_wI _ _ _ _ _)) (fun a ha => ?_) (fun a ha => ?_)⟩
  · unfold cx
    by_cases z : a = i
    · subst z
      rw [if_pos rfl]; first | rw [wI_at] | rw [uI_at]
    · rw [if_neg z]; first | rw [wI_ni z] | rw [uI_ni z]
      by_cases y : a = j
      · subst y
        rw [if_pos rfl]; first | rw [wI_at] | rw [uI_at]
      · rw [if_neg y]; first | rw [wI_ni y] | rw [uI_ni y]
        exact he a ha
  · unfold cx
    have := hg a ha
    split
    · omega
    · split <;> omega
theorem en_X11_sorts {h : AH} {K : AH → Prop} {i : Nat} (hi : i < 4) (k : AW M_X11_sorts (.inr (.inl K)) 30 [some (aR 15 0), some (aI (nI (i + 1))), none, none] [] h 0 0) : AW M_X11_sorts (.inr (.inl K)) 39 [some (aR 15 0), some (aI (nI i)), some (aI (nI 4)), none] [] h 0 0 := by
  refine vc_X11_sorts_39 (nI i) (nI 4) ⟨fun _ => ?_, fun q => absurd (by decide) q⟩
  rw [nI_add]
  exact k
theorem be_X11_sorts {h : AH} {K : AH → Prop} {i : Nat} (hi : i < 4) (k : AW M_X11_sorts (.inr (.inl K)) 39 [some (aR 15 0), some (aI (nI i)), some (aI (nI (i + 1))), none] [] h 0 0) : AW M_X11_sorts (.inr (.inl K)) 30 [some (aR 15 0), some (aI (nI i)), none, none] [] h 0 0 := by
  refine vc_X11_sorts_30 (nI i) ?_
  simp (disch := omega) only [n_le, nI_add]
  exact ⟨fun q => by omega, fun _ => k⟩
theorem lp_X11_sorts {V : Vm} {h0 : AH} {K : AH → Prop} (hr : RV (h0.1 16 0) V) (hb : ∀ n, n < 4 → V 3 n < 500000000) (k : ∀ h', only 20 0 h0 h' → (∀ i, i < 4 → h'.1 20 0 i = nI (srt (V 3) i)) → K h') : ∀ r i h, i + r = 4 → only 20 0 h0 h → (∀ a, a < i → h.1 20 0 a = nI (V 3 a)) → AW M_X11_sorts (.inr (.inl K)) 2 [some (aR 15 0), some (aI (nI i)), none, none] [] h 0 0 := by
  intro r
  induction r with
  | zero =>
    intro i h hi o he
    have : i = 4 := by omega
    subst this
    refine vc_X11_sorts_2 (nI 4) ⟨fun _ => ?_, fun q => absurd (by decide) q⟩
    refine be_X11_sorts (i := 0) (by omega) (st_X11_sorts (i := 0) (j := 1) (by omega) (by omega) hb he (fun h1 o1 e1 b1 => ?_))
    refine st_X11_sorts (i := 0) (j := 2) (by omega) (by omega) b1 e1 (fun h2 o2 e2 b2 => ?_)
    refine st_X11_sorts (i := 0) (j := 3) (by omega) (by omega) b2 e2 (fun h3 o3 e3 b3 => ?_)
    refine en_X11_sorts (i := 0) (by omega) (be_X11_sorts (i := 1) (by omega) ?_)
    refine st_X11_sorts (i := 1) (j := 2) (by omega) (by omega) b3 e3 (fun h4 o4 e4 b4 => ?_)
    refine st_X11_sorts (i := 1) (j := 3) (by omega) (by omega) b4 e4 (fun h5 o5 e5 b5 => ?_)
    refine en_X11_sorts (i := 1) (by omega) (be_X11_sorts (i := 2) (by omega) ?_)
    refine st_X11_sorts (i := 2) (j := 3) (by omega) (by omega) b5 e5 (fun h6 o6 e6 b6 => ?_)
    refine en_X11_sorts (i := 2) (by omega) (be_X11_sorts (i := 3) (by omega) ?_)
    refine en_X11_sorts (i := 3) (by omega) ?_
    refine vc_X11_sorts_30 (nI 4) ⟨fun _ => ?_, fun q => absurd (by decide) q⟩
    exact k h6 (only_tr o (only_tr o1 (only_tr o2 (only_tr o3 (only_tr o4 (only_tr o5 o6)))))) e6
  | succ r ih =>
    intro i h hi o he
    refine vc_X11_sorts_2 (nI i) ?_
    have hr1 := hr
    rw [← o.2 16 0 (by omega)] at hr1
    have e1 := (RVs hr1).2.2.2.1 i (by omega)
    simp (disch := omega) only [n_inT, n_cl, true_and, n_le, nI_add, e1]
    refine ⟨fun q => by omega, fun _ => ih (i + 1) _ (by omega) (only_tr o (only_wI _ _ _ _ _)) (fun a ha => ?_)⟩
    by_cases z : a = i
    · subst z; first | rw [wI_at] | rw [uI_at]
    · first | rw [wI_ni z] | rw [uI_ni z]
      exact he a (by omega)
theorem snd_X11_sorts {h : AH} {K : AH → Prop} (k : S_X11_sorts h K) : AW M_X11_sorts (.inr (.inl K)) 0 [some (aR 15 0), none, none, none] [] h 0 0 := by
  obtain ⟨V, hr, hb, k⟩ := k
  exact vc_X11_sorts (lp_X11_sorts hr hb k 4 0 h (by omega) (only_rfl _ _ _) (fun a q => absurd q (by omega)))
theorem tr_X11_sorts : ∀ (as : List AV) (h : AH) (K : AH → Prop), T_X11_sorts as h K → ∃ (q : Nat) (r : List AV), as = aR 15 q :: r := by
  intro as h K hk
  match as, hk with
  | [.inr (.inr (.inl q0))], hk =>
    obtain ⟨hb, hk⟩ := tif_inv hk
    simp only [Bool.and_eq_true] at hb
    obtain ⟨e0, e1⟩ := hb
    obtain ⟨a0, b0⟩ := q0
    have f0 : a0 = 15 := Nat.eq_of_beq_eq_true e0
    subst f0
    have f1 : b0 = 0 := Nat.eq_of_beq_eq_true e1
    subst f1
    exact ⟨_, _, rfl⟩
theorem tw_X11_sorts : ∀ (as : List AV) (h : AH) (K : AH → Prop), T_X11_sorts as h K → (ini as).length ≤ mNL M_X11_sorts ∧ AW M_X11_sorts (.inr (.inl K)) 0 (initL (mNL M_X11_sorts) as) [] h 0 0 := by
  intro as h K hk
  match as, hk with
  | [.inr (.inr (.inl q0))], hk =>
    obtain ⟨hb, hk⟩ := tif_inv hk
    simp only [Bool.and_eq_true] at hb
    obtain ⟨e0, e1⟩ := hb
    obtain ⟨a0, b0⟩ := q0
    have f0 : a0 = 15 := Nat.eq_of_beq_eq_true e0
    subst f0
    have f1 : b0 = 0 := Nat.eq_of_beq_eq_true e1
    subst f1
    exact ⟨Nat.le_of_ble_eq_true rfl, snd_X11_sorts  hk⟩
theorem cr_RX11_666 : CR RX11 (kIns 666) (1, 2, 44, 0, 0, .inr (.inl T_X11_sorts)) := crV_v (t := 15) (M := M_X11_sorts) (by decide) rfl (by decide) rfl (inG (i := 1258) (w := Cond.methodLink RX11 222 yX11_sorts) (by decide +kernel) rfl) (inG (i := 1260) (w := Cond.instanceMethod yX11_sorts) (by decide +kernel) rfl) (inG (i := 40) (w := Cond.initialized RX11) (by decide +kernel) rfl) (inG (i := 34) (w := Cond.selects RX11 yX11_sorts yX11_sorts) (by decide +kernel) rfl) (inG (i := 1261) (w := Cond.code yX11_sorts cX11_sorts 4 (none)) (by decide +kernel) rfl) ⟨by decide +kernel, by decide +kernel, by decide +kernel⟩ tr_X11_sorts tw_X11_sorts


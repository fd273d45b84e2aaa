/-! ===== the component's valley: copied, filled, thrown into ===== -/
def bcm (v u : Nat) (h0 h : AH) (k e : Nat) : Prop := onlyV v h0 h ∧ (∀ t, 2 ≤ t → t < k → ∀ i, i < (if t ≤ 4 then 8 else 4) → h.1 t v i = h0.1 t u i) ∧ ∀ i, i < e → h.2.1 10 v i = h0.2.1 10 u i
theorem cA_get (h : AH) (t p q n a b j : Nat) : (cA h t p 0 t q 0 n).1 a b j = if a = t ∧ b = q ∧ j < n then h.1 t p j else h.1 a b j := by
  show uC h.1 t p 0 t q 0 n a b j = _
  unfold uC
  by_cases z : a = t ∧ b = q ∧ j < n
  · rw [if_pos ⟨z.1, z.2.1, by omega, by omega⟩, if_pos z, Nat.zero_add, Nat.sub_zero]
  · rw [if_neg z, if_neg (fun y => z ⟨y.1, y.2.1, by omega⟩)]
theorem bcm_c {v u : Nat} {h0 h : AH} {t n : Nat} (hu : u ≠ v) (h2 : 2 ≤ t) (h9 : t ≤ 9) (hn : n = if t ≤ 4 then 8 else 4) (b : bcm v u h0 h t 0) : bcm v u h0 (cA h t u 0 t v 0 n) (t + 1) 0 := by
  obtain ⟨b1, b2, b3⟩ := b
  refine ⟨onlyV_tr b1 ⟨rfl, fun a b j q => by rw [cA_get, if_neg (fun z => q ⟨by omega, by omega, z.2.1⟩)], fun _ _ _ _ => rfl⟩, fun s s2 sk i hi => ?_, fun i hi => absurd hi (Nat.not_lt_zero i)⟩
  rw [cA_get]
  by_cases e : s = t
  · subst e
    rw [if_pos ⟨rfl, rfl, by omega⟩]
    exact b1.2.1 s u i (by omega)
  · rw [if_neg (fun z => e z.1)]
    exact b2 s s2 (by omega) i hi
def S_X9_become (v u : Nat) (h : AH) (K : AH → Prop) : Prop := u ≠ v ∧ ∃ V, CV h u V ∧ WF V ∧ ∀ h', onlyV v h h' → CV h' v V → K h'
def T_X9_become : List AV → AH → (AH → Prop) → Prop := fun as h K => match as with
  | [.inr (.inr (.inl q0)), .inr (.inr (.inl q1))] => tif (Nat.beq q0.1 1 && Nat.beq q1.1 1) (S_X9_become q0.2 q1.2 h K)
  | _ => False

def M_X9_become : MI := (RX9, cX9_become, 3, [(0, .aload_n 1, []), (1, .getfield 9, []), (4, .iconst 0, []), (5, .aload_n 0, []), (6, .getfield 9, []), (9, .iconst 0, []), (10, .bipush 8, []), (12, .invokestatic 46, []), (15, .aload_n 1, []), (16, .getfield 15, []), (19, .iconst 0, []), (20, .aload_n 0, []), (21, .getfield 15, []), (24, .iconst 0, []), (25, .bipush 8, []), (27, .invokestatic 46, []), (30, .aload_n 1, []), (31, .getfield 18, []), (34, .iconst 0, []), (35, .aload_n 0, []), (36, .getfield 18, []), (39, .iconst 0, []), (40, .bipush 8, []), (42, .invokestatic 46, []), (45, .aload_n 1, []), (46, .getfield 21, []), (49, .iconst 0, []), (50, .aload_n 0, []), (51, .getfield 21, []), (54, .iconst 0, []), (55, .iconst 4, []), (56, .invokestatic 46, []), (59, .aload_n 1, []), (60, .getfield 24, []), (63, .iconst 0, []), (64, .aload_n 0, []), (65, .getfield 24, []), (68, .iconst 0, []), (69, .iconst 4, []), (70, .invokestatic 46, []), (73, .aload_n 1, []), (74, .getfield 27, []), (77, .iconst 0, []), (78, .aload_n 0, []), (79, .getfield 27, []), (82, .iconst 0, []), (83, .iconst 4, []), (84, .invokestatic 46, []), (87, .aload_n 1, []), (88, .getfield 30, []), (91, .iconst 0, []), (92, .aload_n 0, []), (93, .getfield 30, []), (96, .iconst 0, []), (97, .iconst 4, []), (98, .invokestatic 46, []), (101, .aload_n 1, []), (102, .getfield 33, []), (105, .iconst 0, []), (106, .aload_n 0, []), (107, .getfield 33, []), (110, .iconst 0, []), (111, .iconst 4, []), (112, .invokestatic 46, []), (115, .iconst 0, []), (116, .istore_n 2, []), (117, .iload_n 2, []), (118, .bipush 7, []), (120, .if_icmp .ge 21, [141]), (123, .aload_n 0, []), (124, .getfield 38, []), (127, .iload_n 2, []), (128, .aload_n 1, []), (129, .getfield 38, []), (132, .iload_n 2, []), (133, .aaload, []), (134, .aastore, []), (135, .iinc 2 1, []), (138, .goto (-21), [117]), (141, .aload_n 0, []), (142, .aload_n 1, []), (143, .getfield 52, []), (146, .putfield 52, []), (149, .aload_n 0, []), (150, .aload_n 1, []), (151, .getfield 55, []), (154, .putfield 55, []), (157, .aload_n 0, []), (158, .aload_n 1, []), (159, .getfield 42, []), (162, .putfield 42, []), (165, .aload_n 0, []), (166, .aload_n 1, []), (167, .getfield 58, []), (170, .putfield 58, []), (173, .return_, [])], [(9, (1, 0, 1, 2, 0)), (15, (1, 1, 1, 3, 0)), (18, (1, 2, 1, 4, 0)), (21, (1, 3, 1, 5, 0)), (24, (1, 5, 1, 6, 0)), (27, (1, 6, 1, 7, 0)), (30, (1, 7, 1, 8, 0)), (33, (1, 8, 1, 9, 0)), (38, (1, 10, 1, 10, 0)), (52, (1, 4, 0, 0, 0)), (55, (1, 9, 0, 0, 0)), (42, (1, 11, 0, 0, 0)), (58, (1, 12, 0, 0, 0))], [], [], [(139, (5, 1, 26, 0, 0, .inr (.inl T_acopy)))], 1, 26, 0, 0)
theorem ok_X9_become : MOK M_X9_become := ⟨by decide +kernel, List.forall_mem_cons.mpr ⟨fl_RX9_9, List.forall_mem_cons.mpr ⟨fl_RX9_15, List.forall_mem_cons.mpr ⟨fl_RX9_18, List.forall_mem_cons.mpr ⟨fl_RX9_21, List.forall_mem_cons.mpr ⟨fl_RX9_24, List.forall_mem_cons.mpr ⟨fl_RX9_27, List.forall_mem_cons.mpr ⟨fl_RX9_30, List.forall_mem_cons.mpr ⟨fl_RX9_33, List.forall_mem_cons.mpr ⟨fl_RX9_38, List.forall_mem_cons.mpr ⟨fl_RX9_52, List.forall_mem_cons.mpr ⟨fl_RX9_55, List.forall_mem_cons.mpr ⟨fl_RX9_42, List.forall_mem_cons.mpr ⟨fl_RX9_58, fun _ h => absurd h List.not_mem_nil⟩⟩⟩⟩⟩⟩⟩⟩⟩⟩⟩⟩⟩, fun _ h => absurd h List.not_mem_nil, fun _ h => absurd h List.not_mem_nil, List.forall_mem_cons.mpr ⟨⟨Nat.le_of_ble_eq_true rfl, Nat.le_of_ble_eq_true rfl, cr_RX9_139⟩, fun _ h => absurd h List.not_mem_nil⟩⟩
set_option maxRecDepth 100000 in
theorem vc_X9_become {K : AH → Prop} {h : AH} (p0 : Nat) (p1 : Nat) (H : akin 2 = 0 ∧ akin 2 = 0 ∧ (¬ (nI 0) < 0) ∧ (¬ (nI 0) < 0) ∧ (¬ (nI 8) < 0) ∧ (nI 0).toNatClampNeg + (nI 8).toNatClampNeg ≤ alen 2 ∧ (nI 0).toNatClampNeg + (nI 8).toNatClampNeg ≤ alen 2 ∧ AW M_X9_become (.inr (.inl K)) 15 [some (aR 1 p0), some (aR 1 p1), none] [] (cA h 2 p1 (nI 0).toNatClampNeg 2 p0 (nI 0).toNatClampNeg (nI 8).toNatClampNeg) 0 0) : AW M_X9_become (.inr (.inl K)) 0 [some (aR 1 p0), some (aR 1 p1), none] [] h 0 0 := AW_go (cuts := [(15, [true, true, false]), (30, [true, true, false]), (45, [true, true, false]), (59, [true, true, false]), (73, [true, true, false]), (87, [true, true, false]), (101, [true, true, false]), (117, [true, true, true])]) ok_X9_become 400 H
set_option maxRecDepth 100000 in
theorem vc_X9_become_15 {K : AH → Prop} {h : AH}  (l0 : Nat) (l1 : Nat) (H : akin 3 = 0 ∧ akin 3 = 0 ∧ (¬ (nI 0) < 0) ∧ (¬ (nI 0) < 0) ∧ (¬ (nI 8) < 0) ∧ (nI 0).toNatClampNeg + (nI 8).toNatClampNeg ≤ alen 3 ∧ (nI 0).toNatClampNeg + (nI 8).toNatClampNeg ≤ alen 3 ∧ AW M_X9_become (.inr (.inl K)) 30 [some (aR 1 l0), some (aR 1 l1), none] [] (cA h 3 l1 (nI 0).toNatClampNeg 3 l0 (nI 0).toNatClampNeg (nI 8).toNatClampNeg) 0 0) : AW M_X9_become (.inr (.inl K)) 15 [some (aR 1 l0), some (aR 1 l1), none] [] h 0 0 := AW_go (cuts := [(15, [true, true, false]), (30, [true, true, false]), (45, [true, true, false]), (59, [true, true, false]), (73, [true, true, false]), (87, [true, true, false]), (101, [true, true, false]), (117, [true, true, true])]) ok_X9_become 400 H
set_option maxRecDepth 100000 in
theorem vc_X9_become_30 {K : AH → Prop} {h : AH}  (l0 : Nat) (l1 : Nat) (H : akin 4 = 0 ∧ akin 4 = 0 ∧ (¬ (nI 0) < 0) ∧ (¬ (nI 0) < 0) ∧ (¬ (nI 8) < 0) ∧ (nI 0).toNatClampNeg + (nI 8).toNatClampNeg ≤ alen 4 ∧ (nI 0).toNatClampNeg + (nI 8).toNatClampNeg ≤ alen 4 ∧ AW M_X9_become (.inr (.inl K)) 45 [some (aR 1 l0), some (aR 1 l1), none] [] (cA h 4 l1 (nI 0).toNatClampNeg 4 l0 (nI 0).toNatClampNeg (nI 8).toNatClampNeg) 0 0) : AW M_X9_become (.inr (.inl K)) 30 [some (aR 1 l0), some (aR 1 l1), none] [] h 0 0 := AW_go (cuts := [(15, [true, true, false]), (30, [true, true, false]), (45, [true, true, false]), (59, [true, true, false]), (73, [true, true, false]), (87, [true, true, false]), (101, [true, true, false]), (117, [true, true, true])]) ok_X9_become 400 H
set_option maxRecDepth 100000 in
theorem vc_X9_become_45 {K : AH → Prop} {h : AH}  (l0 : Nat) (l1 : Nat) (H : akin 5 = 0 ∧ akin 5 = 0 ∧ (¬ (nI 0) < 0) ∧ (¬ (nI 0) < 0) ∧ (¬ (nI 4) < 0) ∧ (nI 0).toNatClampNeg + (nI 4).toNatClampNeg ≤ alen 5 ∧ (nI 0).toNatClampNeg + (nI 4).toNatClampNeg ≤ alen 5 ∧ AW M_X9_become (.inr (.inl K)) 59 [some (aR 1 l0), some (aR 1 l1), none] [] (cA h 5 l1 (nI 0).toNatClampNeg 5 l0 (nI 0).toNatClampNeg (nI 4).toNatClampNeg) 0 0) : AW M_X9_become (.inr (.inl K)) 45 [some (aR 1 l0), some (aR 1 l1), none] [] h 0 0 := AW_go (cuts := [(15, [true, true, false]), (30, [true, true, false]), (45, [true, true, false]), (59, [true, true, false]), (73, [true, true, false]), (87, [true, true, false]), (101, [true, true, false]), (117, [true, true, true])]) ok_X9_become 400 H
set_option maxRecDepth 100000 in
theorem vc_X9_become_59 {K : AH → Prop} {h : AH}  (l0 : Nat) (l1 : Nat) (H : akin 6 = 0 ∧ akin 6 = 0 ∧ (¬ (nI 0) < 0) ∧ (¬ (nI 0) < 0) ∧ (¬ (nI 4) < 0) ∧ (nI 0).toNatClampNeg + (nI 4).toNatClampNeg ≤ alen 6 ∧ (nI 0).toNatClampNeg + (nI 4).toNatClampNeg ≤ alen 6 ∧ AW M_X9_become (.inr (.inl K)) 73 [some (aR 1 l0), some (aR 1 l1), none] [] (cA h 6 l1 (nI 0).toNatClampNeg 6 l0 (nI 0).toNatClampNeg (nI 4).toNatClampNeg) 0 0) : AW M_X9_become (.inr (.inl K)) 59 [some (aR 1 l0), some (aR 1 l1), none] [] h 0 0 := AW_go (cuts := [(15, [true, true, false]), (30, [true, true, false]), (45, [true, true, false]), (59, [true, true, false]), (73, [true, true, false]), (87, [true, true, false]), (101, [true, true, false]), (117, [true, true, true])]) ok_X9_become 400 H
set_option maxRecDepth 100000 in
theorem vc_X9_become_73 {K : AH → Prop} {h : AH}  (l0 : Nat) (l1 : Nat) (H : akin 7 = 0 ∧ akin 7 = 0 ∧ (¬ (nI 0) < 0) ∧ (¬ (nI 0) < 0) ∧ (¬ (nI 4) < 0) ∧ (nI 0).toNatClampNeg + (nI 4).toNatClampNeg ≤ alen 7 ∧ (nI 0).toNatClampNeg + (nI 4).toNatClampNeg ≤ alen 7 ∧ AW M_X9_become (.inr (.inl K)) 87 [some (aR 1 l0), some (aR 1 l1), none] [] (cA h 7 l1 (nI 0).toNatClampNeg 7 l0 (nI 0).toNatClampNeg (nI 4).toNatClampNeg) 0 0) : AW M_X9_become (.inr (.inl K)) 73 [some (aR 1 l0), some (aR 1 l1), none] [] h 0 0 := AW_go (cuts := [(15, [true, true, false]), (30, [true, true, false]), (45, [true, true, false]), (59, [true, true, false]), (73, [true, true, false]), (87, [true, true, false]), (101, [true, true, false]), (117, [true, true, true])]) ok_X9_become 400 H
set_option maxRecDepth 100000 in
theorem vc_X9_become_87 {K : AH → Prop} {h : AH}  (l0 : Nat) (l1 : Nat) (H : akin 8 = 0 ∧ akin 8 = 0 ∧ (¬ (nI 0) < 0) ∧ (¬ (nI 0) < 0) ∧ (¬ (nI 4) < 0) ∧ (nI 0).toNatClampNeg + (nI 4).toNatClampNeg ≤ alen 8 ∧ (nI 0).toNatClampNeg + (nI 4).toNatClampNeg ≤ alen 8 ∧ AW M_X9_become (.inr (.inl K)) 101 [some (aR 1 l0), some (aR 1 l1), none] [] (cA h 8 l1 (nI 0).toNatClampNeg 8 l0 (nI 0).toNatClampNeg (nI 4).toNatClampNeg) 0 0) : AW M_X9_become (.inr (.inl K)) 87 [some (aR 1 l0), some (aR 1 l1), none] [] h 0 0 := AW_go (cuts := [(15, [true, true, false]), (30, [true, true, false]), (45, [true, true, false]), (59, [true, true, false]), (73, [true, true, false]), (87, [true, true, false]), (101, [true, true, false]), (117, [true, true, true])]) ok_X9_become 400 H
set_option maxRecDepth 100000 in
theorem vc_X9_become_101 {K : AH → Prop} {h : AH}  (l0 : Nat) (l1 : Nat) (H : akin 9 = 0 ∧ akin 9 = 0 ∧ (¬ (nI 0) < 0) ∧ (¬ (nI 0) < 0) ∧ (¬ (nI 4) < 0) ∧ (nI 0).toNatClampNeg + (nI 4).toNatClampNeg ≤ alen 9 ∧ (nI 0).toNatClampNeg + (nI 4).toNatClampNeg ≤ alen 9 ∧ AW M_X9_become (.inr (.inl K)) 117 [some (aR 1 l0), some (aR 1 l1), some (aI (nI 0))] [] (cA h 9 l1 (nI 0).toNatClampNeg 9 l0 (nI 0).toNatClampNeg (nI 4).toNatClampNeg) 0 0) : AW M_X9_become (.inr (.inl K)) 101 [some (aR 1 l0), some (aR 1 l1), none] [] h 0 0 := AW_go (cuts := [(15, [true, true, false]), (30, [true, true, false]), (45, [true, true, false]), (59, [true, true, false]), (73, [true, true, false]), (87, [true, true, false]), (101, [true, true, false]), (117, [true, true, true])]) ok_X9_become 400 H
set_option maxRecDepth 100000 in
theorem vc_X9_become_117 {K : AH → Prop} {h : AH}  (l0 : Nat) (l1 : Nat) (l2 : Int32) (H : (((nI 7) ≤ l2) → K (wI (wI (wI (wI h 1 l0 4 (h.1 1 l1 4)) 1 l0 9 ((wI h 1 l0 4 (h.1 1 l1 4)).1 1 l1 9)) 1 l0 11 ((wI (wI h 1 l0 4 (h.1 1 l1 4)) 1 l0 9 ((wI h 1 l0 4 (h.1 1 l1 4)).1 1 l1 9)).1 1 l1 11)) 1 l0 12 ((wI (wI (wI h 1 l0 4 (h.1 1 l1 4)) 1 l0 9 ((wI h 1 l0 4 (h.1 1 l1 4)).1 1 l1 9)) 1 l0 11 ((wI (wI h 1 l0 4 (h.1 1 l1 4)) 1 l0 9 ((wI h 1 l0 4 (h.1 1 l1 4)).1 1 l1 9)).1 1 l1 11)).1 1 l1 12))) ∧ (¬ ((nI 7) ≤ l2) → inR l2 7 ∧ inR l2 7 ∧ AW M_X9_become (.inr (.inl K)) 117 [some (aR 1 l0), some (aR 1 l1), some (aI (l2 + (nI 1)))] [] (wR h 10 l0 l2.toNatClampNeg (h.2.1 10 l1 l2.toNatClampNeg)) 0 0)) : AW M_X9_become (.inr (.inl K)) 117 [some (aR 1 l0), some (aR 1 l1), some (aI l2)] [] h 0 0 := AW_go (cuts := [(15, [true, true, false]), (30, [true, true, false]), (45, [true, true, false]), (59, [true, true, false]), (73, [true, true, false]), (87, [true, true, false]), (101, [true, true, false]), (117, [true, true, true])]) ok_X9_become 400 H

theorem cl0 : (nI 0).toNatClampNeg = 0 := n_cl (by omega)
theorem cl4 : (nI 4).toNatClampNeg = 4 := n_cl (by omega)
theorem cl8 : (nI 8).toNatClampNeg = 8 := n_cl (by omega)
theorem end_X9_become {v u : Nat} {V : Vm} {h0 h : AH} (hu : u ≠ v) (c : CV h0 u V) (hw : WF V) (b : bcm v u h0 h 10 7) : CV (wI (wI (wI (wI h 1 v 4 (h.1 1 u 4)) 1 v 9 (h.1 1 u 9)) 1 v 11 (h.1 1 u 11)) 1 v 12 (h.1 1 u 12)) v V := by
  obtain ⟨b1, b2, b3⟩ := b
  obtain ⟨c1, c2, c3, c4, c5, c6⟩ := c
  have f : ∀ i, h.1 1 u i = h0.1 1 u i := fun i => b1.2.1 1 u i (by omega)
  have h4 := hw.1
  have h7 := hw.2.1
  refine ⟨fun t i ht hi => ?_, ?_, ?_, ?_, ?_, fun s hs => ?_⟩
  · rw [wI_nt (by omega), wI_nt (by omega), wI_nt (by omega), wI_nt (by omega), b2 (t + 2) (by omega) (by omega) i ?_]
    · exact c1 t i ht hi
    · match t, ht with
      | 0, _ => exact hi
      | 1, _ => exact hi
      | 2, _ => exact hi
      | 3, _ => exact hi
      | 4, _ => simp only [vLim] at hi; show i < 4; omega
      | 5, _ => simp only [vLim] at hi; show i < 4; omega
      | 6, _ => simp only [vLim] at hi; show i < 4; omega
      | 7, _ => simp only [vLim] at hi; show i < 4; omega
  · rw [wI_ni (by omega), wI_ni (by omega), wI_ni (by omega), wI_at, f]; exact c2
  · rw [wI_ni (by omega), wI_ni (by omega), wI_at, f]; exact c3
  · rw [wI_ni (by omega), wI_at, f]; exact c4
  · rw [wI_at, f]; exact c5
  · show SHP _ (h.2.1 10 v s) _ _
    rw [b3 s (by omega)]
    refine SHP_e (h := h0) (fun a i => ?_) (c6 s hs)
    rw [wI_nt (by omega), wI_nt (by omega), wI_nt (by omega), wI_nt (by omega), b1.2.1 18 a i (by omega)]
theorem lp_X9_become {v u : Nat} {V : Vm} {h0 : AH} {K : AH → Prop} (hu : u ≠ v) (c : CV h0 u V) (hw : WF V) (k : ∀ h', onlyV v h0 h' → CV h' v V → K h') : ∀ r e h, e + r = 7 → bcm v u h0 h 10 e → AW M_X9_become (.inr (.inl K)) 117 [some (aR 1 v), some (aR 1 u), some (aI (nI e))] [] h 0 0 := by
  intro r
  induction r with
  | zero =>
    intro e h he b
    have : e = 7 := by omega
    subst this
    refine vc_X9_become_117 v u (nI 7) ⟨fun _ => ?_, fun q => absurd (by decide) q⟩
    have w := end_X9_become hu c hw b
    have g1 : (wI h 1 v 4 (h.1 1 u 4)).1 1 u 9 = h.1 1 u 9 := wI_np hu
    have g2 : (wI (wI h 1 v 4 (h.1 1 u 4)) 1 v 9 (h.1 1 u 9)).1 1 u 11 = h.1 1 u 11 := by rw [wI_np hu, wI_np hu]
    have g3 : (wI (wI (wI h 1 v 4 (h.1 1 u 4)) 1 v 9 (h.1 1 u 9)) 1 v 11 (h.1 1 u 11)).1 1 u 12 = h.1 1 u 12 := by rw [wI_np hu, wI_np hu, wI_np hu]
    rw [g1, g2, g3]
    exact k _ (onlyV_tr b.1 (onlyV_tr (onlyV_w (by omega) (by omega)) (onlyV_tr (onlyV_w (by omega) (by omega)) (onlyV_tr (onlyV_w (by omega) (by omega)) (onlyV_w (by omega) (by omega)))))) w
  | succ r ih =>
    intro e h he b
    refine vc_X9_become_117 v u (nI e) ?_
    simp (disch := omega) only [n_le, n_inT, n_cl, true_and, nI_add]
    refine ⟨fun q => by omega, fun _ => ih (e + 1) _ (by omega) ⟨onlyV_tr b.1 onlyV_r, b.2.1, fun i hi => ?_⟩⟩
    rw [wR_get]
    by_cases z : i = e
    · rw [if_pos ⟨rfl, rfl, z⟩, z]
      exact b.1.2.2 10 u e (by omega)
    · rw [if_neg (fun y => z y.2.2)]
      exact b.2.2 i (by omega)
theorem snd_X9_become (v u : Nat) {h : AH} {K : AH → Prop} (k : S_X9_become v u h K) : AW M_X9_become (.inr (.inl K)) 0 [some (aR 1 v), some (aR 1 u), none] [] h 0 0 := by
  obtain ⟨hu, V, c, hw, k⟩ := k
  have b0 : bcm v u h h 2 0 := ⟨onlyV_rfl v h, fun t a b => by omega, fun i hi => absurd hi (Nat.not_lt_zero i)⟩
  refine vc_X9_become v u ⟨rfl, rfl, by decide, by decide, by decide, by decide, by decide, ?_⟩
  rw [cl0, cl8]
  have b1 := bcm_c (n := 8) hu (by omega) (by omega) rfl b0
  refine vc_X9_become_15 v u ⟨rfl, rfl, by decide, by decide, by decide, by decide, by decide, ?_⟩
  rw [cl0, cl8]
  have b2 := bcm_c (n := 8) hu (by omega) (by omega) rfl b1
  refine vc_X9_become_30 v u ⟨rfl, rfl, by decide, by decide, by decide, by decide, by decide, ?_⟩
  rw [cl0, cl8]
  have b3 := bcm_c (n := 8) hu (by omega) (by omega) rfl b2
  refine vc_X9_become_45 v u ⟨rfl, rfl, by decide, by decide, by decide, by decide, by decide, ?_⟩
  rw [cl0, cl4]
  have b4 := bcm_c (n := 4) hu (by omega) (by omega) rfl b3
  refine vc_X9_become_59 v u ⟨rfl, rfl, by decide, by decide, by decide, by decide, by decide, ?_⟩
  rw [cl0, cl4]
  have b5 := bcm_c (n := 4) hu (by omega) (by omega) rfl b4
  refine vc_X9_become_73 v u ⟨rfl, rfl, by decide, by decide, by decide, by decide, by decide, ?_⟩
  rw [cl0, cl4]
  have b6 := bcm_c (n := 4) hu (by omega) (by omega) rfl b5
  refine vc_X9_become_87 v u ⟨rfl, rfl, by decide, by decide, by decide, by decide, by decide, ?_⟩
  rw [cl0, cl4]
  have b7 := bcm_c (n := 4) hu (by omega) (by omega) rfl b6
  refine vc_X9_become_101 v u ⟨rfl, rfl, by decide, by decide, by decide, by decide, by decide, ?_⟩
  rw [cl0, cl4]
  have b8 := bcm_c (n := 4) hu (by omega) (by omega) rfl b7
  exact lp_X9_become hu c hw k 7 0 _ (by omega) b8
theorem tr_X9_become : ∀ (as : List AV) (h : AH) (K : AH → Prop), T_X9_become as h K → ∃ (q : Nat) (r : List AV), as = aR 1 q :: r := by
  intro as h K hk
  match as, hk with
  | [.inr (.inr (.inl q0)), .inr (.inr (.inl q1))], hk =>
    obtain ⟨hb, hk⟩ := tif_inv hk
    simp only [Bool.and_eq_true] at hb
    obtain ⟨e0, e1⟩ := hb
    obtain ⟨a0, b0⟩ := q0
    obtain ⟨a1, b1⟩ := q1
    have f0 : a0 = 1 := Nat.eq_of_beq_eq_true e0
    subst f0
    have f1 : a1 = 1 := Nat.eq_of_beq_eq_true e1
    subst f1
    exact ⟨_, _, rfl⟩
theorem tw_X9_become : ∀ (as : List AV) (h : AH) (K : AH → Prop), T_X9_become as h K → (ini as).length ≤ mNL M_X9_become ∧ AW M_X9_become (.inr (.inl K)) 0 (initL (mNL M_X9_become) as) [] h 0 0 := by
  intro as h K hk
  match as, hk with
  | [.inr (.inr (.inl q0)), .inr (.inr (.inl q1))], hk =>
    obtain ⟨hb, hk⟩ := tif_inv hk
    simp only [Bool.and_eq_true] at hb
    obtain ⟨e0, e1⟩ := hb
    obtain ⟨a0, b0⟩ := q0
    obtain ⟨a1, b1⟩ := q1
    have f0 : a0 = 1 := Nat.eq_of_beq_eq_true e0
    subst f0
    have f1 : a1 = 1 := Nat.eq_of_beq_eq_true e1
    subst f1
    exact ⟨Nat.le_of_ble_eq_true rfl, snd_X9_become b0 b1 hk⟩
theorem cr_RX10_123 : CR RX10 (kIns 123) (2, 2, 48, 0, 0, .inr (.inl T_X9_become)) := crV_v (t := 1) (M := M_X9_become) (by decide) rfl (by decide) rfl (inG (i := 206) (w := Cond.methodLink RX10 41 yX9_become) (by decide +kernel) rfl) (inG (i := 207) (w := Cond.instanceMethod yX9_become) (by decide +kernel) rfl) (inG (i := 38) (w := Cond.initialized RX9) (by decide +kernel) rfl) (inG (i := 208) (w := Cond.selects RX9 yX9_become yX9_become) (by decide +kernel) rfl) (inG (i := 209) (w := Cond.code yX9_become cX9_become 3 (none)) (by decide +kernel) rfl) ⟨by decide +kernel, by decide +kernel, by decide +kernel⟩ tr_X9_become tw_X9_become

def S_X9_addSheep (v : Nat) (o : Option Nat) (h : AH) (K : Int32 → AH → Prop) : Prop := ∃ V, CV h v V ∧ WF V ∧ ((o = none ∧ K (nI 0) h) ∨ ∃ k f, SHP h o k f ∧ (V 10 1 = 7 → K (nI 0) h) ∧ (V 10 1 < 7 → ∀ h', onlyV v h h' → CV h' v (adS V k f) → K (nI 1) h'))
def T_X9_addSheep : List AV → AH → (Int32 → AH → Prop) → Prop := fun as h K => match as with
  | [.inr (.inr (.inl q0)), .inr (.inr (.inr q1))] => tif (Nat.beq q0.1 1) (S_X9_addSheep q0.2 q1 h K)
  | _ => False

def M_X9_addSheep : MI := (RX9, cX9_addSheep, 2, [(0, .aload_n 1, []), (1, .ifnull 12, [13]), (4, .aload_n 0, []), (5, .getfield 55, []), (8, .bipush 7, []), (10, .if_icmp .lt 5, [15]), (13, .iconst 0, []), (14, .ireturn, []), (15, .aload_n 0, []), (16, .getfield 38, []), (19, .aload_n 0, []), (20, .getfield 55, []), (23, .aload_n 1, []), (24, .aastore, []), (25, .aload_n 0, []), (26, .dup, []), (27, .getfield 55, []), (30, .iconst 1, []), (31, .iadd, []), (32, .putfield 55, []), (35, .iconst 1, []), (36, .ireturn, [])], [(55, (1, 9, 0, 0, 0)), (38, (1, 10, 1, 10, 0))], [], [], [], 0, 0, 0, 0)
theorem ok_X9_addSheep : MOK M_X9_addSheep := ⟨by decide +kernel, List.forall_mem_cons.mpr ⟨fl_RX9_55, List.forall_mem_cons.mpr ⟨fl_RX9_38, fun _ h => absurd h List.not_mem_nil⟩⟩, fun _ h => absurd h List.not_mem_nil, fun _ h => absurd h List.not_mem_nil, fun _ h => absurd h List.not_mem_nil⟩
set_option maxRecDepth 100000 in
theorem vc_X9_addSheep {K : Int32 → AH → Prop} {h : AH} (p0 : Nat) (p1 : Option Nat) (H : (((p1 : Option Nat) = none) → (((nI 0) = 0 ∨ (nI 0) = 1) ∧ K (nI 0) h)) ∧ (¬ ((p1 : Option Nat) = none) → (((h.1 1 p0 9) < (nI 7)) → inR (h.1 1 p0 9) 7 ∧ (((nI 1) = 0 ∨ (nI 1) = 1) ∧ K (nI 1) (wI (wR h 10 p0 (h.1 1 p0 9).toNatClampNeg p1) 1 p0 9 (((wR h 10 p0 (h.1 1 p0 9).toNatClampNeg p1).1 1 p0 9) + (nI 1))))) ∧ (¬ ((h.1 1 p0 9) < (nI 7)) → (((nI 0) = 0 ∨ (nI 0) = 1) ∧ K (nI 0) h)))) : AW M_X9_addSheep (.inl (fun x u => (x = 0 ∨ x = 1) ∧ K x u)) 0 [some (aR 1 p0), some (aS p1)] [] h 0 0 := AW_go (cuts := []) ok_X9_addSheep 400 H

theorem CV_adS {v : Nat} {o : Option Nat} {h : AH} {V : Vm} {k f : Nat} (c : CV h v V) (sp : SHP h o k f) : CV (wI (wR h 10 v (V 10 1) o) 1 v 9 (nI (V 10 1 + 1))) v (adS V k f) := by
  obtain ⟨c1, c2, c3, c4, c5, c6⟩ := c
  have l0 : ∀ i, i ≠ 1 → adS V k f 10 i = V 10 i := fun i hi => by unfold adS; rw [uV_ne (by omega), uV_ne (by omega), uV_ne (by omega)]
  have l1 : adS V k f 10 1 = V 10 1 + 1 := by unfold adS; rw [uV_at]
  have lo : ∀ t i, t < 8 → adS V k f t i = V t i := fun t i ht => by unfold adS; rw [uV_ne (by omega), uV_ne (by omega), uV_ne (by omega)]
  refine ⟨fun t i ht hi => ?_, ?_, ?_, ?_, ?_, fun s hs => ?_⟩
  · rw [lo t i ht, wI_nt (by omega)]
    refine c1 t i ht ?_
    match t, ht with
    | 0, _ => exact hi
    | 1, _ => exact hi
    | 2, _ => exact hi
    | 3, _ => exact hi
    | 4, _ => simp only [vLim] at hi ⊢; rw [l0 0 (by omega)] at hi; exact hi
    | 5, _ => simp only [vLim] at hi ⊢; rw [l0 0 (by omega)] at hi; exact hi
    | 6, _ => simp only [vLim] at hi ⊢; rw [l0 0 (by omega)] at hi; exact hi
    | 7, _ => simp only [vLim] at hi ⊢; rw [l0 0 (by omega)] at hi; exact hi
  · rw [l0 0 (by omega), wI_ni (by omega)]; exact c2
  · rw [l1, wI_at]
  · rw [l0 2 (by omega), wI_ni (by omega)]; exact c4
  · rw [l0 3 (by omega), wI_ni (by omega)]; exact c5
  · rw [l1] at hs
    refine SHP_e (h := h) (fun a i => wI_nt (by omega)) ?_
    show SHP h ((wR h 10 v (V 10 1) o).2.1 10 v s) _ _
    rw [wR_get]
    by_cases z : s = V 10 1
    · subst z
      rw [if_pos ⟨rfl, rfl, rfl⟩]
      unfold adS
      rw [uV_ne (by omega), uV_ne (by omega), uV_at, uV_ne (by omega), uV_at]
      exact sp
    · rw [if_neg (fun y => z y.2.2)]
      unfold adS
      rw [uV_ne (by omega), uV_ne (by omega), uV_ne (by omega), uV_ne (by omega), uV_ne (by omega), uV_ne (by omega)]
      exact c6 s (by omega)
theorem snd_X9_addSheep (v : Nat) (o : Option Nat) {h : AH} {K : Int32 → AH → Prop} (k : S_X9_addSheep v o h K) : AW M_X9_addSheep (.inl (fun x u => (x = 0 ∨ x = 1) ∧ K x u)) 0 [some (aR 1 v), some (aS o)] [] h 0 0 := by
  obtain ⟨V, c, hw, k⟩ := k
  have h7 := hw.2.1
  have e9 := (CVs c).2.2.2.2.2.2.2.2.2.1
  refine vc_X9_addSheep v o ?_
  rcases k with ⟨rfl, k⟩ | ⟨k, f, sp, k1, k2⟩
  · exact ⟨fun _ => ⟨Or.inl (by decide), k⟩, fun z => absurd rfl z⟩
  · obtain ⟨a, ea, -⟩ := id sp
    refine ⟨fun z => (by rw [ea] at z; cases z), fun _ => ?_⟩
    simp (disch := omega) only [e9, n_lt, n_cl]
    refine ⟨fun q => ⟨n_in q (by omega), Or.inr (by decide), ?_⟩, fun q => ⟨Or.inl (by decide), k1 (by omega)⟩⟩
    have w := CV_adS c sp
    rw [← nI_add] at w
    exact k2 q _ (onlyV_tr onlyV_r (onlyV_w (by omega) (by omega))) w
theorem tr_X9_addSheep : ∀ (as : List AV) (h : AH) (K : Int32 → AH → Prop), T_X9_addSheep as h K → ∃ (q : Nat) (r : List AV), as = aR 1 q :: r := by
  intro as h K hk
  match as, hk with
  | [.inr (.inr (.inl q0)), .inr (.inr (.inr q1))], hk =>
    obtain ⟨hb, hk⟩ := tif_inv hk
    have e0 := hb
    obtain ⟨a0, b0⟩ := q0
    have f0 : a0 = 1 := Nat.eq_of_beq_eq_true e0
    subst f0
    exact ⟨_, _, rfl⟩
theorem tw_X9_addSheep : ∀ (as : List AV) (h : AH) (K : Int32 → AH → Prop), T_X9_addSheep as h K → (ini as).length ≤ mNL M_X9_addSheep ∧ AW M_X9_addSheep (.inl (fun x u => (x = 0 ∨ x = 1) ∧ K x u)) 0 (initL (mNL M_X9_addSheep) as) [] h 0 0 := by
  intro as h K hk
  match as, hk with
  | [.inr (.inr (.inl q0)), .inr (.inr (.inr q1))], hk =>
    obtain ⟨hb, hk⟩ := tif_inv hk
    have e0 := hb
    obtain ⟨a0, b0⟩ := q0
    have f0 : a0 = 1 := Nat.eq_of_beq_eq_true e0
    subst f0
    exact ⟨Nat.le_of_ble_eq_true rfl, snd_X9_addSheep b0 q1 hk⟩
theorem cr_RX10_363 : CR RX10 (kIns 363) (2, 1, 21, 0, 0, .inl T_X9_addSheep) := crV_z (t := 1) (M := M_X9_addSheep) (by decide) rfl (by decide) rfl (inG (i := 440) (w := Cond.methodLink RX10 121 yX9_addSheep) (by decide +kernel) rfl) (inG (i := 441) (w := Cond.instanceMethod yX9_addSheep) (by decide +kernel) rfl) (inG (i := 38) (w := Cond.initialized RX9) (by decide +kernel) rfl) (inG (i := 442) (w := Cond.selects RX9 yX9_addSheep yX9_addSheep) (by decide +kernel) rfl) (inG (i := 443) (w := Cond.code yX9_addSheep cX9_addSheep 2 (some .boolean)) (by decide +kernel) rfl) ⟨by decide +kernel, by decide +kernel, by decide +kernel⟩ tr_X9_addSheep tw_X9_addSheep

def S_X9_addEagle (v : Nat) (a b n : Int32) (h : AH) (K : Int32 → AH → Prop) : Prop := ∃ V a' b' n', CV h v V ∧ WF V ∧ a = nI a' ∧ b = nI b' ∧ n = nI n' ∧ (V 10 0 = 4 → K (nI 0) h) ∧ (V 10 0 < 4 → ∀ h', onlyV v h h' → CV h' v (adE V a' b' n') → K (nI 1) h')
def T_X9_addEagle : List AV → AH → (Int32 → AH → Prop) → Prop := fun as h K => match as with
  | [.inr (.inr (.inl q0)), .inl q1, .inl q2, .inl q3] => tif (Nat.beq q0.1 1) (S_X9_addEagle q0.2 q1 q2 q3 h K)
  | _ => False

def M_X9_addEagle : MI := (RX9, cX9_addEagle, 4, [(0, .aload_n 0, []), (1, .getfield 52, []), (4, .iconst 4, []), (5, .if_icmp .lt 5, [10]), (8, .iconst 0, []), (9, .ireturn, []), (10, .aload_n 0, []), (11, .getfield 24, []), (14, .aload_n 0, []), (15, .getfield 52, []), (18, .iload_n 1, []), (19, .iastore, []), (20, .aload_n 0, []), (21, .getfield 27, []), (24, .aload_n 0, []), (25, .getfield 52, []), (28, .iload_n 2, []), (29, .iastore, []), (30, .aload_n 0, []), (31, .getfield 30, []), (34, .aload_n 0, []), (35, .getfield 52, []), (38, .iload_n 3, []), (39, .iastore, []), (40, .aload_n 0, []), (41, .getfield 33, []), (44, .aload_n 0, []), (45, .getfield 52, []), (48, .iconst 0, []), (49, .iastore, []), (50, .aload_n 0, []), (51, .dup, []), (52, .getfield 52, []), (55, .iconst 1, []), (56, .iadd, []), (57, .putfield 52, []), (60, .iconst 1, []), (61, .ireturn, [])], [(52, (1, 4, 0, 0, 0)), (24, (1, 5, 1, 6, 0)), (27, (1, 6, 1, 7, 0)), (30, (1, 7, 1, 8, 0)), (33, (1, 8, 1, 9, 0))], [], [], [], 0, 0, 0, 0)
theorem ok_X9_addEagle : MOK M_X9_addEagle := ⟨by decide +kernel, List.forall_mem_cons.mpr ⟨fl_RX9_52, List.forall_mem_cons.mpr ⟨fl_RX9_24, List.forall_mem_cons.mpr ⟨fl_RX9_27, List.forall_mem_cons.mpr ⟨fl_RX9_30, List.forall_mem_cons.mpr ⟨fl_RX9_33, fun _ h => absurd h List.not_mem_nil⟩⟩⟩⟩⟩, fun _ h => absurd h List.not_mem_nil, fun _ h => absurd h List.not_mem_nil, fun _ h => absurd h List.not_mem_nil⟩
set_option maxRecDepth 100000 in
theorem vc_X9_addEagle {K : Int32 → AH → Prop} {h : AH} (p0 : Nat) (p1 : Int32) (p2 : Int32) (p3 : Int32) (H : (((h.1 1 p0 4) < (nI 4)) → inR (h.1 1 p0 4) 4 ∧ inR ((wI h 6 p0 (h.1 1 p0 4).toNatClampNeg p1).1 1 p0 4) 4 ∧ inR ((wI (wI h 6 p0 (h.1 1 p0 4).toNatClampNeg p1) 7 p0 ((wI h 6 p0 (h.1 1 p0 4).toNatClampNeg p1).1 1 p0 4).toNatClampNeg p2).1 1 p0 4) 4 ∧ inR ((wI (wI (wI h 6 p0 (h.1 1 p0 4).toNatClampNeg p1) 7 p0 ((wI h 6 p0 (h.1 1 p0 4).toNatClampNeg p1).1 1 p0 4).toNatClampNeg p2) 8 p0 ((wI (wI h 6 p0 (h.1 1 p0 4).toNatClampNeg p1) 7 p0 ((wI h 6 p0 (h.1 1 p0 4).toNatClampNeg p1).1 1 p0 4).toNatClampNeg p2).1 1 p0 4).toNatClampNeg p3).1 1 p0 4) 4 ∧ (((nI 1) = 0 ∨ (nI 1) = 1) ∧ K (nI 1) (wI (wI (wI (wI (wI h 6 p0 (h.1 1 p0 4).toNatClampNeg p1) 7 p0 ((wI h 6 p0 (h.1 1 p0 4).toNatClampNeg p1).1 1 p0 4).toNatClampNeg p2) 8 p0 ((wI (wI h 6 p0 (h.1 1 p0 4).toNatClampNeg p1) 7 p0 ((wI h 6 p0 (h.1 1 p0 4).toNatClampNeg p1).1 1 p0 4).toNatClampNeg p2).1 1 p0 4).toNatClampNeg p3) 9 p0 ((wI (wI (wI h 6 p0 (h.1 1 p0 4).toNatClampNeg p1) 7 p0 ((wI h 6 p0 (h.1 1 p0 4).toNatClampNeg p1).1 1 p0 4).toNatClampNeg p2) 8 p0 ((wI (wI h 6 p0 (h.1 1 p0 4).toNatClampNeg p1) 7 p0 ((wI h 6 p0 (h.1 1 p0 4).toNatClampNeg p1).1 1 p0 4).toNatClampNeg p2).1 1 p0 4).toNatClampNeg p3).1 1 p0 4).toNatClampNeg (nI 0)) 1 p0 4 (((wI (wI (wI (wI h 6 p0 (h.1 1 p0 4).toNatClampNeg p1) 7 p0 ((wI h 6 p0 (h.1 1 p0 4).toNatClampNeg p1).1 1 p0 4).toNatClampNeg p2) 8 p0 ((wI (wI h 6 p0 (h.1 1 p0 4).toNatClampNeg p1) 7 p0 ((wI h 6 p0 (h.1 1 p0 4).toNatClampNeg p1).1 1 p0 4).toNatClampNeg p2).1 1 p0 4).toNatClampNeg p3) 9 p0 ((wI (wI (wI h 6 p0 (h.1 1 p0 4).toNatClampNeg p1) 7 p0 ((wI h 6 p0 (h.1 1 p0 4).toNatClampNeg p1).1 1 p0 4).toNatClampNeg p2) 8 p0 ((wI (wI h 6 p0 (h.1 1 p0 4).toNatClampNeg p1) 7 p0 ((wI h 6 p0 (h.1 1 p0 4).toNatClampNeg p1).1 1 p0 4).toNatClampNeg p2).1 1 p0 4).toNatClampNeg p3).1 1 p0 4).toNatClampNeg (nI 0)).1 1 p0 4) + (nI 1))))) ∧ (¬ ((h.1 1 p0 4) < (nI 4)) → (((nI 0) = 0 ∨ (nI 0) = 1) ∧ K (nI 0) h))) : AW M_X9_addEagle (.inl (fun x u => (x = 0 ∨ x = 1) ∧ K x u)) 0 [some (aR 1 p0), some (aI p1), some (aI p2), some (aI p3)] [] h 0 0 := AW_go (cuts := []) ok_X9_addEagle 400 H

theorem CV_adE {v : Nat} {h : AH} {V : Vm} {a b n : Nat} (c : CV h v V) : CV (wI (wI (wI (wI (wI h 6 v (V 10 0) (nI a)) 7 v (V 10 0) (nI b)) 8 v (V 10 0) (nI n)) 9 v (V 10 0) (nI 0)) 1 v 4 (nI (V 10 0 + 1))) v (adE V a b n) := by
  obtain ⟨c1, c2, c3, c4, c5, c6⟩ := c
  refine ⟨fun t i ht hi => ?_, ?_, ?_, ?_, ?_, fun s hs => ?_⟩
  · rw [wI_nt (by omega)]
    match t, ht with
    | 0, _ => rw [wI_nt (by decide), wI_nt (by decide), wI_nt (by decide), wI_nt (by decide), adE_o (by omega)]; exact c1 0 i (by decide) hi
    | 1, _ => rw [wI_nt (by decide), wI_nt (by decide), wI_nt (by decide), wI_nt (by decide), adE_o (by omega)]; exact c1 1 i (by decide) hi
    | 2, _ => rw [wI_nt (by decide), wI_nt (by decide), wI_nt (by decide), wI_nt (by decide), adE_o (by omega)]; exact c1 2 i (by decide) hi
    | 3, _ => rw [wI_nt (by decide), wI_nt (by decide), wI_nt (by decide), wI_nt (by decide), adE_o (by omega)]; exact c1 3 i (by decide) hi
    | 4, _ =>
      simp only [vLim, adE_0] at hi
      by_cases e : i = V 10 0
      · subst e
        rw [wI_nt (by decide), wI_nt (by decide), wI_nt (by decide), wI_at, adE_4]
      · rw [wI_nt (by decide), wI_nt (by decide), wI_nt (by decide), wI_ni e, adE_e e (by omega)]
        exact c1 4 i (by decide) (by simp only [vLim]; omega)
    | 5, _ =>
      simp only [vLim, adE_0] at hi
      by_cases e : i = V 10 0
      · subst e
        rw [wI_nt (by decide), wI_nt (by decide), wI_at, adE_5]
      · rw [wI_nt (by decide), wI_nt (by decide), wI_ni e, wI_nt (by decide), adE_e e (by omega)]
        exact c1 5 i (by decide) (by simp only [vLim]; omega)
    | 6, _ =>
      simp only [vLim, adE_0] at hi
      by_cases e : i = V 10 0
      · subst e
        rw [wI_nt (by decide), wI_at, adE_6]
      · rw [wI_nt (by decide), wI_ni e, wI_nt (by decide), wI_nt (by decide), adE_e e (by omega)]
        exact c1 6 i (by decide) (by simp only [vLim]; omega)
    | 7, _ =>
      simp only [vLim, adE_0] at hi
      by_cases e : i = V 10 0
      · subst e
        rw [wI_at, adE_7]
      · rw [wI_ni e, wI_nt (by decide), wI_nt (by decide), wI_nt (by decide), adE_e e (by omega)]
        exact c1 7 i (by decide) (by simp only [vLim]; omega)
  · rw [adE_0, wI_at]
  · rw [adE_10 (by omega), wI_ni (by omega), wI_nt (by omega), wI_nt (by omega), wI_nt (by omega), wI_nt (by omega)]; exact c3
  · rw [adE_10 (by omega), wI_ni (by omega), wI_nt (by omega), wI_nt (by omega), wI_nt (by omega), wI_nt (by omega)]; exact c4
  · rw [adE_10 (by omega), wI_ni (by omega), wI_nt (by omega), wI_nt (by omega), wI_nt (by omega), wI_nt (by omega)]; exact c5
  · rw [adE_10 (by omega)] at hs
    rw [adE_o (by omega), adE_o (by omega)]
    exact SHP_e (h := h) (fun a i => by rw [wI_nt (by omega), wI_nt (by omega), wI_nt (by omega), wI_nt (by omega), wI_nt (by omega)]) (c6 s hs)
theorem snd_X9_addEagle (v : Nat) (a b n : Int32) {h : AH} {K : Int32 → AH → Prop} (k : S_X9_addEagle v a b n h K) : AW M_X9_addEagle (.inl (fun x u => (x = 0 ∨ x = 1) ∧ K x u)) 0 [some (aR 1 v), some (aI a), some (aI b), some (aI n)] [] h 0 0 := by
  obtain ⟨V, a, b, n, c, hw, rfl, rfl, rfl, k1, k2⟩ := k
  have h4 := hw.1
  have e0 := (CVs c).2.2.2.2.2.2.2.2.1
  refine vc_X9_addEagle v (nI a) (nI b) (nI n) ?_
  have w := CV_adE (a := a) (b := b) (n := n) c
  rw [← nI_add] at w
  simp (disch := omega) only [e0, n_lt, n_cl, uI_nt]
  refine ⟨fun q => ⟨n_in q (by omega), n_in q (by omega), n_in q (by omega), n_in q (by omega), Or.inr (by decide), ?_⟩, fun q => ⟨Or.inl (by decide), k1 (by omega)⟩⟩
  exact k2 q _ (onlyV_tr (onlyV_w (by omega) (by omega)) (onlyV_tr (onlyV_w (by omega) (by omega)) (onlyV_tr (onlyV_w (by omega) (by omega)) (onlyV_tr (onlyV_w (by omega) (by omega)) (onlyV_w (by omega) (by omega)))))) w
theorem tr_X9_addEagle : ∀ (as : List AV) (h : AH) (K : Int32 → AH → Prop), T_X9_addEagle as h K → ∃ (q : Nat) (r : List AV), as = aR 1 q :: r := by
  intro as h K hk
  match as, hk with
  | [.inr (.inr (.inl q0)), .inl q1, .inl q2, .inl q3], hk =>
    obtain ⟨hb, hk⟩ := tif_inv hk
    have e0 := hb
    obtain ⟨a0, b0⟩ := q0
    have f0 : a0 = 1 := Nat.eq_of_beq_eq_true e0
    subst f0
    exact ⟨_, _, rfl⟩
theorem tw_X9_addEagle : ∀ (as : List AV) (h : AH) (K : Int32 → AH → Prop), T_X9_addEagle as h K → (ini as).length ≤ mNL M_X9_addEagle ∧ AW M_X9_addEagle (.inl (fun x u => (x = 0 ∨ x = 1) ∧ K x u)) 0 (initL (mNL M_X9_addEagle) as) [] h 0 0 := by
  intro as h K hk
  match as, hk with
  | [.inr (.inr (.inl q0)), .inl q1, .inl q2, .inl q3], hk =>
    obtain ⟨hb, hk⟩ := tif_inv hk
    have e0 := hb
    obtain ⟨a0, b0⟩ := q0
    have f0 : a0 = 1 := Nat.eq_of_beq_eq_true e0
    subst f0
    exact ⟨Nat.le_of_ble_eq_true rfl, snd_X9_addEagle b0 q1 q2 q3 hk⟩
theorem cr_RX10_999 : CR RX10 (kIns 999) (4, 1, 23, 0, 0, .inl T_X9_addEagle) := crV_z (t := 1) (M := M_X9_addEagle) (by decide) rfl (by decide) rfl (inG (i := 234) (w := Cond.methodLink RX10 333 yX9_addEagle) (by decide +kernel) rfl) (inG (i := 235) (w := Cond.instanceMethod yX9_addEagle) (by decide +kernel) rfl) (inG (i := 38) (w := Cond.initialized RX9) (by decide +kernel) rfl) (inG (i := 236) (w := Cond.selects RX9 yX9_addEagle yX9_addEagle) (by decide +kernel) rfl) (inG (i := 237) (w := Cond.code yX9_addEagle cX9_addEagle 4 (some .boolean)) (by decide +kernel) rfl) ⟨by decide +kernel, by decide +kernel, by decide +kernel⟩ tr_X9_addEagle tw_X9_addEagle

def S_X9_fillCell (v : Nat) (c a b n : Int32) (h : AH) (K : AH → Prop) : Prop := ∃ V m a' b' n', CV h v V ∧ m < 8 ∧ c = nI m ∧ a = nI a' ∧ b = nI b' ∧ n = nI n' ∧ ∀ h', onlyV v h h' → CV h' v (uV (uV (uV V 0 m a') 1 m b') 2 m n') → K h'
def T_X9_fillCell : List AV → AH → (AH → Prop) → Prop := fun as h K => match as with
  | [.inr (.inr (.inl q0)), .inl q1, .inl q2, .inl q3, .inl q4] => tif (Nat.beq q0.1 1) (S_X9_fillCell q0.2 q1 q2 q3 q4 h K)
  | _ => False

def M_X9_fillCell : MI := (RX9, cX9_fillCell, 5, [(0, .aload_n 0, []), (1, .getfield 9, []), (4, .iload_n 1, []), (5, .iload_n 2, []), (6, .iastore, []), (7, .aload_n 0, []), (8, .getfield 15, []), (11, .iload_n 1, []), (12, .iload_n 3, []), (13, .iastore, []), (14, .aload_n 0, []), (15, .getfield 18, []), (18, .iload_n 1, []), (19, .iload 4, []), (21, .iastore, []), (22, .return_, [])], [(9, (1, 0, 1, 2, 0)), (15, (1, 1, 1, 3, 0)), (18, (1, 2, 1, 4, 0))], [], [], [], 0, 0, 0, 0)
theorem ok_X9_fillCell : MOK M_X9_fillCell := ⟨by decide +kernel, List.forall_mem_cons.mpr ⟨fl_RX9_9, List.forall_mem_cons.mpr ⟨fl_RX9_15, List.forall_mem_cons.mpr ⟨fl_RX9_18, fun _ h => absurd h List.not_mem_nil⟩⟩⟩, fun _ h => absurd h List.not_mem_nil, fun _ h => absurd h List.not_mem_nil, fun _ h => absurd h List.not_mem_nil⟩
set_option maxRecDepth 100000 in
theorem vc_X9_fillCell {K : AH → Prop} {h : AH} (p0 : Nat) (p1 : Int32) (p2 : Int32) (p3 : Int32) (p4 : Int32) (H : inR p1 8 ∧ inR p1 8 ∧ inR p1 8 ∧ K (wI (wI (wI h 2 p0 p1.toNatClampNeg p2) 3 p0 p1.toNatClampNeg p3) 4 p0 p1.toNatClampNeg p4)) : AW M_X9_fillCell (.inr (.inl K)) 0 [some (aR 1 p0), some (aI p1), some (aI p2), some (aI p3), some (aI p4)] [] h 0 0 := AW_go (cuts := []) ok_X9_fillCell 400 H

theorem snd_X9_fillCell (v : Nat) (c a b n : Int32) {h : AH} {K : AH → Prop} (k : S_X9_fillCell v c a b n h K) : AW M_X9_fillCell (.inr (.inl K)) 0 [some (aR 1 v), some (aI c), some (aI a), some (aI b), some (aI n)] [] h 0 0 := by
  obtain ⟨V, m, a, b, n, c, hm, rfl, rfl, rfl, rfl, k⟩ := k
  refine vc_X9_fillCell v (nI m) (nI a) (nI b) (nI n) ?_
  simp (disch := omega) only [n_inT, n_cl, true_and]
  exact k _ (onlyV_tr (onlyV_w (by omega) (by omega)) (onlyV_tr (onlyV_w (by omega) (by omega)) (onlyV_w (by omega) (by omega)))) (CV_set (t := 2) (CV_set (t := 1) (CV_set (t := 0) c (by decide)) (by decide)) (by decide))
theorem tr_X9_fillCell : ∀ (as : List AV) (h : AH) (K : AH → Prop), T_X9_fillCell as h K → ∃ (q : Nat) (r : List AV), as = aR 1 q :: r := by
  intro as h K hk
  match as, hk with
  | [.inr (.inr (.inl q0)), .inl q1, .inl q2, .inl q3, .inl q4], hk =>
    obtain ⟨hb, hk⟩ := tif_inv hk
    have e0 := hb
    obtain ⟨a0, b0⟩ := q0
    have f0 : a0 = 1 := Nat.eq_of_beq_eq_true e0
    subst f0
    exact ⟨_, _, rfl⟩
theorem tw_X9_fillCell : ∀ (as : List AV) (h : AH) (K : AH → Prop), T_X9_fillCell as h K → (ini as).length ≤ mNL M_X9_fillCell ∧ AW M_X9_fillCell (.inr (.inl K)) 0 (initL (mNL M_X9_fillCell) as) [] h 0 0 := by
  intro as h K hk
  match as, hk with
  | [.inr (.inr (.inl q0)), .inl q1, .inl q2, .inl q3, .inl q4], hk =>
    obtain ⟨hb, hk⟩ := tif_inv hk
    have e0 := hb
    obtain ⟨a0, b0⟩ := q0
    have f0 : a0 = 1 := Nat.eq_of_beq_eq_true e0
    subst f0
    exact ⟨Nat.le_of_ble_eq_true rfl, snd_X9_fillCell b0 q1 q2 q3 q4 hk⟩
theorem cr_RX10_384 : CR RX10 (kIns 384) (5, 1, 24, 0, 0, .inr (.inl T_X9_fillCell)) := crV_v (t := 1) (M := M_X9_fillCell) (by decide) rfl (by decide) rfl (inG (i := 226) (w := Cond.methodLink RX10 128 yX9_fillCell) (by decide +kernel) rfl) (inG (i := 227) (w := Cond.instanceMethod yX9_fillCell) (by decide +kernel) rfl) (inG (i := 38) (w := Cond.initialized RX9) (by decide +kernel) rfl) (inG (i := 228) (w := Cond.selects RX9 yX9_fillCell yX9_fillCell) (by decide +kernel) rfl) (inG (i := 229) (w := Cond.code yX9_fillCell cX9_fillCell 5 (none)) (by decide +kernel) rfl) ⟨by decide +kernel, by decide +kernel, by decide +kernel⟩ tr_X9_fillCell tw_X9_fillCell

theorem min_9 {a : Nat} (h : a < 2147483648) : (if nI a < nI 9 then nI a else nI 9) = nI (min 9 a) := min_n (by omega) h
def S_X9_pass (v : Nat) (x : Int32) (h : AH) (K : AH → Prop) : Prop := ∃ V k, CV h v V ∧ WF V ∧ k ≤ 60 ∧ x = nI k ∧ ∀ h', onlyV v h h' → CV h' v (wai V k) → K h'
def T_X9_pass : List AV → AH → (AH → Prop) → Prop := fun as h K => match as with
  | [.inr (.inr (.inl q0)), .inl q1] => tif (Nat.beq q0.1 1) (S_X9_pass q0.2 q1 h K)
  | _ => False

def M_X9_pass : MI := (RX9, cX9_pass, 3, [(0, .aload_n 0, []), (1, .aload_n 0, []), (2, .getfield 42, []), (5, .iload_n 1, []), (6, .iadd, []), (7, .bipush 24, []), (9, .irem, []), (10, .putfield 42, []), (13, .iconst 0, []), (14, .istore_n 2, []), (15, .iload_n 2, []), (16, .aload_n 0, []), (17, .getfield 52, []), (20, .if_icmp .ge 30, [50]), (23, .aload_n 0, []), (24, .getfield 27, []), (27, .iload_n 2, []), (28, .bipush 9, []), (30, .aload_n 0, []), (31, .getfield 27, []), (34, .iload_n 2, []), (35, .iaload, []), (36, .iload_n 1, []), (37, .iconst 4, []), (38, .idiv, []), (39, .iadd, []), (40, .invokestatic 104, []), (43, .iastore, []), (44, .iinc 2 1, []), (47, .goto (-32), [15]), (50, .return_, [])], [(42, (1, 11, 0, 0, 0)), (52, (1, 4, 0, 0, 0)), (27, (1, 6, 1, 7, 0))], [], [], [(313, (2, 1, 21, 0, 0, .inl T_min))], 1, 21, 0, 0)
theorem ok_X9_pass : MOK M_X9_pass := ⟨by decide +kernel, List.forall_mem_cons.mpr ⟨fl_RX9_42, List.forall_mem_cons.mpr ⟨fl_RX9_52, List.forall_mem_cons.mpr ⟨fl_RX9_27, fun _ h => absurd h List.not_mem_nil⟩⟩⟩, fun _ h => absurd h List.not_mem_nil, fun _ h => absurd h List.not_mem_nil, List.forall_mem_cons.mpr ⟨⟨Nat.le_of_ble_eq_true rfl, Nat.le_of_ble_eq_true rfl, cr_RX9_313⟩, fun _ h => absurd h List.not_mem_nil⟩⟩
set_option maxRecDepth 100000 in
theorem vc_X9_pass {K : AH → Prop} {h : AH} (p0 : Nat) (p1 : Int32) (H : (¬ (nI 24) = 0) ∧ AW M_X9_pass (.inr (.inl K)) 15 [some (aR 1 p0), some (aI p1), some (aI (nI 0))] [] (wI h 1 p0 11 (((h.1 1 p0 11) + p1) - ((h.1 1 p0 11) + p1) / (nI 24) * (nI 24))) 0 0) : AW M_X9_pass (.inr (.inl K)) 0 [some (aR 1 p0), some (aI p1), none] [] h 0 0 := AW_go (cuts := [(15, [true, true, true])]) ok_X9_pass 400 H
set_option maxRecDepth 100000 in
theorem vc_X9_pass_15 {K : AH → Prop} {h : AH}  (l0 : Nat) (l1 : Int32) (l2 : Int32) (H : (((h.1 1 l0 4) ≤ l2) → K h) ∧ (¬ ((h.1 1 l0 4) ≤ l2) → inR l2 4 ∧ (¬ (nI 4) = 0) ∧ inR l2 4 ∧ AW M_X9_pass (.inr (.inl K)) 15 [some (aR 1 l0), some (aI l1), some (aI (l2 + (nI 1)))] [] (wI h 7 l0 l2.toNatClampNeg (if ((h.1 7 l0 l2.toNatClampNeg) + (l1 / (nI 4))) < (nI 9) then ((h.1 7 l0 l2.toNatClampNeg) + (l1 / (nI 4))) else (nI 9))) 0 0)) : AW M_X9_pass (.inr (.inl K)) 15 [some (aR 1 l0), some (aI l1), some (aI l2)] [] h 0 0 := AW_go (cuts := [(15, [true, true, true])]) ok_X9_pass 400 H

theorem lp_X9_pass {v k : Nat} {V : Vm} {h0 : AH} {K : AH → Prop} (hw : WF V) (hk : k ≤ 60) (kk : ∀ h', onlyV v h0 h' → CV h' v (wai V k) → K h') : ∀ r e h, e + r = V 10 0 → onlyV v h0 h → CV h v (waik V k e) → AW M_X9_pass (.inr (.inl K)) 15 [some (aR 1 v), some (aI (nI k)), some (aI (nI e))] [] h 0 0 := by
  have h4 := hw.1
  intro r
  induction r with
  | zero =>
    intro e h he o c
    refine vc_X9_pass_15 v (nI k) (nI e) ?_
    have e0 := (CVs c).2.2.2.2.2.2.2.2.1
    rw [waik_10 (by omega)] at e0
    rw [e0, n_le (by omega) (by omega)]
    refine ⟨fun _ => kk h o (CV_c c (fun i hi => ?_) (fun t i ht hi => ?_)), fun q => absurd (by omega) q⟩
    · unfold wai waik
      rw [if_neg (by omega), if_neg (show ¬ ((10 : Nat) = 5 ∧ i < e) by omega)]
    · rw [vLim_c (V := V) (waik_10 (by omega)) (waik_10 (by omega))] at hi
      have h5i : t = 5 → i < e := fun z => by subst z; have hi : i < V 10 0 := hi; omega
      unfold wai waik
      by_cases z : t = 5
      · rw [if_pos z, if_pos ⟨z, h5i z⟩]
      · rw [if_neg z, if_neg (fun y : t = 5 ∧ i < e => z y.1)]
  | succ r ih =>
    intro e h he o c
    refine vc_X9_pass_15 v (nI k) (nI e) ?_
    obtain ⟨-, -, -, -, -, e5, -, -, e0, -⟩ := CVs c
    rw [waik_10 (by omega)] at e0 e5
    have e5 := e5 e (by omega)
    have hbe := hw.2.2.2.2.2.1 e (by omega)
    rw [show waik V k e 5 e = V 5 e by unfold waik; rw [if_neg (by omega), if_neg (by omega)]] at e5
    simp (disch := omega) only [e0, n_le, n_inT, n_cl, true_and, nI_add, e5, n_div, min_9]
    refine ⟨fun q => by omega, fun _ => ⟨by decide, ih (e + 1) _ (by omega) (onlyV_tr o (onlyV_w (by omega) (by omega))) ?_⟩⟩
    refine CV_c (CV_set (t := 5) (i := e) (x := min 9 (V 5 e + k / 4)) c (by decide)) (fun i hi => ?_) (fun t i ht hi => ?_)
    · rw [uV_ne (by omega)]
      unfold waik
      rw [if_neg (by omega), if_neg (show ¬ ((10 : Nat) = 5 ∧ i < e) by omega)]
    · unfold uV waik
      by_cases z : t = 5 ∧ i = e
      · rw [if_pos z, if_pos ⟨z.1, by omega⟩, z.2]
      · rw [if_neg z]
        by_cases y : t = 5 ∧ i < e
        · rw [if_pos y, if_pos ⟨y.1, by omega⟩]
        · rw [if_neg y, if_neg (by omega)]
theorem snd_X9_pass (v : Nat) (x : Int32) {h : AH} {K : AH → Prop} (k : S_X9_pass v x h K) : AW M_X9_pass (.inr (.inl K)) 0 [some (aR 1 v), some (aI x), none] [] h 0 0 := by
  obtain ⟨V, k, c, hw, hk, rfl, kk⟩ := k
  have hh := hw.2.2.1
  have e2 := (CVs c).2.2.2.2.2.2.2.2.2.2.1
  refine vc_X9_pass v (nI k) ⟨by decide, ?_⟩
  rw [e2, nI_add, n_rem (show V 10 2 + k < 2147483648 by omega) (by omega) (by omega)]
  refine lp_X9_pass hw hk kk (V 10 0) 0 _ (by omega) (onlyV_w (by omega) (by omega)) (CV_c (CV_hour (x := (V 10 2 + k) % 24) c) (fun i hi => ?_) (fun t i ht hi => ?_))
  · unfold uV waik; grind
  · unfold uV waik; grind
theorem tr_X9_pass : ∀ (as : List AV) (h : AH) (K : AH → Prop), T_X9_pass as h K → ∃ (q : Nat) (r : List AV), as = aR 1 q :: r := by
  intro as h K hk
  match as, hk with
  | [.inr (.inr (.inl q0)), .inl q1], hk =>
    obtain ⟨hb, hk⟩ := tif_inv hk
    have e0 := hb
    obtain ⟨a0, b0⟩ := q0
    have f0 : a0 = 1 := Nat.eq_of_beq_eq_true e0
    subst f0
    exact ⟨_, _, rfl⟩
theorem tw_X9_pass : ∀ (as : List AV) (h : AH) (K : AH → Prop), T_X9_pass as h K → (ini as).length ≤ mNL M_X9_pass ∧ AW M_X9_pass (.inr (.inl K)) 0 (initL (mNL M_X9_pass) as) [] h 0 0 := by
  intro as h K hk
  match as, hk with
  | [.inr (.inr (.inl q0)), .inl q1], hk =>
    obtain ⟨hb, hk⟩ := tif_inv hk
    have e0 := hb
    obtain ⟨a0, b0⟩ := q0
    have f0 : a0 = 1 := Nat.eq_of_beq_eq_true e0
    subst f0
    exact ⟨Nat.le_of_ble_eq_true rfl, snd_X9_pass b0 q1 hk⟩
theorem cr_RX10_435 : CR RX10 (kIns 435) (2, 2, 43, 0, 0, .inr (.inl T_X9_pass)) := crV_v (t := 1) (M := M_X9_pass) (by decide) rfl (by decide) rfl (inG (i := 452) (w := Cond.methodLink RX10 145 yX9_pass) (by decide +kernel) rfl) (inG (i := 453) (w := Cond.instanceMethod yX9_pass) (by decide +kernel) rfl) (inG (i := 38) (w := Cond.initialized RX9) (by decide +kernel) rfl) (inG (i := 454) (w := Cond.selects RX9 yX9_pass yX9_pass) (by decide +kernel) rfl) (inG (i := 455) (w := Cond.code yX9_pass cX9_pass 3 (none)) (by decide +kernel) rfl) ⟨by decide +kernel, by decide +kernel, by decide +kernel⟩ tr_X9_pass tw_X9_pass

def S_X9_carryOff (v : Nat) (o : Option Nat) (c e : Int32) (h : AH) (K : Int32 → AH → Prop) : Prop := ∃ V n m e', vPre v o h V n ∧ m < 8 ∧ c = nI m ∧ e' < V 10 0 ∧ e = nI e' ∧ ∀ h', onlyV v h h' → CV h' v (crd V n m e') → K (nI (wor V n m)) h'
def T_X9_carryOff : List AV → AH → (Int32 → AH → Prop) → Prop := fun as h K => match as with
  | [.inr (.inr (.inl q0)), .inr (.inr (.inr q1)), .inl q2, .inl q3] => tif (Nat.beq q0.1 1) (S_X9_carryOff q0.2 q1 q2 q3 h K)
  | _ => False

def M_X9_carryOff : MI := (RX9, cX9_carryOff, 5, [(0, .aload_n 0, []), (1, .aload_n 1, []), (2, .iload_n 2, []), (3, .invokevirtual 98, []), (6, .istore 4, []), (8, .aload_n 0, []), (9, .getfield 9, []), (12, .iload_n 2, []), (13, .dup2, []), (14, .iaload, []), (15, .iload 4, []), (17, .bipush 10, []), (19, .idiv, []), (20, .isub, []), (21, .iastore, []), (22, .aload_n 0, []), (23, .getfield 15, []), (26, .iload_n 2, []), (27, .dup2, []), (28, .iaload, []), (29, .iload 4, []), (31, .bipush 10, []), (33, .irem, []), (34, .isub, []), (35, .iastore, []), (36, .aload_n 0, []), (37, .getfield 21, []), (40, .aload_n 0, []), (41, .getfield 30, []), (44, .iload_n 3, []), (45, .iaload, []), (46, .dup2, []), (47, .iaload, []), (48, .iload 4, []), (50, .invokestatic 101, []), (53, .iadd, []), (54, .iastore, []), (55, .aload_n 0, []), (56, .getfield 58, []), (59, .iconst 1, []), (60, .if_icmp .ne 44, [104]), (63, .aload_n 0, []), (64, .getfield 27, []), (67, .iload_n 3, []), (68, .bipush 9, []), (70, .aload_n 0, []), (71, .getfield 27, []), (74, .iload_n 3, []), (75, .iaload, []), (76, .iconst 1, []), (77, .iadd, []), (78, .invokestatic 104, []), (81, .iastore, []), (82, .aload_n 0, []), (83, .getfield 33, []), (86, .iload_n 3, []), (87, .bipush 9, []), (89, .aload_n 0, []), (90, .getfield 33, []), (93, .iload_n 3, []), (94, .iaload, []), (95, .iconst 1, []), (96, .iadd, []), (97, .invokestatic 104, []), (100, .iastore, []), (101, .goto 44, [145]), (104, .aload_n 0, []), (105, .getfield 27, []), (108, .iload_n 3, []), (109, .iconst 0, []), (110, .aload_n 0, []), (111, .getfield 27, []), (114, .iload_n 3, []), (115, .iaload, []), (116, .aload_n 1, []), (117, .getfield 72, []), (120, .iconst 3, []), (121, .idiv, []), (122, .isub, []), (123, .invokestatic 113, []), (126, .iastore, []), (127, .aload_n 0, []), (128, .getfield 33, []), (131, .iload_n 3, []), (132, .iconst 0, []), (133, .aload_n 0, []), (134, .getfield 33, []), (137, .iload_n 3, []), (138, .iaload, []), (139, .iconst 1, []), (140, .isub, []), (141, .invokestatic 113, []), (144, .iastore, []), (145, .iload 4, []), (147, .invokestatic 101, []), (150, .ireturn, [])], [(9, (1, 0, 1, 2, 0)), (15, (1, 1, 1, 3, 0)), (21, (1, 3, 1, 5, 0)), (30, (1, 7, 1, 8, 0)), (58, (1, 12, 0, 0, 0)), (27, (1, 6, 1, 7, 0)), (33, (1, 8, 1, 9, 0)), (72, (18, 2, 0, 0, 0))], [], [], [(294, (3, 3, 65, 0, 0, .inl T_X9_stuckIn)), (304, (1, 1, 20, 0, 0, .inl T_X10_worthOfPair)), (313, (2, 1, 21, 0, 0, .inl T_min)), (340, (2, 1, 21, 0, 0, .inl T_max))], 3, 65, 0, 0)
theorem ok_X9_carryOff : MOK M_X9_carryOff := ⟨by decide +kernel, List.forall_mem_cons.mpr ⟨fl_RX9_9, List.forall_mem_cons.mpr ⟨fl_RX9_15, List.forall_mem_cons.mpr ⟨fl_RX9_21, List.forall_mem_cons.mpr ⟨fl_RX9_30, List.forall_mem_cons.mpr ⟨fl_RX9_58, List.forall_mem_cons.mpr ⟨fl_RX9_27, List.forall_mem_cons.mpr ⟨fl_RX9_33, List.forall_mem_cons.mpr ⟨fl_RX9_72, fun _ h => absurd h List.not_mem_nil⟩⟩⟩⟩⟩⟩⟩⟩, fun _ h => absurd h List.not_mem_nil, fun _ h => absurd h List.not_mem_nil, List.forall_mem_cons.mpr ⟨⟨Nat.le_of_ble_eq_true rfl, Nat.le_of_ble_eq_true rfl, cr_RX9_294⟩, List.forall_mem_cons.mpr ⟨⟨Nat.le_of_ble_eq_true rfl, Nat.le_of_ble_eq_true rfl, cr_RX9_304⟩, List.forall_mem_cons.mpr ⟨⟨Nat.le_of_ble_eq_true rfl, Nat.le_of_ble_eq_true rfl, cr_RX9_313⟩, List.forall_mem_cons.mpr ⟨⟨Nat.le_of_ble_eq_true rfl, Nat.le_of_ble_eq_true rfl, cr_RX9_340⟩, fun _ h => absurd h List.not_mem_nil⟩⟩⟩⟩⟩
set_option maxRecDepth 100000 in
theorem vc_X9_carryOff {K : Int32 → AH → Prop} {h : AH} (p0 : Nat) (p1 : Option Nat) (p2 : Int32) (p3 : Int32) (H : S_X9_stuckIn p0 p1 p2 h (fun x2 h1 => inR p2 8 ∧ (¬ (nI 10) = 0) ∧ inR p2 8 ∧ inR p2 8 ∧ (¬ (nI 10) = 0) ∧ inR p2 8 ∧ inR p3 4 ∧ inR ((wI (wI h1 2 p0 p2.toNatClampNeg ((h1.1 2 p0 p2.toNatClampNeg) - (x2 / (nI 10)))) 3 p0 p2.toNatClampNeg (((wI h1 2 p0 p2.toNatClampNeg ((h1.1 2 p0 p2.toNatClampNeg) - (x2 / (nI 10)))).1 3 p0 p2.toNatClampNeg) - (x2 - x2 / (nI 10) * (nI 10)))).1 8 p0 p3.toNatClampNeg) 4 ∧ S_X10_worthOfPair x2 (wI (wI h1 2 p0 p2.toNatClampNeg ((h1.1 2 p0 p2.toNatClampNeg) - (x2 / (nI 10)))) 3 p0 p2.toNatClampNeg (((wI h1 2 p0 p2.toNatClampNeg ((h1.1 2 p0 p2.toNatClampNeg) - (x2 / (nI 10)))).1 3 p0 p2.toNatClampNeg) - (x2 - x2 / (nI 10) * (nI 10)))) (fun x4 h3 => inR ((wI (wI h1 2 p0 p2.toNatClampNeg ((h1.1 2 p0 p2.toNatClampNeg) - (x2 / (nI 10)))) 3 p0 p2.toNatClampNeg (((wI h1 2 p0 p2.toNatClampNeg ((h1.1 2 p0 p2.toNatClampNeg) - (x2 / (nI 10)))).1 3 p0 p2.toNatClampNeg) - (x2 - x2 / (nI 10) * (nI 10)))).1 8 p0 p3.toNatClampNeg) 4 ∧ AW M_X9_carryOff (.inl K) 55 [some (aR 1 p0), some (aS p1), none, some (aI p3), some (aI x2)] [] (wI h3 5 p0 ((wI (wI h1 2 p0 p2.toNatClampNeg ((h1.1 2 p0 p2.toNatClampNeg) - (x2 / (nI 10)))) 3 p0 p2.toNatClampNeg (((wI h1 2 p0 p2.toNatClampNeg ((h1.1 2 p0 p2.toNatClampNeg) - (x2 / (nI 10)))).1 3 p0 p2.toNatClampNeg) - (x2 - x2 / (nI 10) * (nI 10)))).1 8 p0 p3.toNatClampNeg).toNatClampNeg (((wI (wI h1 2 p0 p2.toNatClampNeg ((h1.1 2 p0 p2.toNatClampNeg) - (x2 / (nI 10)))) 3 p0 p2.toNatClampNeg (((wI h1 2 p0 p2.toNatClampNeg ((h1.1 2 p0 p2.toNatClampNeg) - (x2 / (nI 10)))).1 3 p0 p2.toNatClampNeg) - (x2 - x2 / (nI 10) * (nI 10)))).1 5 p0 ((wI (wI h1 2 p0 p2.toNatClampNeg ((h1.1 2 p0 p2.toNatClampNeg) - (x2 / (nI 10)))) 3 p0 p2.toNatClampNeg (((wI h1 2 p0 p2.toNatClampNeg ((h1.1 2 p0 p2.toNatClampNeg) - (x2 / (nI 10)))).1 3 p0 p2.toNatClampNeg) - (x2 - x2 / (nI 10) * (nI 10)))).1 8 p0 p3.toNatClampNeg).toNatClampNeg) + x4)) 0 0))) : AW M_X9_carryOff (.inl K) 0 [some (aR 1 p0), some (aS p1), some (aI p2), some (aI p3), none] [] h 0 0 := AW_go (cuts := [(55, [true, true, false, true, true]), (145, [false, false, false, false, true])]) ok_X9_carryOff 400 H
set_option maxRecDepth 100000 in
theorem vc_X9_carryOff_55 {K : Int32 → AH → Prop} {h : AH}  (l0 : Nat) (l1 : Option Nat) (l3 : Int32) (l4 : Int32) (H : ((¬ (h.1 1 l0 12) = (nI 1)) → inR l3 4 ∧ oE l1 fun a1 => (¬ (nI 3) = 0) ∧ inR l3 4 ∧ inR l3 4 ∧ inR l3 4 ∧ AW M_X9_carryOff (.inl K) 145 [none, none, none, none, some (aI l4)] [] (wI (wI h 7 l0 l3.toNatClampNeg (if (nI 0) < ((h.1 7 l0 l3.toNatClampNeg) - ((h.1 18 a1 2) / (nI 3))) then ((h.1 7 l0 l3.toNatClampNeg) - ((h.1 18 a1 2) / (nI 3))) else (nI 0))) 9 l0 l3.toNatClampNeg (if (nI 0) < (((wI h 7 l0 l3.toNatClampNeg (if (nI 0) < ((h.1 7 l0 l3.toNatClampNeg) - ((h.1 18 a1 2) / (nI 3))) then ((h.1 7 l0 l3.toNatClampNeg) - ((h.1 18 a1 2) / (nI 3))) else (nI 0))).1 9 l0 l3.toNatClampNeg) - (nI 1)) then (((wI h 7 l0 l3.toNatClampNeg (if (nI 0) < ((h.1 7 l0 l3.toNatClampNeg) - ((h.1 18 a1 2) / (nI 3))) then ((h.1 7 l0 l3.toNatClampNeg) - ((h.1 18 a1 2) / (nI 3))) else (nI 0))).1 9 l0 l3.toNatClampNeg) - (nI 1)) else (nI 0))) 0 0) ∧ (¬ (¬ (h.1 1 l0 12) = (nI 1)) → inR l3 4 ∧ inR l3 4 ∧ inR l3 4 ∧ inR l3 4 ∧ AW M_X9_carryOff (.inl K) 145 [none, none, none, none, some (aI l4)] [] (wI (wI h 7 l0 l3.toNatClampNeg (if ((h.1 7 l0 l3.toNatClampNeg) + (nI 1)) < (nI 9) then ((h.1 7 l0 l3.toNatClampNeg) + (nI 1)) else (nI 9))) 9 l0 l3.toNatClampNeg (if (((wI h 7 l0 l3.toNatClampNeg (if ((h.1 7 l0 l3.toNatClampNeg) + (nI 1)) < (nI 9) then ((h.1 7 l0 l3.toNatClampNeg) + (nI 1)) else (nI 9))).1 9 l0 l3.toNatClampNeg) + (nI 1)) < (nI 9) then (((wI h 7 l0 l3.toNatClampNeg (if ((h.1 7 l0 l3.toNatClampNeg) + (nI 1)) < (nI 9) then ((h.1 7 l0 l3.toNatClampNeg) + (nI 1)) else (nI 9))).1 9 l0 l3.toNatClampNeg) + (nI 1)) else (nI 9))) 0 0)) : AW M_X9_carryOff (.inl K) 55 [some (aR 1 l0), some (aS l1), none, some (aI l3), some (aI l4)] [] h 0 0 := AW_go (cuts := [(55, [true, true, false, true, true]), (145, [false, false, false, false, true])]) ok_X9_carryOff 400 H
set_option maxRecDepth 100000 in
theorem vc_X9_carryOff_145 {K : Int32 → AH → Prop} {h : AH}  (l4 : Int32) (H : S_X10_worthOfPair l4 h (fun x2 h1 => K x2 h1)) : AW M_X9_carryOff (.inl K) 145 [none, none, none, none, some (aI l4)] [] h 0 0 := AW_go (cuts := [(55, [true, true, false, true, true]), (145, [false, false, false, false, true])]) ok_X9_carryOff 400 H

theorem max_0 {a b : Nat} (ha : a < 1000) (hb : b < 1000) : (if nI 0 < nI a - nI b then nI a - nI b else nI 0) = nI (a - b) := by
  rw [n_subI, show nI 0 = iI 0 by decide]
  by_cases q : (0 : Int) < (a : Int) - b
  · rw [if_pos ((i_lt (by omega) (by omega) (by omega) (by omega)).mpr q), nI_iI]
    congr 1
    omega
  · rw [if_neg (fun z => q ((i_lt (by omega) (by omega) (by omega) (by omega)).mp z)), show a - b = 0 by omega]
    rfl
theorem snd_X9_carryOff (v : Nat) (o : Option Nat) (c e : Int32) {h : AH} {K : Int32 → AH → Prop} (k : S_X9_carryOff v o c e h K) : AW M_X9_carryOff (.inl K) 0 [some (aR 1 v), some (aS o), some (aI c), some (aI e), none] [] h 0 0 := by
  obtain ⟨V, n, m, e, hp, hm, rfl, he, rfl, k⟩ := k
  refine vc_X9_carryOff v o (nI m) (nI e) ⟨V, n, m, hp, hm, rfl, fun P p1 p2 p3 => ?_⟩
  obtain ⟨cv, hw, hn, a, rfl, -, -, s3, -⟩ := hp
  have h4 := hw.1
  have hc := hw.2.2.2.2.1 m hm
  have hbe := hw.2.2.2.2.2.1 e he
  have hwt : wt (V 8 n) (V 9 n) ≤ 38 := wt_le (hw.2.2.2.2.2.2 n hn).2
  obtain ⟨e0, e1, -, e3, -, e5, e6, e7, -, -, -, e12, -⟩ := CVs cv
  have hsB : sB V n m ≤ V 0 m := by unfold sB; omega
  have hsS : sS V n m ≤ V 1 m := by unfold sS; omega
  have w := CV_set (t := 3) (i := V 6 e) (x := V 3 (V 6 e) + wor V n m) (CV_set (t := 1) (i := m) (x := V 1 m - sS V n m) (CV_set (t := 0) (i := m) (x := V 0 m - sB V n m) cv (by decide)) (by decide)) (by decide)
  have ow : onlyV v h (wI (wI (wI h 2 v m (nI (V 0 m - sB V n m))) 3 v m (nI (V 1 m - sS V n m))) 5 v (V 6 e) (nI (V 3 (V 6 e) + wor V n m))) := onlyV_tr (onlyV_w (by omega) (by omega)) (onlyV_tr (onlyV_w (by omega) (by omega)) (onlyV_w (by omega) (by omega)))
  have s3' : (wI (wI (wI h 2 v m (nI (V 0 m - sB V n m))) 3 v m (nI (V 1 m - sS V n m))) 5 v (V 6 e) (nI (V 3 (V 6 e) + wor V n m))).1 18 a 2 = nI (wt (V 8 n) (V 9 n)) := by rw [wI_nt (by omega), wI_nt (by omega), wI_nt (by omega)]; exact s3
  have key : AW M_X9_carryOff (.inl K) 55 [some (aR 1 v), some (aS (some a)), none, some (aI (nI e)), some (aI (nI P))] [] (wI (wI (wI h 2 v m (nI (V 0 m - sB V n m))) 3 v m (nI (V 1 m - sS V n m))) 5 v (V 6 e) (nI (V 3 (V 6 e) + wor V n m))) 0 0 := by
    simp only [Nat.reduceAdd] at w
    generalize (wI (wI (wI h 2 v m (nI (V 0 m - sB V n m))) 3 v m (nI (V 1 m - sS V n m))) 5 v (V 6 e) (nI (V 3 (V 6 e) + wor V n m))) = g at w ow s3' ⊢
    have gV : ∀ t i, t ≠ 0 → t ≠ 1 → t ≠ 3 → uV (uV (uV V 0 m (V 0 m - sB V n m)) 1 m (V 1 m - sS V n m)) 3 (V 6 e) (V 3 (V 6 e) + wor V n m) t i = V t i := fun t i a b c => by rw [uV_ne (by omega), uV_ne (by omega), uV_ne (by omega)]
    have hcrd : crd V n m e = uV (uV (uV (uV (uV V 0 m (V 0 m - sB V n m)) 1 m (V 1 m - sS V n m)) 3 (V 6 e) (V 3 (V 6 e) + wor V n m)) 5 e (if V 10 3 = 1 then min 9 (V 5 e + 1) else V 5 e - vWt V n / 3)) 7 e (if V 10 3 = 1 then min 9 (V 7 e + 1) else V 7 e - 1) := rfl
    rw [hcrd] at k
    clear hcrd
    generalize uV (uV (uV V 0 m (V 0 m - sB V n m)) 1 m (V 1 m - sS V n m)) 3 (V 6 e) (V 3 (V 6 e) + wor V n m) = V3 at w gV k
    obtain ⟨-, -, -, -, -, d5, -, d7, -, -, -, d12, -⟩ := CVs w
    rw [gV 10 0 (by omega) (by omega) (by omega)] at d5 d7
    rw [gV 10 3 (by omega) (by omega) (by omega)] at d12
    have d5 := d5 e he
    have d7 := d7 e he
    rw [gV 5 e (by omega) (by omega) (by omega)] at d5
    rw [gV 7 e (by omega) (by omega) (by omega)] at d7
    have last : ∀ g', onlyV v h g' → CV g' v (uV (uV V3 5 e (if V 10 3 = 1 then min 9 (V 5 e + 1) else V 5 e - vWt V n / 3)) 7 e (if V 10 3 = 1 then min 9 (V 7 e + 1) else V 7 e - 1)) → AW M_X9_carryOff (.inl K) 145 [none, none, none, none, some (aI (nI P))] [] g' 0 0 := fun g' o' c' => vc_X9_carryOff_145 (nI P) ⟨P, by omega, rfl, by rw [p2, p3]; exact k g' o' c'⟩
    refine vc_X9_carryOff_55 v (some a) (nI e) (nI P) ?_
    have hd := hw.2.2.2.1
    rw [d12]
    simp (disch := omega) only [n_eq, n_inT, n_cl, true_and, d5, d7, uI_nt, nI_add, min_9]
    refine ⟨fun q => ?_, fun q => last _ (onlyV_tr ow (onlyV_tr (onlyV_w (by omega) (by omega)) (onlyV_w (by omega) (by omega)))) ?_⟩
    · show (¬ nI 3 = 0) ∧ _
      rw [s3', n_div (show wt (V 8 n) (V 9 n) < 2147483648 by omega) (by omega) (by omega)]
      simp (disch := omega) only [max_0]
      refine ⟨by decide, last _ (onlyV_tr ow (onlyV_tr (onlyV_w (by omega) (by omega)) (onlyV_w (by omega) (by omega)))) ?_⟩
      rw [if_neg q, if_neg q]
      exact CV_set (t := 7) (CV_set (t := 5) w (by decide)) (by decide)
    · have q := Decidable.not_not.mp q
      rw [if_pos q, if_pos q]
      exact CV_set (t := 7) (CV_set (t := 5) w (by decide)) (by decide)
  clear w ow s3'
  have hst : wor V n m = 5 * sB V n m + sS V n m := rfl
  simp (disch := omega) only [n_rem, p3]
  simp (disch := omega) only [n_inT, n_cl, true_and, e0, e1, e3, e6, n_div, p2, n_sub, uI_nt, uI_ni]
  refine ⟨by decide, by decide, P, by omega, rfl, ?_⟩
  rw [p2, p3, ← hst]
  simp (disch := omega) only [nI_add, true_and]
  exact key
theorem tr_X9_carryOff : ∀ (as : List AV) (h : AH) (K : Int32 → AH → Prop), T_X9_carryOff as h K → ∃ (q : Nat) (r : List AV), as = aR 1 q :: r := by
  intro as h K hk
  match as, hk with
  | [.inr (.inr (.inl q0)), .inr (.inr (.inr q1)), .inl q2, .inl q3], hk =>
    obtain ⟨hb, hk⟩ := tif_inv hk
    have e0 := hb
    obtain ⟨a0, b0⟩ := q0
    have f0 : a0 = 1 := Nat.eq_of_beq_eq_true e0
    subst f0
    exact ⟨_, _, rfl⟩
theorem tw_X9_carryOff : ∀ (as : List AV) (h : AH) (K : Int32 → AH → Prop), T_X9_carryOff as h K → (ini as).length ≤ mNL M_X9_carryOff ∧ AW M_X9_carryOff (.inl K) 0 (initL (mNL M_X9_carryOff) as) [] h 0 0 := by
  intro as h K hk
  match as, hk with
  | [.inr (.inr (.inl q0)), .inr (.inr (.inr q1)), .inl q2, .inl q3], hk =>
    obtain ⟨hb, hk⟩ := tif_inv hk
    have e0 := hb
    obtain ⟨a0, b0⟩ := q0
    have f0 : a0 = 1 := Nat.eq_of_beq_eq_true e0
    subst f0
    exact ⟨Nat.le_of_ble_eq_true rfl, snd_X9_carryOff b0 q1 q2 q3 hk⟩
theorem cr_RX9_327 : CR RX9 (kIns 327) (4, 4, 89, 0, 0, .inl T_X9_carryOff) := crV_i (t := 1) (M := M_X9_carryOff) (by decide) rfl (by decide) rfl (inG (i := 492) (w := Cond.methodLink RX9 109 yX9_carryOff) (by decide +kernel) rfl) (inG (i := 493) (w := Cond.instanceMethod yX9_carryOff) (by decide +kernel) rfl) (inG (i := 38) (w := Cond.initialized RX9) (by decide +kernel) rfl) (inG (i := 494) (w := Cond.selects RX9 yX9_carryOff yX9_carryOff) (by decide +kernel) rfl) (inG (i := 495) (w := Cond.code yX9_carryOff cX9_carryOff 5 (some .int)) (by decide +kernel) rfl) ⟨by decide +kernel, by decide +kernel, by decide +kernel⟩ tr_X9_carryOff tw_X9_carryOff

theorem fin_o {V : Vm} {o : Option Nat} {t i : Nat} (h5 : t ≠ 5) (h10 : ¬ (t = 10 ∧ i = 2)) : fin V o t i = V t i := by unfold fin; rw [if_neg (fun z => h5 z.1), if_neg h10]
theorem fin_5 {V : Vm} {e : Nat} : fin V (some e) 5 e = V 5 e := by unfold fin; rw [if_neg (by simp), if_neg (by omega)]
theorem thr_crd {V : Vm} {n m e : Nat} (ht : tak V n m = some e) (t i : Nat) : thr V n m t i = crd (fin V (some e)) n m e t i := by
  rw [fin_crd ht]
  have g : ∀ t i, t ≠ 5 → ¬ (t = 10 ∧ i = 2) → fin V (some e) t i = V t i := fun t i a b => fin_o a b
  have a1 : sB (fin V (some e)) n m = sB V n m := by unfold sB vSt; rw [g 8 n (by omega) (by omega), g 9 n (by omega) (by omega), g 0 m (by omega) (by omega)]
  have a2 : sS (fin V (some e)) n m = sS V n m := by unfold sS vSt; rw [a1, g 8 n (by omega) (by omega), g 9 n (by omega) (by omega), g 1 m (by omega) (by omega)]
  have a3 : wor (fin V (some e)) n m = wor V n m := by unfold wor; rw [a1, a2]
  have a4 : vWt (fin V (some e)) n = vWt V n := by unfold vWt; rw [g 8 n (by omega) (by omega), g 9 n (by omega) (by omega)]
  have g' : fin (crd V n m e) (some e) t i = if t = 5 ∧ some i ≠ some e then min 9 (crd V n m e 5 i + 1) else if t = 10 ∧ i = 2 then (crd V n m e 10 2 + 1) % 24 else crd V n m e t i := rfl
  rw [g']
  unfold crd
  rw [a1, a2, a3, a4, g 0 m (by omega) (by omega), g 1 m (by omega) (by omega), g 6 e (by omega) (by omega), g 3 (V 6 e) (by omega) (by omega), g 10 3 (by omega) (by omega), fin_5, g 7 e (by omega) (by omega)]
  have gt : fin V (some e) t i = if t = 5 ∧ some i ≠ some e then min 9 (V 5 i + 1) else if t = 10 ∧ i = 2 then (V 10 2 + 1) % 24 else V t i := rfl
  unfold uV
  rw [gt]
  grind
def S_X9_throwOnto (v : Nat) (s c : Int32) (h : AH) (K : Int32 → AH → Prop) : Prop := ∃ V n m, CV h v V ∧ WF V ∧ n < V 10 1 ∧ s = nI n ∧ m < 8 ∧ c = nI m ∧ ∀ h', onlyV v h h' → CV h' v (thr V n m) → K (nI (brg V n m)) h'
def T_X9_throwOnto : List AV → AH → (Int32 → AH → Prop) → Prop := fun as h K => match as with
  | [.inr (.inr (.inl q0)), .inl q1, .inl q2] => tif (Nat.beq q0.1 1) (S_X9_throwOnto q0.2 q1 q2 h K)
  | _ => False

def M_X9_throwOnto : MI := (RX9, cX9_throwOnto, 5, [(0, .aload_n 0, []), (1, .aload_n 0, []), (2, .getfield 38, []), (5, .iload_n 1, []), (6, .aaload, []), (7, .iload_n 2, []), (8, .invokevirtual 94, []), (11, .istore_n 3, []), (12, .iconst 0, []), (13, .istore 4, []), (15, .iload 4, []), (17, .aload_n 0, []), (18, .getfield 52, []), (21, .if_icmp .ge 36, [57]), (24, .iload 4, []), (26, .iload_n 3, []), (27, .if_icmp .eq 24, [51]), (30, .aload_n 0, []), (31, .getfield 27, []), (34, .iload 4, []), (36, .bipush 9, []), (38, .aload_n 0, []), (39, .getfield 27, []), (42, .iload 4, []), (44, .iaload, []), (45, .iconst 1, []), (46, .iadd, []), (47, .invokestatic 104, []), (50, .iastore, []), (51, .iinc 4 1, []), (54, .goto (-39), [15]), (57, .aload_n 0, []), (58, .aload_n 0, []), (59, .getfield 42, []), (62, .iconst 1, []), (63, .iadd, []), (64, .bipush 24, []), (66, .irem, []), (67, .putfield 42, []), (70, .iload_n 3, []), (71, .bipush (-4), []), (73, .if_icmp .ne 7, [80]), (76, .iconst 0, []), (77, .goto 15, [92]), (80, .aload_n 0, []), (81, .aload_n 0, []), (82, .getfield 38, []), (85, .iload_n 1, []), (86, .aaload, []), (87, .iload_n 2, []), (88, .iload_n 3, []), (89, .invokevirtual 109, []), (92, .ireturn, [])], [(38, (1, 10, 1, 10, 0)), (52, (1, 4, 0, 0, 0)), (27, (1, 6, 1, 7, 0)), (42, (1, 11, 0, 0, 0))], [], [], [(282, (3, 3, 64, 0, 0, .inl T_X9_takerOf)), (313, (2, 1, 21, 0, 0, .inl T_min)), (327, (4, 4, 89, 0, 0, .inl T_X9_carryOff))], 4, 89, 0, 0)
theorem ok_X9_throwOnto : MOK M_X9_throwOnto := ⟨by decide +kernel, List.forall_mem_cons.mpr ⟨fl_RX9_38, List.forall_mem_cons.mpr ⟨fl_RX9_52, List.forall_mem_cons.mpr ⟨fl_RX9_27, List.forall_mem_cons.mpr ⟨fl_RX9_42, fun _ h => absurd h List.not_mem_nil⟩⟩⟩⟩, fun _ h => absurd h List.not_mem_nil, fun _ h => absurd h List.not_mem_nil, List.forall_mem_cons.mpr ⟨⟨Nat.le_of_ble_eq_true rfl, Nat.le_of_ble_eq_true rfl, cr_RX9_282⟩, List.forall_mem_cons.mpr ⟨⟨Nat.le_of_ble_eq_true rfl, Nat.le_of_ble_eq_true rfl, cr_RX9_313⟩, List.forall_mem_cons.mpr ⟨⟨Nat.le_of_ble_eq_true rfl, Nat.le_of_ble_eq_true rfl, cr_RX9_327⟩, fun _ h => absurd h List.not_mem_nil⟩⟩⟩⟩
set_option maxRecDepth 100000 in
theorem vc_X9_throwOnto {K : Int32 → AH → Prop} {h : AH} (p0 : Nat) (p1 : Int32) (p2 : Int32) (H : inR p1 7 ∧ S_X9_takerOf p0 (h.2.1 10 p0 p1.toNatClampNeg) p2 h (fun x2 h1 => AW M_X9_throwOnto (.inl K) 15 [some (aR 1 p0), some (aI p1), some (aI p2), some (aI x2), some (aI (nI 0))] [] h1 0 0)) : AW M_X9_throwOnto (.inl K) 0 [some (aR 1 p0), some (aI p1), some (aI p2), none, none] [] h 0 0 := AW_go (cuts := [(15, [true, true, true, true, true])]) ok_X9_throwOnto 400 H
set_option maxRecDepth 100000 in
theorem vc_X9_throwOnto_15 {K : Int32 → AH → Prop} {h : AH}  (l0 : Nat) (l1 : Int32) (l2 : Int32) (l3 : Int32) (l4 : Int32) (H : (((h.1 1 l0 4) ≤ l4) → (¬ (nI 24) = 0) ∧ ((¬ l3 = (iI (-4))) → inR l1 7 ∧ S_X9_carryOff l0 ((wI h 1 l0 11 (((h.1 1 l0 11) + (nI 1)) - ((h.1 1 l0 11) + (nI 1)) / (nI 24) * (nI 24))).2.1 10 l0 l1.toNatClampNeg) l2 l3 (wI h 1 l0 11 (((h.1 1 l0 11) + (nI 1)) - ((h.1 1 l0 11) + (nI 1)) / (nI 24) * (nI 24))) (fun x2 h1 => K x2 h1)) ∧ (¬ (¬ l3 = (iI (-4))) → K (nI 0) (wI h 1 l0 11 (((h.1 1 l0 11) + (nI 1)) - ((h.1 1 l0 11) + (nI 1)) / (nI 24) * (nI 24))))) ∧ (¬ ((h.1 1 l0 4) ≤ l4) → ((l4 = l3) → AW M_X9_throwOnto (.inl K) 15 [some (aR 1 l0), some (aI l1), some (aI l2), some (aI l3), some (aI (l4 + (nI 1)))] [] h 0 0) ∧ (¬ (l4 = l3) → inR l4 4 ∧ inR l4 4 ∧ AW M_X9_throwOnto (.inl K) 15 [some (aR 1 l0), some (aI l1), some (aI l2), some (aI l3), some (aI (l4 + (nI 1)))] [] (wI h 7 l0 l4.toNatClampNeg (if ((h.1 7 l0 l4.toNatClampNeg) + (nI 1)) < (nI 9) then ((h.1 7 l0 l4.toNatClampNeg) + (nI 1)) else (nI 9))) 0 0))) : AW M_X9_throwOnto (.inl K) 15 [some (aR 1 l0), some (aI l1), some (aI l2), some (aI l3), some (aI l4)] [] h 0 0 := AW_go (cuts := [(15, [true, true, true, true, true])]) ok_X9_throwOnto 400 H

theorem lp_X9_throwOnto {v n m : Nat} {V : Vm} {o : Option Nat} {h0 : AH} {K : Int32 → AH → Prop} (hw : WF V) (hn : n < 7) (ho : ∀ p, o = some p → p < 4) (k : ∀ h', onlyV v h0 h' → CV h' v (fin V o) → (o = none → K (nI 0) h') ∧ ∀ e, o = some e → S_X9_carryOff v (h'.2.1 10 v n) (nI m) (nI e) h' K) : ∀ r e h, e + r = V 10 0 → onlyV v h0 h → CV h v (fink V o e) → AW M_X9_throwOnto (.inl K) 15 [some (aR 1 v), some (aI (nI n)), some (aI (nI m)), some (aI (oI o)), some (aI (nI e))] [] h 0 0 := by
  have h4 := hw.1
  have hh := hw.2.2.1
  have ho2 : ∀ p, o = some p → p < 2147483648 := fun p hp => by have := ho p hp; omega
  intro r
  induction r with
  | zero =>
    intro e h he h1 c
    refine vc_X9_throwOnto_15 v (nI n) (nI m) (oI o) (nI e) ?_
    obtain ⟨-, -, -, -, -, -, -, -, e0, -, e2, -⟩ := CVs c
    rw [fink_ne (by decide)] at e0 e2
    rw [e0, e2, n_le (by omega) (by omega), nI_add, n_rem (show V 10 2 + 1 < 2147483648 by omega) (by omega) (by omega), n_cl (show n < 2147483648 by omega), oI_no ho2]
    have c2 : CV (wI h 1 v 11 (nI ((V 10 2 + 1) % 24))) v (fin V o) := by
      refine CV_c (CV_hour (x := (V 10 2 + 1) % 24) c) (fun i hi => ?_) (fun t i ht hi => ?_)
      · unfold uV fin fink
        by_cases z : i = 2
        · subst z; rw [if_neg (by omega), if_pos ⟨rfl, rfl⟩, if_pos ⟨rfl, rfl⟩]
        · rw [if_neg (by omega), if_neg (fun y => z y.2), if_neg (fun y => z y.2), if_neg (by omega)]
      · rw [vLim_u (by omega), vLim_c (V := V) (fink_ne (by decide)) (fink_ne (by decide))] at hi
        have h5i : t = 5 → i < e := fun z => by subst z; have hi : i < V 10 0 := hi; omega
        unfold fin uV fink
        grind
    obtain ⟨k1, k2⟩ := k _ (onlyV_tr h1 (onlyV_w (by omega) (by omega))) c2
    refine ⟨fun _ => ⟨by decide, fun q => ⟨n_in hn (by omega), ?_⟩, fun q => k1 (Decidable.not_not.mp q)⟩, fun q => absurd (by omega) q⟩
    cases ho3 : o with
    | none => exact absurd ho3 q
    | some p =>
      exact k2 p ho3
  | succ r ih =>
    intro e h he h1 c
    refine vc_X9_throwOnto_15 v (nI n) (nI m) (oI o) (nI e) ?_
    obtain ⟨-, -, -, -, -, e5, -, -, e0, -⟩ := CVs c
    rw [fink_ne (by decide)] at e0 e5
    have e5 := e5 e (by omega)
    have hbe := hw.2.2.2.2.2.1 e (by omega)
    rw [show fink V o e 5 e = V 5 e by unfold fink; rw [if_neg (by omega)]] at e5
    rw [e0, n_le (by omega) (by omega), oI_eq (by omega) ho2]
    simp (disch := omega) only [n_inT, n_cl, true_and, nI_add, e5, min_9]
    refine ⟨fun q => by omega, fun _ => ⟨fun q => ?_, fun q => ?_⟩⟩
    · refine ih (e + 1) h (by omega) h1 (CV_c c (fun i _ => ?_) (fun t i ht hi => ?_))
      · rw [fink_ne (by decide), fink_ne (by decide)]
      · unfold fink
        by_cases hc : t = 5 ∧ i < e ∧ some i ≠ o
        · rw [if_pos hc, if_pos ⟨hc.1, by omega, hc.2.2⟩]
        · rw [if_neg hc, if_neg]
          rintro ⟨z1, z2, z3⟩
          rcases Nat.lt_or_ge i e with z | z
          · exact hc ⟨z1, z, z3⟩
          · exact z3 (by rw [show i = e by omega]; exact q.symm)
    · refine ih (e + 1) _ (by omega) (onlyV_tr h1 (onlyV_w (by omega) (by omega))) (CV_c (CV_set (t := 5) (i := e) (x := min 9 (V 5 e + 1)) c (by decide)) (fun i _ => ?_) (fun t i ht hi => ?_))
      · rw [uV_ne (by omega), fink_ne (by decide), fink_ne (by decide)]
      · unfold uV fink
        by_cases hc : t = 5 ∧ i = e
        · rw [if_pos hc, if_pos ⟨hc.1, by omega, by rw [hc.2]; exact fun z => q z.symm⟩, hc.2]
        · rw [if_neg hc]
          by_cases hc2 : t = 5 ∧ i < e ∧ some i ≠ o
          · rw [if_pos hc2, if_pos ⟨hc2.1, by omega, hc2.2.2⟩]
          · rw [if_neg hc2, if_neg]
            rintro ⟨z1, z2, z3⟩
            rcases Nat.lt_or_ge i e with z | z
            · exact hc2 ⟨z1, z, z3⟩
            · exact hc ⟨z1, by omega⟩
theorem WF_fin {V : Vm} {o : Option Nat} (hw : WF V) : WF (fin V o) := by
  obtain ⟨a, b, c, d, e, f, g⟩ := hw
  have hn : ∀ t i, t ≠ 5 → t ≠ 10 → fin V o t i = V t i := fun t i h1 h2 => fin_o h1 (by omega)
  have h10 : ∀ i, i ≠ 2 → fin V o 10 i = V 10 i := fun i h1 => fin_o (by decide) (by omega)
  have h12 : fin V o 10 2 = (V 10 2 + 1) % 24 := by unfold fin; rw [if_neg (by omega), if_pos ⟨rfl, rfl⟩]
  have h5 : ∀ i, V 5 i ≤ 9 → fin V o 5 i ≤ 9 := fun i hi => by unfold fin; split; omega; rw [if_neg (by omega)]; exact hi
  unfold WF
  simp (disch := omega) only [hn, h10, h12]
  refine ⟨a, b, by omega, d, e, fun i hi => ?_, g⟩
  have := f i hi
  exact ⟨this.1, h5 i this.2.1, this.2.2⟩
theorem snd_X9_throwOnto (v : Nat) (s c : Int32) {h : AH} {K : Int32 → AH → Prop} (k : S_X9_throwOnto v s c h K) : AW M_X9_throwOnto (.inl K) 0 [some (aR 1 v), some (aI s), some (aI c), none, none] [] h 0 0 := by
  obtain ⟨V, n, m, cv, hw, hn, rfl, hm, rfl, k⟩ := k
  have h4 := hw.1
  have h7 := hw.2.1
  have sp := (CVs cv).2.2.2.2.2.2.2.2.2.2.2.2 n hn
  refine vc_X9_throwOnto v (nI n) (nI m) ⟨n_in (show n < 7 by omega) (by omega), ?_⟩
  rw [n_cl (show n < 2147483648 by omega)]
  refine ⟨V, n, m, ⟨cv, hw, hn, sp⟩, hm, rfl, ?_⟩
  refine lp_X9_throwOnto hw (by omega) (fun p hp => by have := tak_lt hp; omega) (fun h' o' c' => ⟨fun e => ?_, fun e he => ?_⟩) (V 10 0) 0 h (by omega) (onlyV_rfl v h) (CV_c cv (fun i _ => fink_ne (by decide)) (fun t i _ _ => by unfold fink; rw [if_neg (by omega)]))
  · have kk := k h' o'
    unfold brg at kk
    rw [e] at kk
    rw [e] at c'
    exact kk (CV_c c' (fun i _ => fin_none e 10 i) (fun t i _ _ => fin_none e t i))
  · have he2 := tak_lt he
    have n10 : fin V (tak V n m) 10 0 = V 10 0 := fin_o (by decide) (by omega)
    have n11 : fin V (tak V n m) 10 1 = V 10 1 := fin_o (by decide) (by omega)
    have sp' := (CVs c').2.2.2.2.2.2.2.2.2.2.2.2 n (by rw [n11]; exact hn)
    refine ⟨fin V (tak V n m), n, m, e, ⟨c', WF_fin hw, by rw [n11]; exact hn, sp'⟩, hm, rfl, by rw [n10]; exact he2, rfl, fun h2 o2 c2 => ?_⟩
    have kk := k h2 (onlyV_tr o' o2)
    rw [he] at c2 ⊢
    have w1 : wor (fin V (some e)) n m = wor V n m := by
      unfold wor sS sB vSt
      rw [fin_o (t := 8) (by omega) (by omega), fin_o (t := 9) (by omega) (by omega), fin_o (t := 0) (by omega) (by omega), fin_o (t := 1) (by omega) (by omega)]
    rw [w1]
    unfold brg at kk
    rw [he] at kk
    exact kk (CV_c c2 (fun i _ => thr_crd he 10 i) (fun t i _ _ => thr_crd he t i))
theorem tr_X9_throwOnto : ∀ (as : List AV) (h : AH) (K : Int32 → AH → Prop), T_X9_throwOnto as h K → ∃ (q : Nat) (r : List AV), as = aR 1 q :: r := by
  intro as h K hk
  match as, hk with
  | [.inr (.inr (.inl q0)), .inl q1, .inl q2], hk =>
    obtain ⟨hb, hk⟩ := tif_inv hk
    have e0 := hb
    obtain ⟨a0, b0⟩ := q0
    have f0 : a0 = 1 := Nat.eq_of_beq_eq_true e0
    subst f0
    exact ⟨_, _, rfl⟩
theorem tw_X9_throwOnto : ∀ (as : List AV) (h : AH) (K : Int32 → AH → Prop), T_X9_throwOnto as h K → (ini as).length ≤ mNL M_X9_throwOnto ∧ AW M_X9_throwOnto (.inl K) 0 (initL (mNL M_X9_throwOnto) as) [] h 0 0 := by
  intro as h K hk
  match as, hk with
  | [.inr (.inr (.inl q0)), .inl q1, .inl q2], hk =>
    obtain ⟨hb, hk⟩ := tif_inv hk
    have e0 := hb
    obtain ⟨a0, b0⟩ := q0
    have f0 : a0 = 1 := Nat.eq_of_beq_eq_true e0
    subst f0
    exact ⟨Nat.le_of_ble_eq_true rfl, snd_X9_throwOnto b0 q1 q2 hk⟩
theorem cr_RX10_426 : CR RX10 (kIns 426) (3, 5, 113, 0, 0, .inl T_X9_throwOnto) := crV_i (t := 1) (M := M_X9_throwOnto) (by decide) rfl (by decide) rfl (inG (i := 472) (w := Cond.methodLink RX10 142 yX9_throwOnto) (by decide +kernel) rfl) (inG (i := 473) (w := Cond.instanceMethod yX9_throwOnto) (by decide +kernel) rfl) (inG (i := 38) (w := Cond.initialized RX9) (by decide +kernel) rfl) (inG (i := 474) (w := Cond.selects RX9 yX9_throwOnto yX9_throwOnto) (by decide +kernel) rfl) (inG (i := 475) (w := Cond.code yX9_throwOnto cX9_throwOnto 5 (some .int)) (by decide +kernel) rfl) ⟨by decide +kernel, by decide +kernel, by decide +kernel⟩ tr_X9_throwOnto tw_X9_throwOnto


/-! ===== the component's calls: whose, mean, merchants, quarrels, seasons, the image, counts ===== -/
def S_X10_whose (c v : Int32) (h : AH) (K : Int32 → AH → Prop) : Prop := ∃ V, CV h 0 V ∧ WF V ∧ K (R_whose V c v) h
def T_X10_whose : List AV → AH → (Int32 → AH → Prop) → Prop := fun as h K => match as with
  | [.inr (.inr (.inl q0)), .inl q1, .inl q2] => tif (Nat.beq q0.1 0 && Nat.beq q0.2 0) (S_X10_whose q1 q2 h K)
  | _ => False

def M_X10_whose : MI := (RX10, cX10_whose, 5, [(0, .iload_n 1, []), (1, .iconst 0, []), (2, .bipush 7, []), (4, .invokestatic 59, []), (7, .ifCond .eq 7, [14]), (10, .iload_n 2, []), (11, .ifCond .ge 5, [16]), (14, .iconst (-1), []), (15, .ireturn, []), (16, .iconst 0, []), (17, .istore_n 3, []), (18, .iconst 0, []), (19, .istore 4, []), (21, .iload 4, []), (23, .aload_n 0, []), (24, .getfield 10, []), (27, .getfield 125, []), (30, .if_icmp .ge 55, [85]), (33, .iload_n 1, []), (34, .aload_n 0, []), (35, .getfield 10, []), (38, .getfield 149, []), (41, .iload 4, []), (43, .aaload, []), (44, .getfield 105, []), (47, .if_icmp .gt 32, [79]), (50, .aload_n 0, []), (51, .getfield 10, []), (54, .aload_n 0, []), (55, .getfield 10, []), (58, .getfield 149, []), (61, .iload 4, []), (63, .aaload, []), (64, .iload_n 1, []), (65, .invokevirtual 153, []), (68, .iload_n 2, []), (69, .if_icmp .ne 10, [79]), (72, .iload_n 3, []), (73, .iconst 1, []), (74, .iload 4, []), (76, .ishl, []), (77, .ior, []), (78, .istore_n 3, []), (79, .iinc 4 1, []), (82, .goto (-61), [21]), (85, .iload_n 3, []), (86, .ireturn, [])], [(10, (0, 0, 1, 1, 0)), (125, (1, 9, 0, 0, 0)), (149, (1, 10, 1, 10, 0)), (105, (18, 4, 0, 0, 0))], [], [], [(178, (3, 1, 22, 0, 0, .inl T_X10_within)), (459, (3, 4, 87, 0, 0, .inl T_X9_broughtBy))], 4, 87, 0, 0)
theorem ok_X10_whose : MOK M_X10_whose := ⟨by decide +kernel, List.forall_mem_cons.mpr ⟨fl_RX10_10, List.forall_mem_cons.mpr ⟨fl_RX10_125, List.forall_mem_cons.mpr ⟨fl_RX10_149, List.forall_mem_cons.mpr ⟨fl_RX10_105, fun _ h => absurd h List.not_mem_nil⟩⟩⟩⟩, fun _ h => absurd h List.not_mem_nil, fun _ h => absurd h List.not_mem_nil, List.forall_mem_cons.mpr ⟨⟨Nat.le_of_ble_eq_true rfl, Nat.le_of_ble_eq_true rfl, cr_RX10_178⟩, List.forall_mem_cons.mpr ⟨⟨Nat.le_of_ble_eq_true rfl, Nat.le_of_ble_eq_true rfl, cr_RX10_459⟩, fun _ h => absurd h List.not_mem_nil⟩⟩⟩
set_option maxRecDepth 100000 in
theorem vc_X10_whose {K : Int32 → AH → Prop} {h : AH} (p1 : Int32) (p2 : Int32) (H : S_X10_within p1 (nI 0) (nI 7) h (fun x2 h1 => ((x2 = 0) → K (iI (-1)) h1) ∧ (¬ (x2 = 0) → ((0 ≤ p2) → AW M_X10_whose (.inl K) 21 [some (aR 0 0), some (aI p1), some (aI p2), some (aI (nI 0)), some (aI (nI 0))] [] h1 0 0) ∧ (¬ (0 ≤ p2) → K (iI (-1)) h1)))) : AW M_X10_whose (.inl K) 0 [some (aR 0 0), some (aI p1), some (aI p2), none, none] [] h 0 0 := AW_go (cuts := [(21, [true, true, true, true, true])]) ok_X10_whose 400 H
set_option maxRecDepth 100000 in
theorem vc_X10_whose_21 {K : Int32 → AH → Prop} {h : AH}  (l1 : Int32) (l2 : Int32) (l3 : Int32) (l4 : Int32) (H : (((h.1 1 0 9) ≤ l4) → K l3 h) ∧ (¬ ((h.1 1 0 9) ≤ l4) → inR l4 7 ∧ oE (h.2.1 10 0 l4.toNatClampNeg) fun a1 => (((h.1 18 a1 4) < l1) → AW M_X10_whose (.inl K) 21 [some (aR 0 0), some (aI l1), some (aI l2), some (aI l3), some (aI (l4 + (nI 1)))] [] h 0 0) ∧ (¬ ((h.1 18 a1 4) < l1) → inR l4 7 ∧ S_X9_broughtBy 0 (h.2.1 10 0 l4.toNatClampNeg) l1 h (fun x3 h2 => ((¬ x3 = l2) → AW M_X10_whose (.inl K) 21 [some (aR 0 0), some (aI l1), some (aI l2), some (aI l3), some (aI (l4 + (nI 1)))] [] h2 0 0) ∧ (¬ (¬ x3 = l2) → AW M_X10_whose (.inl K) 21 [some (aR 0 0), some (aI l1), some (aI l2), some (aI (l3 ||| ((nI 1) <<< (l4 &&& 31)))), some (aI (l4 + (nI 1)))] [] h2 0 0))))) : AW M_X10_whose (.inl K) 21 [some (aR 0 0), some (aI l1), some (aI l2), some (aI l3), some (aI l4)] [] h 0 0 := AW_go (cuts := [(21, [true, true, true, true, true])]) ok_X10_whose 400 H

theorem lp_X10_whose {V : Vm} {m : Nat} {v : Int32} {h : AH} {K : Int32 → AH → Prop} (cv : CV h 0 V) (hw : WF V) (hm : m < 8) (k : K (who V m v (V 10 1)) h) : ∀ r c, c + r = V 10 1 → AW M_X10_whose (.inl K) 21 [some (aR 0 0), some (aI (nI m)), some (aI v), some (aI (who V m v c)), some (aI (nI c))] [] h 0 0 := by
  have h7 := hw.2.1
  obtain ⟨-, -, -, -, -, -, -, -, -, e9, -, -, eS⟩ := CVs cv
  intro r
  induction r with
  | zero =>
    intro c hc
    refine vc_X10_whose_21 (nI m) v _ (nI c) ?_
    have : c = V 10 1 := by omega
    subst this
    rw [e9]
    exact ⟨fun _ => k, fun q => absurd (Int32.le_refl _) q⟩
  | succ r ih =>
    intro c hc
    refine vc_X10_whose_21 (nI m) v _ (nI c) ?_
    have hf : fly (V 8 c) ≤ 7 := fly_le _
    have sp := eS c (by omega)
    obtain ⟨a, ea, -, -, -, -, s5, -⟩ := id sp
    have ih := ih (c + 1) (by omega)
    rw [who] at ih
    rw [e9, n_le (by omega) (by omega), n_cl (show c < 2147483648 by omega), nI_add]
    refine ⟨fun q => by omega, fun _ => ⟨n_in (show c < 7 by omega) (by omega), ?_⟩⟩
    rw [ea] at sp ⊢
    refine oE_s ?_
    rw [s5, n_lt (by omega) (by omega)]
    refine ⟨fun q => ?_, fun q => ⟨n_in (show c < 7 by omega) (by omega), V, c, m, ⟨cv, hw, by omega, sp⟩, hm, rfl, ⟨fun z => ?_, fun z => ?_⟩⟩⟩
    · rw [if_neg (fun z => by have := z.1; simp only [vFl] at this; omega)] at ih; exact ih
    · rw [if_neg (fun y => z y.2)] at ih; exact ih
    · rw [if_pos ⟨by simp only [vFl]; omega, Decidable.not_not.mp z⟩] at ih; exact ih
theorem snd_X10_whose (c v : Int32) {h : AH} {K : Int32 → AH → Prop} (k : S_X10_whose c v h K) : AW M_X10_whose (.inl K) 0 [some (aR 0 0), some (aI c), some (aI v), none, none] [] h 0 0 := by
  obtain ⟨V, cv, hw, k⟩ := k
  unfold R_whose at k
  refine vc_X10_whose c v (w_if (fun q => ⟨fun q2 => ?_, fun q2 => ?_⟩) (fun q => ?_))
  · rw [if_pos ⟨q, q2⟩] at k
    obtain ⟨m, hm, rfl⟩ := in8_iff.mp q
    unfold nN at k
    rw [n_cl (by omega)] at k
    exact lp_X10_whose cv hw hm k (V 10 1) 0 (by omega)
  · rw [if_neg (fun z => q2 z.2)] at k; exact k
  · rw [if_neg (fun z => q z.1)] at k; exact k
theorem tr_X10_whose : ∀ (as : List AV) (h : AH) (K : Int32 → AH → Prop), T_X10_whose as h K → ∃ (q : Nat) (r : List AV), as = aR 0 q :: r := by
  intro as h K hk
  match as, hk with
  | [.inr (.inr (.inl q0)), .inl q1, .inl q2], hk =>
    obtain ⟨hb, hk⟩ := tif_inv hk
    simp only [Bool.and_eq_true] at hb
    obtain ⟨e0, e1⟩ := hb
    obtain ⟨a0, b0⟩ := q0
    have f0 : a0 = 0 := Nat.eq_of_beq_eq_true e0
    subst f0
    have f1 : b0 = 0 := Nat.eq_of_beq_eq_true e1
    subst f1
    exact ⟨_, _, rfl⟩
theorem tw_X10_whose : ∀ (as : List AV) (h : AH) (K : Int32 → AH → Prop), T_X10_whose as h K → (ini as).length ≤ mNL M_X10_whose ∧ AW M_X10_whose (.inl K) 0 (initL (mNL M_X10_whose) as) [] h 0 0 := by
  intro as h K hk
  match as, hk with
  | [.inr (.inr (.inl q0)), .inl q1, .inl q2], hk =>
    obtain ⟨hb, hk⟩ := tif_inv hk
    simp only [Bool.and_eq_true] at hb
    obtain ⟨e0, e1⟩ := hb
    obtain ⟨a0, b0⟩ := q0
    have f0 : a0 = 0 := Nat.eq_of_beq_eq_true e0
    subst f0
    have f1 : b0 = 0 := Nat.eq_of_beq_eq_true e1
    subst f1
    exact ⟨Nat.le_of_ble_eq_true rfl, snd_X10_whose q1 q2 hk⟩

def S_X10_mean (a w : Int32) (h : AH) (K : Int64 → AH → Prop) : Prop := ∃ V, CV h 0 V ∧ WF V ∧ K (R_mean V a w) h
def T_X10_mean : List AV → AH → (Int64 → AH → Prop) → Prop := fun as h K => match as with
  | [.inr (.inr (.inl q0)), .inl q1, .inl q2] => tif (Nat.beq q0.1 0 && Nat.beq q0.2 0) (S_X10_mean q1 q2 h K)
  | _ => False

def M_X10_mean : MI := (RX10, cX10_mean, 7, [(0, .aload_n 0, []), (1, .getfield 10, []), (4, .iload_n 1, []), (5, .invokevirtual 87, []), (8, .astore_n 3, []), (9, .aload_n 3, []), (10, .ifnull 12, [22]), (13, .iload_n 2, []), (14, .iconst 0, []), (15, .iconst 1, []), (16, .invokestatic 59, []), (19, .ifCond .ne 7, [26]), (22, .ldc2_w 206, []), (25, .lreturn, []), (26, .iconst 0, []), (27, .istore 4, []), (29, .iconst 0, []), (30, .istore 5, []), (32, .iconst 0, []), (33, .istore 6, []), (35, .iload 6, []), (37, .aload_n 3, []), (38, .getfield 105, []), (41, .if_icmp .gt 27, [68]), (44, .iload 4, []), (46, .aload_n 0, []), (47, .getfield 10, []), (50, .aload_n 3, []), (51, .iload 6, []), (53, .invokevirtual 153, []), (56, .iadd, []), (57, .istore 4, []), (59, .iinc 5 1, []), (62, .iinc 6 1, []), (65, .goto (-30), [35]), (68, .iload 5, []), (70, .istore 6, []), (72, .iload 6, []), (74, .iconst 2, []), (75, .if_icmp .lt 39, [114]), (78, .iload 4, []), (80, .iload 6, []), (82, .irem, []), (83, .ifCond .ne 25, [108]), (86, .iload 5, []), (88, .iload 6, []), (90, .irem, []), (91, .ifCond .ne 17, [108]), (94, .iload 4, []), (96, .iload 6, []), (98, .idiv, []), (99, .istore 4, []), (101, .iload 5, []), (103, .iload 6, []), (105, .idiv, []), (106, .istore 5, []), (108, .iinc 6 (-1), []), (111, .goto (-39), [72]), (114, .iload_n 2, []), (115, .ifCond .ne 9, [124]), (118, .iload 4, []), (120, .i2l, []), (121, .goto 6, [127]), (124, .iload 5, []), (126, .i2l, []), (127, .lreturn, [])], [(10, (0, 0, 1, 1, 0)), (105, (18, 4, 0, 0, 0))], [], [(206, 1000000001)], [(261, (2, 2, 43, 0, 0, .inr (.inr (.inr T_X9_sheepAt)))), (178, (3, 1, 22, 0, 0, .inl T_X10_within)), (459, (3, 4, 87, 0, 0, .inl T_X9_broughtBy))], 4, 87, 0, 0)
theorem ok_X10_mean : MOK M_X10_mean := ⟨by decide +kernel, List.forall_mem_cons.mpr ⟨fl_RX10_10, List.forall_mem_cons.mpr ⟨fl_RX10_105, fun _ h => absurd h List.not_mem_nil⟩⟩, fun _ h => absurd h List.not_mem_nil, List.forall_mem_cons.mpr ⟨(inG (i := 680) (w := Cond.constantLong RX10 206 1000000001) (by decide +kernel) rfl), fun _ h => absurd h List.not_mem_nil⟩, List.forall_mem_cons.mpr ⟨⟨Nat.le_of_ble_eq_true rfl, Nat.le_of_ble_eq_true rfl, cr_RX10_261⟩, List.forall_mem_cons.mpr ⟨⟨Nat.le_of_ble_eq_true rfl, Nat.le_of_ble_eq_true rfl, cr_RX10_178⟩, List.forall_mem_cons.mpr ⟨⟨Nat.le_of_ble_eq_true rfl, Nat.le_of_ble_eq_true rfl, cr_RX10_459⟩, fun _ h => absurd h List.not_mem_nil⟩⟩⟩⟩
set_option maxRecDepth 100000 in
theorem vc_X10_mean {K : Int64 → AH → Prop} {h : AH} (p1 : Int32) (p2 : Int32) (H : S_X9_sheepAt 0 p1 h (fun x2 h1 => (((x2 : Option Nat) = none) → K (1000000001 : Int64) h1) ∧ (¬ ((x2 : Option Nat) = none) → S_X10_within p2 (nI 0) (nI 1) h1 (fun x4 h3 => ((¬ x4 = 0) → AW M_X10_mean (.inr (.inr (.inl K))) 35 [some (aR 0 0), none, some (aI p2), some (aS x2), some (aI (nI 0)), some (aI (nI 0)), some (aI (nI 0))] [] h3 0 0) ∧ (¬ (¬ x4 = 0) → K (1000000001 : Int64) h3))))) : AW M_X10_mean (.inr (.inr (.inl K))) 0 [some (aR 0 0), some (aI p1), some (aI p2), none, none, none, none] [] h 0 0 := AW_go (cuts := [(35, [true, false, true, true, true, true, true]), (72, [false, false, true, false, true, true, true])]) ok_X10_mean 400 H
set_option maxRecDepth 100000 in
theorem vc_X10_mean_35 {K : Int64 → AH → Prop} {h : AH}  (l2 : Int32) (l3 : Option Nat) (l4 : Int32) (l5 : Int32) (l6 : Int32) (H : oE l3 fun a1 => (((h.1 18 a1 4) < l6) → AW M_X10_mean (.inr (.inr (.inl K))) 72 [none, none, some (aI l2), none, some (aI l4), some (aI l5), some (aI l5)] [] h 0 0) ∧ (¬ ((h.1 18 a1 4) < l6) → S_X9_broughtBy 0 l3 l6 h (fun x3 h2 => AW M_X10_mean (.inr (.inr (.inl K))) 35 [some (aR 0 0), none, some (aI l2), some (aS l3), some (aI (l4 + x3)), some (aI (l5 + (nI 1))), some (aI (l6 + (nI 1)))] [] h2 0 0))) : AW M_X10_mean (.inr (.inr (.inl K))) 35 [some (aR 0 0), none, some (aI l2), some (aS l3), some (aI l4), some (aI l5), some (aI l6)] [] h 0 0 := AW_go (cuts := [(35, [true, false, true, true, true, true, true]), (72, [false, false, true, false, true, true, true])]) ok_X10_mean 400 H
set_option maxRecDepth 100000 in
theorem vc_X10_mean_72 {K : Int64 → AH → Prop} {h : AH}  (l2 : Int32) (l4 : Int32) (l5 : Int32) (l6 : Int32) (H : ((l6 < (nI 2)) → ((¬ l2 = 0) → K l5.toInt64 h) ∧ (¬ (¬ l2 = 0) → K l4.toInt64 h)) ∧ (¬ (l6 < (nI 2)) → (¬ l6 = 0) ∧ ((¬ (l4 - l4 / l6 * l6) = 0) → AW M_X10_mean (.inr (.inr (.inl K))) 72 [none, none, some (aI l2), none, some (aI l4), some (aI l5), some (aI (l6 + (iI (-1))))] [] h 0 0) ∧ (¬ (¬ (l4 - l4 / l6 * l6) = 0) → (¬ l6 = 0) ∧ ((¬ (l5 - l5 / l6 * l6) = 0) → AW M_X10_mean (.inr (.inr (.inl K))) 72 [none, none, some (aI l2), none, some (aI l4), some (aI l5), some (aI (l6 + (iI (-1))))] [] h 0 0) ∧ (¬ (¬ (l5 - l5 / l6 * l6) = 0) → (¬ l6 = 0) ∧ (¬ l6 = 0) ∧ AW M_X10_mean (.inr (.inr (.inl K))) 72 [none, none, some (aI l2), none, some (aI (l4 / l6)), some (aI (l5 / l6)), some (aI (l6 + (iI (-1))))] [] h 0 0)))) : AW M_X10_mean (.inr (.inr (.inl K))) 72 [none, none, some (aI l2), none, some (aI l4), some (aI l5), some (aI l6)] [] h 0 0 := AW_go (cuts := [(35, [true, false, true, true, true, true, true]), (72, [false, false, true, false, true, true, true])]) ok_X10_mean 400 H

theorem gcd_2 {A B d : Nat} (hd : 2 ≤ d) (hB : 0 < B) (h1 : A / Nat.gcd A B % d = 0) (h2 : B / Nat.gcd A B % d = 0) : False := by
  have g1 := Nat.gcd_dvd_left A B
  have g2 := Nat.gcd_dvd_right A B
  have g0 : 0 < Nat.gcd A B := Nat.gcd_pos_of_pos_right A hB
  obtain ⟨x, hx⟩ := Nat.dvd_of_mod_eq_zero h1
  obtain ⟨y, hy⟩ := Nat.dvd_of_mod_eq_zero h2
  have eA := Nat.mul_div_cancel' g1
  have eB := Nat.mul_div_cancel' g2
  rw [hx] at eA
  rw [hy] at eB
  have d1 : Nat.gcd A B * d ∣ A := ⟨x, by rw [Nat.mul_assoc, eA]⟩
  have d2 : Nat.gcd A B * d ∣ B := ⟨y, by rw [Nat.mul_assoc, eB]⟩
  have d3 := Nat.le_of_dvd g0 (Nat.dvd_gcd d1 d2)
  have d4 : Nat.gcd A B * 2 ≤ Nat.gcd A B * d := Nat.mul_le_mul_left _ hd
  omega
theorem lp2_X10_mean {A B : Nat} {w : Int32} {h : AH} {K : Int64 → AH → Prop} (hA : A < 2147483648) (hB : 0 < B) (hB2 : B < 1000) (k : (¬ w = 0 → K (nI (B / Nat.gcd A B)).toInt64 h) ∧ (¬ ¬ w = 0 → K (nI (A / Nat.gcd A B)).toInt64 h)) : ∀ d a b, d < 1000 → ((a = A ∧ b = B ∧ Nat.gcd A B ≤ d) ∨ (a = A / Nat.gcd A B ∧ b = B / Nat.gcd A B)) → AW M_X10_mean (.inr (.inr (.inl K))) 72 [none, none, some (aI w), none, some (aI (nI a)), some (aI (nI b)), some (aI (nI d))] [] h 0 0 := by
  have g0 : 0 < Nat.gcd A B := Nat.gcd_pos_of_pos_right A hB
  intro d
  induction d with
  | zero =>
    intro a b hd hs
    refine vc_X10_mean_72 w (nI a) (nI b) (nI 0) ⟨fun _ => ?_, fun q => absurd (by decide) q⟩
    rcases hs with ⟨_, _, z⟩ | ⟨rfl, rfl⟩
    · omega
    · exact k
  | succ d ih =>
    intro a b hd hs
    refine vc_X10_mean_72 w (nI a) (nI b) (nI (d + 1)) ?_
    have ha : a ≤ A := by
      rcases hs with ⟨z, _⟩ | ⟨z, _⟩
      · omega
      · rw [z]; exact Nat.div_le_self _ _
    have hb : b ≤ B := by
      rcases hs with ⟨_, z, _⟩ | ⟨_, z⟩
      · omega
      · rw [z]; exact Nat.div_le_self _ _
    have eq1 : nI (d + 1) + iI (-1) = nI d := by rw [nI_iI, i_add, nI_iI]; congr 1; omega
    rw [n_rem (show a < 2147483648 by omega) (by omega) (by omega), n_rem (show b < 2147483648 by omega) (by omega) (by omega), n_div (show a < 2147483648 by omega) (by omega) (by omega), n_div (show b < 2147483648 by omega) (by omega) (by omega), n_lt (by omega) (by omega), eq1]
    have m1 := Nat.mod_le a (d + 1)
    have m2 := Nat.mod_le b (d + 1)
    rw [n_eq0 (show a % (d + 1) < 2147483648 by omega), n_eq0 (show b % (d + 1) < 2147483648 by omega), n_eq0 (show d + 1 < 2147483648 by omega)]
    refine ⟨fun q => ?_, fun q => ⟨by omega, fun z => ih a b (by omega) ?_, fun z => ⟨by omega, fun y => ih a b (by omega) ?_, fun y => ⟨by omega, by omega, ih _ _ (by omega) ?_⟩⟩⟩⟩
    · rcases hs with ⟨rfl, rfl, z⟩ | ⟨rfl, rfl⟩
      · have e : Nat.gcd a b = 1 := by omega
        rw [e, Nat.div_one, Nat.div_one] at k
        exact k
      · exact k
    · rcases hs with ⟨rfl, rfl, y⟩ | y
      · refine Or.inl ⟨rfl, rfl, ?_⟩
        rcases Nat.lt_or_ge (Nat.gcd a b) (d + 1) with x | x
        · omega
        · have e : Nat.gcd a b = d + 1 := by omega
          have := Nat.mod_eq_zero_of_dvd (Nat.gcd_dvd_left a b)
          rw [e] at this
          exact absurd this z
      · exact Or.inr y
    · rcases hs with ⟨rfl, rfl, x⟩ | x
      · refine Or.inl ⟨rfl, rfl, ?_⟩
        rcases Nat.lt_or_ge (Nat.gcd a b) (d + 1) with v | v
        · omega
        · have e : Nat.gcd a b = d + 1 := by omega
          have := Nat.mod_eq_zero_of_dvd (Nat.gcd_dvd_right a b)
          rw [e] at this
          exact absurd this y
      · exact Or.inr x
    · have z := Decidable.not_not.mp z
      have y := Decidable.not_not.mp y
      rcases hs with ⟨rfl, rfl, x⟩ | ⟨rfl, rfl⟩
      · have := Nat.le_of_dvd g0 (Nat.dvd_gcd (Nat.dvd_of_mod_eq_zero z) (Nat.dvd_of_mod_eq_zero y))
        have e : Nat.gcd a b = d + 1 := by omega
        exact Or.inr ⟨by rw [e], by rw [e]⟩
      · exact absurd (gcd_2 (by omega) hB z y) (fun z => z)
theorem lp_X10_mean {V : Vm} {n : Nat} {o : Option Nat} {w : Int32} {h : AH} {K : Int64 → AH → Prop} (hp : vPre 0 o h V n) (hq : w = nI 0 ∨ w = nI 1) (k : K (pOf (sm (fun c => brg V n c) (vFl V n + 1)) (vFl V n + 1) w) h) : ∀ r c, c + r = vFl V n + 1 → AW M_X10_mean (.inr (.inr (.inl K))) 35 [some (aR 0 0), none, some (aI w), some (aS o), some (aI (nI (sm (fun c => brg V n c) c))), some (aI (nI c)), some (aI (nI c))] [] h 0 0 := by
  obtain ⟨cv, hw, hn, sp⟩ := id hp
  obtain ⟨a, ea, -, -, -, -, s5, -⟩ := sp
  subst ea
  have hf : fly (V 8 n) ≤ 7 := fly_le _
  intro r
  induction r with
  | zero =>
    intro c hc
    refine vc_X10_mean_35 w (some a) _ _ (nI c) (oE_s ?_)
    have : c = fly (V 8 n) + 1 := hc
    subst this
    rw [s5, n_lt (by omega) (by omega)]
    refine ⟨fun _ => ?_, fun q => absurd (by omega) q⟩
    have hs : sm (fun c => brg V n c) (fly (V 8 n) + 1) ≤ 54 * (fly (V 8 n) + 1) := sm_le _ (fun i hi => brg_le hw hn (by omega))
    have hk : K (pOf (sm (fun c => brg V n c) (fly (V 8 n) + 1)) (fly (V 8 n) + 1) w) h := k
    generalize sm (fun c => brg V n c) (fly (V 8 n) + 1) = A at hs hk ⊢
    refine lp2_X10_mean (by omega) (by omega) (by omega) ?_ (fly (V 8 n) + 1) A _ (by omega) (Or.inl ⟨rfl, rfl, Nat.le_of_dvd (by omega) (Nat.gcd_dvd_right _ _)⟩)
    have l1 := Nat.div_le_self A (Nat.gcd A (fly (V 8 n) + 1))
    have l2 := Nat.div_le_self (fly (V 8 n) + 1) (Nat.gcd A (fly (V 8 n) + 1))
    rw [L_n (by omega), L_n (by omega)]
    unfold pOf at hk
    by_cases z : A = 0
    · subst z
      rw [if_pos rfl] at hk
      rw [Nat.gcd_zero_left, Nat.zero_div, Nat.div_self (by omega)]
      rcases hq with rfl | rfl
      · exact ⟨fun y => absurd rfl y, fun _ => hk⟩
      · exact ⟨fun _ => hk, fun y => absurd (show ¬ nI 1 = 0 by decide) y⟩
    · rw [if_neg z] at hk
      refine nn_if (fun y => ?_) (fun y => ?_)
      · rw [if_pos y] at hk; exact hk
      · rw [if_neg y] at hk; exact hk
  | succ r ih =>
    intro c hc
    have hc' : c + (r + 1) = fly (V 8 n) + 1 := hc
    refine vc_X10_mean_35 w (some a) _ _ (nI c) (oE_s ?_)
    rw [s5, n_lt (by omega) (by omega), nI_add]
    refine ⟨fun q => by omega, fun _ => ⟨V, n, c, hp, by omega, rfl, ?_⟩⟩
    have ih := ih (c + 1) (by omega)
    rw [sm] at ih
    (try dsimp only)
    rw [nI_add]
    exact ih
theorem snd_X10_mean (a w : Int32) {h : AH} {K : Int64 → AH → Prop} (k : S_X10_mean a w h K) : AW M_X10_mean (.inr (.inr (.inl K))) 0 [some (aR 0 0), some (aI a), some (aI w), none, none, none, none] [] h 0 0 := by
  obtain ⟨V, cv, hw, k⟩ := k
  have h7 := hw.2.1
  unfold R_mean at k
  refine vc_X10_mean a w ⟨V, cv, hw, fun n o hn e1 _ sp => ⟨fun z => ?_, fun _ => w_ni (fun q => ?_) (fun q => ?_)⟩, fun q => ⟨fun _ => ?_, fun z => absurd rfl z⟩⟩
  · obtain ⟨a, e, -⟩ := sp
    rw [z] at e
    cases e
  · subst e1
    have hs : shp V (nI n) := (in_iff (by omega)).mpr ⟨n, hn, rfl⟩
    rw [if_neg (fun z => z hs), if_neg (fun z => z q)] at k
    unfold nN at k
    rw [n_cl (show n < 2147483648 by omega)] at k
    obtain ⟨i, hi, rfl⟩ := (in_n (by omega)).mp q
    exact lp_X10_mean ⟨cv, hw, hn, sp⟩ (by rcases (show i = 0 ∨ i = 1 by omega) with rfl | rfl; exact Or.inl rfl; exact Or.inr rfl) k (vFl V n + 1) 0 (by omega)
  · subst e1
    have hs : shp V (nI n) := (in_iff (by omega)).mpr ⟨n, hn, rfl⟩
    rw [if_neg (fun z => z hs), if_pos q] at k
    exact k
  · rw [if_pos (fun z => q ((in_iff (by omega)).mp z))] at k
    exact k
theorem tr_X10_mean : ∀ (as : List AV) (h : AH) (K : Int64 → AH → Prop), T_X10_mean as h K → ∃ (q : Nat) (r : List AV), as = aR 0 q :: r := by
  intro as h K hk
  match as, hk with
  | [.inr (.inr (.inl q0)), .inl q1, .inl q2], hk =>
    obtain ⟨hb, hk⟩ := tif_inv hk
    simp only [Bool.and_eq_true] at hb
    obtain ⟨e0, e1⟩ := hb
    obtain ⟨a0, b0⟩ := q0
    have f0 : a0 = 0 := Nat.eq_of_beq_eq_true e0
    subst f0
    have f1 : b0 = 0 := Nat.eq_of_beq_eq_true e1
    subst f1
    exact ⟨_, _, rfl⟩
theorem tw_X10_mean : ∀ (as : List AV) (h : AH) (K : Int64 → AH → Prop), T_X10_mean as h K → (ini as).length ≤ mNL M_X10_mean ∧ AW M_X10_mean (.inr (.inr (.inl K))) 0 (initL (mNL M_X10_mean) as) [] h 0 0 := by
  intro as h K hk
  match as, hk with
  | [.inr (.inr (.inl q0)), .inl q1, .inl q2], hk =>
    obtain ⟨hb, hk⟩ := tif_inv hk
    simp only [Bool.and_eq_true] at hb
    obtain ⟨e0, e1⟩ := hb
    obtain ⟨a0, b0⟩ := q0
    have f0 : a0 = 0 := Nat.eq_of_beq_eq_true e0
    subst f0
    have f1 : b0 = 0 := Nat.eq_of_beq_eq_true e1
    subst f1
    exact ⟨Nat.le_of_ble_eq_true rfl, snd_X10_mean q1 q2 hk⟩

def S_X10_merchants (c : Int32) (h : AH) (K : Int32 → AH → Prop) : Prop := ∃ V, CV h 0 V ∧ WF V ∧ ∀ h', keepC h h' → K (R_merchants V c) h'
def T_X10_merchants : List AV → AH → (Int32 → AH → Prop) → Prop := fun as h K => match as with
  | [.inr (.inr (.inl q0)), .inl q1] => tif (Nat.beq q0.1 0 && Nat.beq q0.2 0) (S_X10_merchants q1 h K)
  | _ => False

def M_X10_merchants : MI := (RX10, cX10_merchants, 3, [(0, .iload_n 1, []), (1, .iconst 0, []), (2, .bipush 7, []), (4, .invokestatic 59, []), (7, .ifCond .ne 5, [12]), (10, .iconst (-1), []), (11, .ireturn, []), (12, .aload_n 0, []), (13, .getfield 16, []), (16, .aload_n 0, []), (17, .getfield 10, []), (20, .invokevirtual 41, []), (23, .aload_n 0, []), (24, .getfield 16, []), (27, .iload_n 1, []), (28, .invokevirtual 208, []), (31, .istore_n 2, []), (32, .iload_n 2, []), (33, .aload_n 0, []), (34, .getfield 16, []), (37, .getfield 125, []), (40, .if_icmp .ge 13, [53]), (43, .aload_n 0, []), (44, .getfield 16, []), (47, .iload_n 2, []), (48, .iload_n 1, []), (49, .invokevirtual 142, []), (52, .pop, []), (53, .bipush 10, []), (55, .iload_n 2, []), (56, .imul, []), (57, .aload_n 0, []), (58, .getfield 16, []), (61, .iload_n 1, []), (62, .invokevirtual 208, []), (65, .iadd, []), (66, .ireturn, [])], [(16, (0, 1, 1, 1, 1)), (10, (0, 0, 1, 1, 0)), (125, (1, 9, 0, 0, 0))], [], [], [(178, (3, 1, 22, 0, 0, .inl T_X10_within)), (123, (2, 2, 48, 0, 0, .inr (.inl T_X9_become))), (624, (2, 6, 133, 0, 0, .inl T_X9_bestChoice)), (426, (3, 5, 113, 0, 0, .inl T_X9_throwOnto))], 6, 133, 0, 0)
theorem ok_X10_merchants : MOK M_X10_merchants := ⟨by decide +kernel, List.forall_mem_cons.mpr ⟨fl_RX10_16, List.forall_mem_cons.mpr ⟨fl_RX10_10, List.forall_mem_cons.mpr ⟨fl_RX10_125, fun _ h => absurd h List.not_mem_nil⟩⟩⟩, fun _ h => absurd h List.not_mem_nil, fun _ h => absurd h List.not_mem_nil, List.forall_mem_cons.mpr ⟨⟨Nat.le_of_ble_eq_true rfl, Nat.le_of_ble_eq_true rfl, cr_RX10_178⟩, List.forall_mem_cons.mpr ⟨⟨Nat.le_of_ble_eq_true rfl, Nat.le_of_ble_eq_true rfl, cr_RX10_123⟩, List.forall_mem_cons.mpr ⟨⟨Nat.le_of_ble_eq_true rfl, Nat.le_of_ble_eq_true rfl, cr_RX10_624⟩, List.forall_mem_cons.mpr ⟨⟨Nat.le_of_ble_eq_true rfl, Nat.le_of_ble_eq_true rfl, cr_RX10_426⟩, fun _ h => absurd h List.not_mem_nil⟩⟩⟩⟩⟩
set_option maxRecDepth 100000 in
theorem vc_X10_merchants {K : Int32 → AH → Prop} {h : AH} (p1 : Int32) (H : S_X10_within p1 (nI 0) (nI 7) h (fun x2 h1 => ((¬ x2 = 0) → S_X9_become 1 0 h1 (fun h3 => S_X9_bestChoice 1 p1 h3 (fun x5 h4 => (((h4.1 1 1 9) ≤ x5) → S_X9_bestChoice 1 p1 h4 (fun x7 h6 => K (((nI 10) * x5) + x7) h6)) ∧ (¬ ((h4.1 1 1 9) ≤ x5) → S_X9_throwOnto 1 x5 p1 h4 (fun x9 h8 => S_X9_bestChoice 1 p1 h8 (fun x11 h10 => K (((nI 10) * x5) + x11) h10)))))) ∧ (¬ (¬ x2 = 0) → K (iI (-1)) h1))) : AW M_X10_merchants (.inl K) 0 [some (aR 0 0), some (aI p1), none] [] h 0 0 := AW_go (cuts := []) ok_X10_merchants 400 H

theorem snd_X10_merchants (c : Int32) {h : AH} {K : Int32 → AH → Prop} (k : S_X10_merchants c h K) : AW M_X10_merchants (.inl K) 0 [some (aR 0 0), some (aI c), none] [] h 0 0 := by
  obtain ⟨V, cv, hw, k⟩ := k
  have h7 := hw.2.1
  unfold R_merchants at k
  refine vc_X10_merchants c (w_ni (fun q => ?_) (fun q => ?_))
  case refine_2 => rw [if_pos q] at k; exact k h (keepC_rfl h)
  rw [if_neg (fun z => z q)] at k
  obtain ⟨m, hm, rfl⟩ := in8_iff.mp q
  unfold nN at k
  rw [n_cl (show m < 2147483648 by omega)] at k
  refine ⟨by decide, V, cv, hw, fun h1 o1 c1 => ⟨V, m, c1, hw, hm, rfl, ?_⟩⟩
  obtain ⟨b1, b2, -, -⟩ := bc_ok V m
  (try dsimp only)
  rw [(CVs c1).2.2.2.2.2.2.2.2.2.1, n_le (by omega) (by omega)]
  refine ⟨fun z => ⟨V, m, c1, hw, hm, rfl, ?_⟩, fun z => ⟨V, bc V m, m, c1, hw, by omega, rfl, hm, rfl, fun h2 o2 c2 => ⟨thr V (bc V m) m, m, c2, WF_thr hw hm, hm, rfl, ?_⟩⟩⟩
  · have kk := k h1 (keepC_V o1)
    unfold aft at kk
    rw [if_pos (by omega)] at kk
    (try dsimp only)
    rw [pk_mul, nI_add]
    exact kk
  · have kk := k h2 (keepC_tr (keepC_V o1) (keepC_V o2))
    unfold aft at kk
    rw [if_neg (by omega)] at kk
    (try dsimp only)
    rw [pk_mul, nI_add]
    exact kk
theorem tr_X10_merchants : ∀ (as : List AV) (h : AH) (K : Int32 → AH → Prop), T_X10_merchants as h K → ∃ (q : Nat) (r : List AV), as = aR 0 q :: r := by
  intro as h K hk
  match as, hk with
  | [.inr (.inr (.inl q0)), .inl q1], hk =>
    obtain ⟨hb, hk⟩ := tif_inv hk
    simp only [Bool.and_eq_true] at hb
    obtain ⟨e0, e1⟩ := hb
    obtain ⟨a0, b0⟩ := q0
    have f0 : a0 = 0 := Nat.eq_of_beq_eq_true e0
    subst f0
    have f1 : b0 = 0 := Nat.eq_of_beq_eq_true e1
    subst f1
    exact ⟨_, _, rfl⟩
theorem tw_X10_merchants : ∀ (as : List AV) (h : AH) (K : Int32 → AH → Prop), T_X10_merchants as h K → (ini as).length ≤ mNL M_X10_merchants ∧ AW M_X10_merchants (.inl K) 0 (initL (mNL M_X10_merchants) as) [] h 0 0 := by
  intro as h K hk
  match as, hk with
  | [.inr (.inr (.inl q0)), .inl q1], hk =>
    obtain ⟨hb, hk⟩ := tif_inv hk
    simp only [Bool.and_eq_true] at hb
    obtain ⟨e0, e1⟩ := hb
    obtain ⟨a0, b0⟩ := q0
    have f0 : a0 = 0 := Nat.eq_of_beq_eq_true e0
    subst f0
    have f1 : b0 = 0 := Nat.eq_of_beq_eq_true e1
    subst f1
    exact ⟨Nat.le_of_ble_eq_true rfl, snd_X10_merchants q1 hk⟩

def S_X10_quarrel (w : Int32) (h : AH) (K : Int32 → AH → Prop) : Prop := ∃ V, CV h 0 V ∧ (∀ n, n < 4 → V 3 n < 500000000) ∧ K (R_quarrel V w) h
def T_X10_quarrel : List AV → AH → (Int32 → AH → Prop) → Prop := fun as h K => match as with
  | [.inr (.inr (.inl q0)), .inl q1] => tif (Nat.beq q0.1 0 && Nat.beq q0.2 0) (S_X10_quarrel q1 h K)
  | _ => False

def M_X10_quarrel : MI := (RX10, cX10_quarrel, 5, [(0, .iconst 0, []), (1, .istore_n 2, []), (2, .iconst 0, []), (3, .istore_n 3, []), (4, .iconst 1, []), (5, .istore 4, []), (7, .iload 4, []), (9, .iconst 4, []), (10, .if_icmp .ge 59, [69]), (13, .aload_n 0, []), (14, .getfield 10, []), (17, .getfield 111, []), (20, .iload 4, []), (22, .iaload, []), (23, .aload_n 0, []), (24, .getfield 10, []), (27, .getfield 111, []), (30, .iload_n 2, []), (31, .iaload, []), (32, .if_icmp .le 6, [38]), (35, .iload 4, []), (37, .istore_n 2, []), (38, .aload_n 0, []), (39, .getfield 10, []), (42, .getfield 111, []), (45, .iload 4, []), (47, .iaload, []), (48, .aload_n 0, []), (49, .getfield 10, []), (52, .getfield 111, []), (55, .iload_n 3, []), (56, .iaload, []), (57, .if_icmp .ge 6, [63]), (60, .iload 4, []), (62, .istore_n 3, []), (63, .iinc 4 1, []), (66, .goto (-59), [7]), (69, .iload_n 1, []), (70, .tableswitch 56 0 2 #[26, 46, 48], [126, 96, 116, 118]), (96, .aload_n 0, []), (97, .getfield 10, []), (100, .getfield 111, []), (103, .iload_n 2, []), (104, .iaload, []), (105, .aload_n 0, []), (106, .getfield 10, []), (109, .getfield 111, []), (112, .iload_n 3, []), (113, .iaload, []), (114, .isub, []), (115, .ireturn, []), (116, .iload_n 2, []), (117, .ireturn, []), (118, .aload_n 0, []), (119, .getfield 10, []), (122, .invokevirtual 211, []), (125, .ireturn, []), (126, .iconst (-1), []), (127, .ireturn, [])], [(10, (0, 0, 1, 1, 0)), (111, (1, 3, 1, 5, 0))], [], [], [(633, (1, 2, 47, 0, 0, .inl T_X9_shared))], 2, 47, 0, 0)
theorem ok_X10_quarrel : MOK M_X10_quarrel := ⟨by decide +kernel, List.forall_mem_cons.mpr ⟨fl_RX10_10, List.forall_mem_cons.mpr ⟨fl_RX10_111, fun _ h => absurd h List.not_mem_nil⟩⟩, fun _ h => absurd h List.not_mem_nil, fun _ h => absurd h List.not_mem_nil, List.forall_mem_cons.mpr ⟨⟨Nat.le_of_ble_eq_true rfl, Nat.le_of_ble_eq_true rfl, cr_RX10_633⟩, fun _ h => absurd h List.not_mem_nil⟩⟩
set_option maxRecDepth 100000 in
theorem vc_X10_quarrel {K : Int32 → AH → Prop} {h : AH} (p1 : Int32) (H : AW M_X10_quarrel (.inl K) 7 [some (aR 0 0), some (aI p1), some (aI (nI 0)), some (aI (nI 0)), some (aI (nI 1))] [] h 0 0) : AW M_X10_quarrel (.inl K) 0 [some (aR 0 0), some (aI p1), none, none, none] [] h 0 0 := AW_go (cuts := [(7, [true, true, true, true, true])]) ok_X10_quarrel 400 H
set_option maxRecDepth 100000 in
theorem vc_X10_quarrel_7 {K : Int32 → AH → Prop} {h : AH}  (l1 : Int32) (l2 : Int32) (l3 : Int32) (l4 : Int32) (H : (((nI 4) ≤ l4) → (l1.toInt < 0 ∨ 2 < l1.toInt → K (iI (-1)) h) ∧ (l1 = nI 0 → inR l2 4 ∧ inR l3 4 ∧ K ((h.1 5 0 l2.toNatClampNeg) - (h.1 5 0 l3.toNatClampNeg)) h) ∧ (l1 = nI 1 → K l2 h) ∧ (l1 = nI 2 → S_X9_shared 0 h (fun x2 h1 => K x2 h1)) ∧ True) ∧ (¬ ((nI 4) ≤ l4) → inR l4 4 ∧ inR l2 4 ∧ (((h.1 5 0 l4.toNatClampNeg) ≤ (h.1 5 0 l2.toNatClampNeg)) → inR l4 4 ∧ inR l3 4 ∧ (((h.1 5 0 l3.toNatClampNeg) ≤ (h.1 5 0 l4.toNatClampNeg)) → AW M_X10_quarrel (.inl K) 7 [some (aR 0 0), some (aI l1), some (aI l2), some (aI l3), some (aI (l4 + (nI 1)))] [] h 0 0) ∧ (¬ ((h.1 5 0 l3.toNatClampNeg) ≤ (h.1 5 0 l4.toNatClampNeg)) → AW M_X10_quarrel (.inl K) 7 [some (aR 0 0), some (aI l1), some (aI l2), some (aI l4), some (aI (l4 + (nI 1)))] [] h 0 0)) ∧ (¬ ((h.1 5 0 l4.toNatClampNeg) ≤ (h.1 5 0 l2.toNatClampNeg)) → inR l4 4 ∧ inR l3 4 ∧ (((h.1 5 0 l3.toNatClampNeg) ≤ (h.1 5 0 l4.toNatClampNeg)) → AW M_X10_quarrel (.inl K) 7 [some (aR 0 0), some (aI l1), some (aI l4), some (aI l3), some (aI (l4 + (nI 1)))] [] h 0 0) ∧ (¬ ((h.1 5 0 l3.toNatClampNeg) ≤ (h.1 5 0 l4.toNatClampNeg)) → AW M_X10_quarrel (.inl K) 7 [some (aR 0 0), some (aI l1), some (aI l4), some (aI l4), some (aI (l4 + (nI 1)))] [] h 0 0)))) : AW M_X10_quarrel (.inl K) 7 [some (aR 0 0), some (aI l1), some (aI l2), some (aI l3), some (aI l4)] [] h 0 0 := AW_go (cuts := [(7, [true, true, true, true, true])]) ok_X10_quarrel 400 H

def prr (w : Nat → Nat) : Nat → Nat
  | 0 => 0
  | k + 1 => if w (k + 1) < w (prr w k) then k + 1 else prr w k
theorem prr_le (w : Nat → Nat) : ∀ k, prr w k ≤ k
  | 0 => Nat.le_refl _
  | k + 1 => by
    have := prr_le w k
    unfold prr
    split <;> omega
theorem rch_s {w : Nat → Nat} {k : Nat} : rch w (k + 1) = if w (rch w k) < w (k + 1) then k + 1 else rch w k := rfl
theorem prr_s {w : Nat → Nat} {k : Nat} : prr w (k + 1) = if w (k + 1) < w (prr w k) then k + 1 else prr w k := rfl
theorem rch_m (w : Nat → Nat) (k : Nat) : w (rch w (k + 1)) = max (w (rch w k)) (w (k + 1)) := by
  rw [rch_s]
  split <;> omega
theorem prr_m (w : Nat → Nat) (k : Nat) : w (prr w (k + 1)) = min (w (prr w k)) (w (k + 1)) := by
  rw [prr_s]
  split <;> omega
theorem rch_x (w : Nat → Nat) : w (rch w 3) = mx4 w := by
  rw [rch_m w 2, rch_m w 1, rch_m w 0, show rch w 0 = 0 from rfl]
  simp only [Nat.reduceAdd]
  unfold mx4
  omega
theorem prr_x (w : Nat → Nat) : w (prr w 3) = mn4 w := by
  rw [prr_m w 2, prr_m w 1, prr_m w 0, show prr w 0 = 0 from rfl]
  simp only [Nat.reduceAdd]
  unfold mn4
  omega
theorem lp_X10_quarrel {V : Vm} {w : Int32} {h : AH} {K : Int32 → AH → Prop} (cv : CV h 0 V) (hb : ∀ n, n < 4 → V 3 n < 500000000) (k : K (R_quarrel V w) h) : ∀ r i, i + r = 3 → AW M_X10_quarrel (.inl K) 7 [some (aR 0 0), some (aI w), some (aI (nI (rch (V 3) i))), some (aI (nI (prr (V 3) i))), some (aI (nI (i + 1)))] [] h 0 0 := by
  obtain ⟨-, -, -, e3, -⟩ := CVs cv
  intro r
  induction r with
  | zero =>
    intro i hi
    have : i = 3 := by omega
    subst this
    have l1 := rch_le (V 3) 3
    have l2 := prr_le (V 3) 3
    have hx := rch_x (V 3)
    have hn := prr_x (V 3)
    have hle : mn4 (V 3) ≤ mx4 (V 3) := by unfold mn4 mx4; omega
    unfold R_quarrel at k
    refine vc_X10_quarrel_7 w _ _ (nI (3 + 1)) ⟨fun _ => ⟨fun z => ?_, fun z => ?_, fun z => ?_, fun z => ⟨V, cv, hb, ?_⟩, trivial⟩, fun q => absurd (by decide) q⟩
    · rw [if_pos (sw_no (n := 2) (by omega) z)] at k; exact k
    · subst z
      rw [if_neg (by decide), if_neg (by decide), if_pos (by decide)] at k
      simp (disch := omega) only [n_inT, n_cl, true_and, e3]
      rw [hx, hn, n_sub hle]
      exact k
    · subst z
      rw [if_neg (by decide), if_pos rfl] at k
      exact k
    · subst z
      rw [if_neg (by decide), if_neg (by decide), if_neg (by decide)] at k
      exact k
  | succ r ih =>
    intro i hi
    refine vc_X10_quarrel_7 w _ _ (nI (i + 1)) ?_
    have l1 := rch_le (V 3) i
    have l2 := prr_le (V 3) i
    have v1 := hb (rch (V 3) i) (by omega)
    have v2 := hb (prr (V 3) i) (by omega)
    have v3 := hb (i + 1) (by omega)
    have ih := ih (i + 1) (by omega)
    rw [rch_s, prr_s] at ih
    simp (disch := omega) only [n_le, n_inT, n_cl, true_and, e3, nI_add]
    refine ⟨fun q => by omega, fun _ => ⟨fun q => ⟨fun q2 => ?_, fun q2 => ?_⟩, fun q => ⟨fun q2 => ?_, fun q2 => ?_⟩⟩⟩
    · rw [if_neg (by omega), if_neg (by omega)] at ih; exact ih
    · rw [if_neg (by omega), if_pos (by omega)] at ih; exact ih
    · rw [if_pos (by omega), if_neg (by omega)] at ih; exact ih
    · rw [if_pos (by omega), if_pos (by omega)] at ih; exact ih
theorem snd_X10_quarrel (w : Int32) {h : AH} {K : Int32 → AH → Prop} (k : S_X10_quarrel w h K) : AW M_X10_quarrel (.inl K) 0 [some (aR 0 0), some (aI w), none, none, none] [] h 0 0 := by
  obtain ⟨V, cv, hb, k⟩ := k
  exact vc_X10_quarrel w (lp_X10_quarrel cv hb k 3 0 (by omega))
theorem tr_X10_quarrel : ∀ (as : List AV) (h : AH) (K : Int32 → AH → Prop), T_X10_quarrel as h K → ∃ (q : Nat) (r : List AV), as = aR 0 q :: r := by
  intro as h K hk
  match as, hk with
  | [.inr (.inr (.inl q0)), .inl q1], hk =>
    obtain ⟨hb, hk⟩ := tif_inv hk
    simp only [Bool.and_eq_true] at hb
    obtain ⟨e0, e1⟩ := hb
    obtain ⟨a0, b0⟩ := q0
    have f0 : a0 = 0 := Nat.eq_of_beq_eq_true e0
    subst f0
    have f1 : b0 = 0 := Nat.eq_of_beq_eq_true e1
    subst f1
    exact ⟨_, _, rfl⟩
theorem tw_X10_quarrel : ∀ (as : List AV) (h : AH) (K : Int32 → AH → Prop), T_X10_quarrel as h K → (ini as).length ≤ mNL M_X10_quarrel ∧ AW M_X10_quarrel (.inl K) 0 (initL (mNL M_X10_quarrel) as) [] h 0 0 := by
  intro as h K hk
  match as, hk with
  | [.inr (.inr (.inl q0)), .inl q1], hk =>
    obtain ⟨hb, hk⟩ := tif_inv hk
    simp only [Bool.and_eq_true] at hb
    obtain ⟨e0, e1⟩ := hb
    obtain ⟨a0, b0⟩ := q0
    have f0 : a0 = 0 := Nat.eq_of_beq_eq_true e0
    subst f0
    have f1 : b0 = 0 := Nat.eq_of_beq_eq_true e1
    subst f1
    exact ⟨Nat.le_of_ble_eq_true rfl, snd_X10_quarrel q1 hk⟩

def S_X10_seasons (n z w : Int32) (h : AH) (K : Int32 → AH → Prop) : Prop := ∃ V, CV h 0 V ∧ WF V ∧ ∀ h', keepC h h' → K (R_seasons V n z w) h'
def T_X10_seasons : List AV → AH → (Int32 → AH → Prop) → Prop := fun as h K => match as with
  | [.inr (.inr (.inl q0)), .inl q1, .inl q2, .inl q3] => tif (Nat.beq q0.1 0 && Nat.beq q0.2 0) (S_X10_seasons q1 q2 q3 h K)
  | _ => False

def M_X10_seasons : MI := (RX10, cX10_seasons, 10, [(0, .iload_n 1, []), (1, .iconst 1, []), (2, .bipush 20, []), (4, .invokestatic 59, []), (7, .ifCond .eq 12, [19]), (10, .iload_n 3, []), (11, .iconst 0, []), (12, .iconst 1, []), (13, .invokestatic 59, []), (16, .ifCond .ne 5, [21]), (19, .iconst (-1), []), (20, .ireturn, []), (21, .aload_n 0, []), (22, .getfield 10, []), (25, .getfield 125, []), (28, .ifCond .ne 6, [34]), (31, .bipush (-3), []), (33, .ireturn, []), (34, .iload_n 2, []), (35, .istore 4, []), (37, .iconst 0, []), (38, .istore 5, []), (40, .iconst 0, []), (41, .istore 6, []), (43, .iconst 0, []), (44, .istore 7, []), (46, .iload 7, []), (48, .iload_n 1, []), (49, .bipush 10, []), (51, .imul, []), (52, .if_icmp .ge 119, [171]), (55, .iload 7, []), (57, .bipush 10, []), (59, .irem, []), (60, .ifCond .ne 14, [74]), (63, .aload_n 0, []), (64, .getfield 16, []), (67, .aload_n 0, []), (68, .getfield 10, []), (71, .invokevirtual 41, []), (74, .iload 4, []), (76, .invokestatic 220, []), (79, .istore 4, []), (81, .iload 4, []), (83, .aload_n 0, []), (84, .getfield 16, []), (87, .getfield 125, []), (90, .invokestatic 223, []), (93, .istore 8, []), (95, .iload 4, []), (97, .invokestatic 220, []), (100, .istore 4, []), (102, .iload 4, []), (104, .iconst 1, []), (105, .aload_n 0, []), (106, .getfield 16, []), (109, .getfield 149, []), (112, .iload 8, []), (114, .aaload, []), (115, .getfield 105, []), (118, .iadd, []), (119, .invokestatic 223, []), (122, .istore 9, []), (124, .aload_n 0, []), (125, .getfield 16, []), (128, .aload_n 0, []), (129, .getfield 16, []), (132, .getfield 149, []), (135, .iload 8, []), (137, .aaload, []), (138, .iload 9, []), (140, .invokevirtual 157, []), (143, .ifCond .eq 6, [149]), (146, .iinc 6 1, []), (149, .iload 5, []), (151, .aload_n 0, []), (152, .getfield 16, []), (155, .iload 8, []), (157, .iload 9, []), (159, .invokevirtual 142, []), (162, .iadd, []), (163, .istore 5, []), (165, .iinc 7 1, []), (168, .goto (-122), [46]), (171, .iload_n 3, []), (172, .ifCond .ne 8, [180]), (175, .iload 5, []), (177, .goto 5, [182]), (180, .iload 6, []), (182, .ireturn, [])], [(10, (0, 0, 1, 1, 0)), (125, (1, 9, 0, 0, 0)), (16, (0, 1, 1, 1, 1)), (149, (1, 10, 1, 10, 0)), (105, (18, 4, 0, 0, 0))], [], [], [(178, (3, 1, 22, 0, 0, .inl T_X10_within)), (123, (2, 2, 48, 0, 0, .inr (.inl T_X9_become))), (661, (1, 1, 20, 0, 0, .inl T_X10_nextSeed)), (670, (2, 1, 21, 0, 0, .inl T_X10_drawn)), (471, (3, 2, 42, 0, 0, .inl T_X9_isEaten)), (426, (3, 5, 113, 0, 0, .inl T_X9_throwOnto))], 5, 113, 0, 0)
theorem ok_X10_seasons : MOK M_X10_seasons := ⟨by decide +kernel, List.forall_mem_cons.mpr ⟨fl_RX10_10, List.forall_mem_cons.mpr ⟨fl_RX10_125, List.forall_mem_cons.mpr ⟨fl_RX10_16, List.forall_mem_cons.mpr ⟨fl_RX10_149, List.forall_mem_cons.mpr ⟨fl_RX10_105, fun _ h => absurd h List.not_mem_nil⟩⟩⟩⟩⟩, fun _ h => absurd h List.not_mem_nil, fun _ h => absurd h List.not_mem_nil, List.forall_mem_cons.mpr ⟨⟨Nat.le_of_ble_eq_true rfl, Nat.le_of_ble_eq_true rfl, cr_RX10_178⟩, List.forall_mem_cons.mpr ⟨⟨Nat.le_of_ble_eq_true rfl, Nat.le_of_ble_eq_true rfl, cr_RX10_123⟩, List.forall_mem_cons.mpr ⟨⟨Nat.le_of_ble_eq_true rfl, Nat.le_of_ble_eq_true rfl, cr_RX10_661⟩, List.forall_mem_cons.mpr ⟨⟨Nat.le_of_ble_eq_true rfl, Nat.le_of_ble_eq_true rfl, cr_RX10_670⟩, List.forall_mem_cons.mpr ⟨⟨Nat.le_of_ble_eq_true rfl, Nat.le_of_ble_eq_true rfl, cr_RX10_471⟩, List.forall_mem_cons.mpr ⟨⟨Nat.le_of_ble_eq_true rfl, Nat.le_of_ble_eq_true rfl, cr_RX10_426⟩, fun _ h => absurd h List.not_mem_nil⟩⟩⟩⟩⟩⟩⟩
set_option maxRecDepth 100000 in
theorem vc_X10_seasons {K : Int32 → AH → Prop} {h : AH} (p1 : Int32) (p2 : Int32) (p3 : Int32) (H : S_X10_within p1 (nI 1) (nI 20) h (fun x2 h1 => ((x2 = 0) → K (iI (-1)) h1) ∧ (¬ (x2 = 0) → S_X10_within p3 (nI 0) (nI 1) h1 (fun x4 h3 => ((¬ x4 = 0) → ((¬ (h3.1 1 0 9) = 0) → AW M_X10_seasons (.inl K) 46 [some (aR 0 0), some (aI p1), none, some (aI p3), some (aI p2), some (aI (nI 0)), some (aI (nI 0)), some (aI (nI 0)), none, none] [] h3 0 0) ∧ (¬ (¬ (h3.1 1 0 9) = 0) → K (iI (-3)) h3)) ∧ (¬ (¬ x4 = 0) → K (iI (-1)) h3))))) : AW M_X10_seasons (.inl K) 0 [some (aR 0 0), some (aI p1), some (aI p2), some (aI p3), none, none, none, none, none, none] [] h 0 0 := AW_go (cuts := [(46, [true, true, false, true, true, true, true, true, false, false]), (74, [true, true, false, true, true, true, true, true, false, false])]) ok_X10_seasons 400 H
set_option maxRecDepth 100000 in
theorem vc_X10_seasons_46 {K : Int32 → AH → Prop} {h : AH}  (l1 : Int32) (l3 : Int32) (l4 : Int32) (l5 : Int32) (l6 : Int32) (l7 : Int32) (H : (((l1 * (nI 10)) ≤ l7) → ((¬ l3 = 0) → K l6 h) ∧ (¬ (¬ l3 = 0) → K l5 h)) ∧ (¬ ((l1 * (nI 10)) ≤ l7) → (¬ (nI 10) = 0) ∧ ((¬ (l7 - l7 / (nI 10) * (nI 10)) = 0) → AW M_X10_seasons (.inl K) 74 [some (aR 0 0), some (aI l1), none, some (aI l3), some (aI l4), some (aI l5), some (aI l6), some (aI l7), none, none] [] h 0 0) ∧ (¬ (¬ (l7 - l7 / (nI 10) * (nI 10)) = 0) → S_X9_become 1 0 h (fun h1 => AW M_X10_seasons (.inl K) 74 [some (aR 0 0), some (aI l1), none, some (aI l3), some (aI l4), some (aI l5), some (aI l6), some (aI l7), none, none] [] h1 0 0)))) : AW M_X10_seasons (.inl K) 46 [some (aR 0 0), some (aI l1), none, some (aI l3), some (aI l4), some (aI l5), some (aI l6), some (aI l7), none, none] [] h 0 0 := AW_go (cuts := [(46, [true, true, false, true, true, true, true, true, false, false]), (74, [true, true, false, true, true, true, true, true, false, false])]) ok_X10_seasons 400 H
set_option maxRecDepth 100000 in
theorem vc_X10_seasons_74 {K : Int32 → AH → Prop} {h : AH}  (l1 : Int32) (l3 : Int32) (l4 : Int32) (l5 : Int32) (l6 : Int32) (l7 : Int32) (H : S_X10_nextSeed l4 h (fun x2 h1 => S_X10_drawn x2 (h1.1 1 1 9) h1 (fun x4 h3 => S_X10_nextSeed x2 h3 (fun x6 h5 => inR x4 7 ∧ oE (h5.2.1 10 1 x4.toNatClampNeg) fun a7 => S_X10_drawn x6 ((nI 1) + (h5.1 18 a7 4)) h5 (fun x9 h8 => inR x4 7 ∧ S_X9_isEaten 1 (h8.2.1 10 1 x4.toNatClampNeg) x9 h8 (fun x11 h10 => ((x11 = 0) → S_X9_throwOnto 1 x4 x9 h10 (fun x13 h12 => AW M_X10_seasons (.inl K) 46 [some (aR 0 0), some (aI l1), none, some (aI l3), some (aI x6), some (aI (l5 + x13)), some (aI l6), some (aI (l7 + (nI 1))), none, none] [] h12 0 0)) ∧ (¬ (x11 = 0) → S_X9_throwOnto 1 x4 x9 h10 (fun x15 h14 => AW M_X10_seasons (.inl K) 46 [some (aR 0 0), some (aI l1), none, some (aI l3), some (aI x6), some (aI (l5 + x15)), some (aI (l6 + (nI 1))), some (aI (l7 + (nI 1))), none, none] [] h14 0 0)))))))) : AW M_X10_seasons (.inl K) 74 [some (aR 0 0), some (aI l1), none, some (aI l3), some (aI l4), some (aI l5), some (aI l6), some (aI l7), none, none] [] h 0 0 := AW_go (cuts := [(46, [true, true, false, true, true, true, true, true, false, false]), (74, [true, true, false, true, true, true, true, true, false, false])]) ok_X10_seasons 400 H

def sst (V : Vm) (q : Int32 × Nat × Nat × Vm) : Int32 × Nat × Nat × Vm := (nxs (nxs q.1), q.2.1 + brg q.2.2.2 (dr (nxs q.1) (V 10 1)) (dr (nxs (nxs q.1)) (1 + vFl V (dr (nxs q.1) (V 10 1)))), q.2.2.1 + (if eat q.2.2.2 (dr (nxs q.1) (V 10 1)) (dr (nxs (nxs q.1)) (1 + vFl V (dr (nxs q.1) (V 10 1)))) then 1 else 0), thr q.2.2.2 (dr (nxs q.1) (V 10 1)) (dr (nxs (nxs q.1)) (1 + vFl V (dr (nxs q.1) (V 10 1)))))
theorem ss_st {V : Vm} {k : Nat} {p : Int32 × Nat × Nat × Vm} : ss V (k + 1) p = sst V (ss V k p) := rfl
theorem ss_8 {V : Vm} {p : Int32 × Nat × Nat × Vm} : ∀ k s, (ss V k p).2.2.2 8 s = p.2.2.2 8 s
  | 0, s => rfl
  | k + 1, s => by
    have := ss_8 (V := V) (p := p) k s
    rw [ss_st]
    exact (thr_8 (Or.inl rfl)).trans this
theorem st_X10_seasons {V : Vm} {N i : Nat} {w : Int32} {q : Int32 × Nat × Nat × Vm} {h : AH} {K : Int32 → AH → Prop} (hv : WF V) (hs : 0 < V 10 1) (cv : CV h 1 q.2.2.2) (hw : WF q.2.2.2) (h1 : q.2.2.2 10 1 = V 10 1) (h8 : ∀ s, q.2.2.2 8 s = V 8 s) (next : ∀ h', keepC h h' → CV h' 1 (sst V q).2.2.2 → AW M_X10_seasons (.inl K) 46 [some (aR 0 0), some (aI (nI N)), none, some (aI w), some (aI (sst V q).1), some (aI (nI (sst V q).2.1)), some (aI (nI (sst V q).2.2.1)), some (aI (nI (i + 1))), none, none] [] h' 0 0) : AW M_X10_seasons (.inl K) 74 [some (aR 0 0), some (aI (nI N)), none, some (aI w), some (aI q.1), some (aI (nI q.2.1)), some (aI (nI q.2.2.1)), some (aI (nI i)), none, none] [] h 0 0 := by
  have h7 := hv.2.1
  refine vc_X10_seasons_74 (nI N) w q.1 _ _ (nI i) ?_
  have ha : dr (nxs q.1) (V 10 1) < V 10 1 := Nat.mod_lt _ hs
  obtain ⟨-, -, -, -, -, -, -, -, -, e9, -, -, eS⟩ := CVs cv
  rw [h1] at e9
  unfold S_X10_nextSeed
  (try dsimp only)
  refine ⟨V 10 1, hs, by omega, e9, ?_⟩
  unfold sst at next
  generalize hA : dr (nxs q.1) (V 10 1) = A at *
  have sp := eS A (by rw [h1]; exact ha)
  obtain ⟨a, ea, -, -, -, -, s5, -⟩ := id sp
  rw [h8] at s5
  have hf : vFl V A ≤ 7 := fly_le _
  have hC : dr (nxs (nxs q.1)) (1 + vFl V A) < 1 + vFl V A := Nat.mod_lt _ (by omega)
  refine ⟨n_in (show A < 7 by omega) (by omega), ?_⟩
  (try dsimp only)
  rw [n_cl (show A < 2147483648 by omega), ea]
  refine oE_s ⟨1 + vFl V A, by omega, by omega, by rw [s5, nI_add], ?_⟩
  generalize hCe : dr (nxs (nxs q.1)) (1 + vFl V A) = C at *
  refine ⟨n_in (show A < 7 by omega) (by omega), q.2.2.2, A, C, ⟨cv, hw, by rw [h1]; exact ha, sp⟩, by omega, rfl, ?_⟩
  refine w_if (fun z => ⟨q.2.2.2, A, C, cv, hw, by rw [h1]; exact ha, rfl, by omega, rfl, fun h' o c => ?_⟩) (fun z => ⟨q.2.2.2, A, C, cv, hw, by rw [h1]; exact ha, rfl, by omega, rfl, fun h' o c => ?_⟩)
  · have := next h' (keepC_V o) c
    rw [if_pos z] at this
    (try dsimp only)
    rw [nI_add, nI_add, nI_add]
    exact this
  · have := next h' (keepC_V o) c
    rw [if_neg z] at this
    (try dsimp only)
    rw [nI_add, nI_add]
    exact this
theorem lp_X10_seasons {V : Vm} {N : Nat} {z w : Int32} {h0 : AH} {K : Int32 → AH → Prop} (cv : CV h0 0 V) (hw : WF V) (hs : 0 < V 10 1) (hN : N ≤ 20) (k : ∀ h', keepC h0 h' → K (if w = 0 then nI (sea V z N).2.1 else nI (sea V z N).2.2) h') : ∀ r c e h, 10 * c + e + r = 10 * N → e < 10 → keepC h0 h → (0 < e → CV h 1 (ss V e ((sea V z c).1, (sea V z c).2.1, (sea V z c).2.2, V)).2.2.2) → AW M_X10_seasons (.inl K) 46 [some (aR 0 0), some (aI (nI N)), none, some (aI w), some (aI (ss V e ((sea V z c).1, (sea V z c).2.1, (sea V z c).2.2, V)).1), some (aI (nI (ss V e ((sea V z c).1, (sea V z c).2.1, (sea V z c).2.2, V)).2.1)), some (aI (nI (ss V e ((sea V z c).1, (sea V z c).2.1, (sea V z c).2.2, V)).2.2.1)), some (aI (nI (10 * c + e))), none, none] [] h 0 0 := by
  intro r
  induction r with
  | zero =>
    intro c e h hr he hk hc
    refine vc_X10_seasons_46 (nI N) w _ _ _ _ ?_
    have e0 : e = 0 := by omega
    have c0 : c = N := by omega
    subst e0
    subst c0
    have := k h hk
    rw [pk_mul, n_le (by omega) (by omega)]
    refine ⟨fun _ => nn_if (fun q => ?_) (fun q => ?_), fun q => absurd (by omega) q⟩
    · rw [if_pos q] at this; exact this
    · rw [if_neg q] at this; exact this
  | succ r ih =>
    intro c e h hr he hk hc
    refine vc_X10_seasons_46 (nI N) w _ _ _ _ ?_
    obtain ⟨so1, so2⟩ := ss_ok (p := ((sea V z c).1, (sea V z c).2.1, (sea V z c).2.2, V)) hw hs hw rfl e
    have so8 := ss_8 (V := V) (p := ((sea V z c).1, (sea V z c).2.1, (sea V z c).2.2, V)) e
    have nx : ∀ h', keepC h0 h' → CV h' 1 (sst V (ss V e ((sea V z c).1, (sea V z c).2.1, (sea V z c).2.2, V))).2.2.2 → AW M_X10_seasons (.inl K) 46 [some (aR 0 0), some (aI (nI N)), none, some (aI w), some (aI (sst V (ss V e ((sea V z c).1, (sea V z c).2.1, (sea V z c).2.2, V))).1), some (aI (nI (sst V (ss V e ((sea V z c).1, (sea V z c).2.1, (sea V z c).2.2, V))).2.1)), some (aI (nI (sst V (ss V e ((sea V z c).1, (sea V z c).2.1, (sea V z c).2.2, V))).2.2.1)), some (aI (nI (10 * c + e + 1))), none, none] [] h' 0 0 := by
      intro h' hk' hc'
      by_cases z9 : e = 9
      · subst z9
        have := ih (c + 1) 0 h' (by omega) (by omega) hk' (fun z => absurd z (by omega))
        rw [show 10 * (c + 1) + 0 = 10 * c + 9 + 1 by omega] at this
        exact this
      · have := ih c (e + 1) h' (by omega) (by omega) hk' (fun _ => hc')
        rw [show 10 * c + (e + 1) = 10 * c + e + 1 by omega] at this
        exact this
    rw [pk_mul, n_le (by omega) (by omega), n_rem (show 10 * c + e < 2147483648 by omega) (by omega) (by omega), n_eq0 (show (10 * c + e) % 10 < 2147483648 by omega)]
    refine ⟨fun q => by omega, fun _ => ⟨by decide, fun q => ?_, fun q => ⟨by decide, V, CV_K hk (by decide) cv, hw, fun h2 o2 c2 => ?_⟩⟩⟩
    · exact st_X10_seasons hw hs (hc (by omega)) so1 so2 so8 (fun h' k' c' => nx h' (keepC_tr hk k') c')
    · have e0 : e = 0 := by omega
      subst e0
      exact st_X10_seasons hw hs c2 so1 so2 so8 (fun h' k' c' => nx h' (keepC_tr hk (keepC_tr (keepC_V o2) k')) c')
theorem in20 {x : Int32} (h : nI 1 ≤ x ∧ x ≤ nI 20) : ∃ k, 1 ≤ k ∧ k ≤ 20 ∧ x = nI k := by
  obtain ⟨k, h1, h2, rfl⟩ := in60 ⟨h.1, Int32.le_trans h.2 (by decide)⟩
  exact ⟨k, h1, (n_le (by omega) (by omega)).mp h.2, rfl⟩
theorem snd_X10_seasons (n z w : Int32) {h : AH} {K : Int32 → AH → Prop} (k : S_X10_seasons n z w h K) : AW M_X10_seasons (.inl K) 0 [some (aR 0 0), some (aI n), some (aI z), some (aI w), none, none, none, none, none, none] [] h 0 0 := by
  obtain ⟨V, cv, hw, k⟩ := k
  have h7 := hw.2.1
  unfold R_seasons at k
  refine vc_X10_seasons n z w (w_if (fun q => w_ni (fun q2 => ?_) (fun q2 => ?_)) (fun q => ?_))
  · rw [if_neg (by rintro (y | y); exact y q; exact y q2)] at k
    (try dsimp only)
    rw [(CVs cv).2.2.2.2.2.2.2.2.2.1, n_eq0 (by omega)]
    refine nn_if (fun q3 => ?_) (fun q3 => ?_)
    · rw [if_pos q3] at k; exact k h (keepC_rfl h)
    · rw [if_neg q3] at k
      obtain ⟨i, h1, h2, rfl⟩ := in20 q
      unfold nN at k
      rw [n_cl (by omega)] at k
      exact lp_X10_seasons cv hw (by omega) h2 k (10 * i) 0 0 h (by omega) (by omega) (keepC_rfl h) (fun z => absurd z (by omega))
  · rw [if_pos (Or.inr q2)] at k; exact k h (keepC_rfl h)
  · rw [if_pos (Or.inl q)] at k; exact k h (keepC_rfl h)
theorem tr_X10_seasons : ∀ (as : List AV) (h : AH) (K : Int32 → AH → Prop), T_X10_seasons as h K → ∃ (q : Nat) (r : List AV), as = aR 0 q :: r := by
  intro as h K hk
  match as, hk with
  | [.inr (.inr (.inl q0)), .inl q1, .inl q2, .inl q3], hk =>
    obtain ⟨hb, hk⟩ := tif_inv hk
    simp only [Bool.and_eq_true] at hb
    obtain ⟨e0, e1⟩ := hb
    obtain ⟨a0, b0⟩ := q0
    have f0 : a0 = 0 := Nat.eq_of_beq_eq_true e0
    subst f0
    have f1 : b0 = 0 := Nat.eq_of_beq_eq_true e1
    subst f1
    exact ⟨_, _, rfl⟩
theorem tw_X10_seasons : ∀ (as : List AV) (h : AH) (K : Int32 → AH → Prop), T_X10_seasons as h K → (ini as).length ≤ mNL M_X10_seasons ∧ AW M_X10_seasons (.inl K) 0 (initL (mNL M_X10_seasons) as) [] h 0 0 := by
  intro as h K hk
  match as, hk with
  | [.inr (.inr (.inl q0)), .inl q1, .inl q2, .inl q3], hk =>
    obtain ⟨hb, hk⟩ := tif_inv hk
    simp only [Bool.and_eq_true] at hb
    obtain ⟨e0, e1⟩ := hb
    obtain ⟨a0, b0⟩ := q0
    have f0 : a0 = 0 := Nat.eq_of_beq_eq_true e0
    subst f0
    have f1 : b0 = 0 := Nat.eq_of_beq_eq_true e1
    subst f1
    exact ⟨Nat.le_of_ble_eq_true rfl, snd_X10_seasons q1 q2 q3 hk⟩

/-- only the component's image has changed -/
def onlyIC (h h' : AH) : Prop := h'.2.2 = h.2.2 ∧ (∀ a b i, ¬ ((1 ≤ a ∧ a ≤ 9 ∧ b = 2) ∨ (a = 0 ∧ b = 0 ∧ i = 3)) → h'.1 a b i = h.1 a b i) ∧ ∀ a b i, ¬ (a = 10 ∧ b = 2) → h'.2.1 a b i = h.2.1 a b i
def S_X10_image (h : AH) (K : Int32 → AH → Prop) : Prop := ∃ V, CV h 0 V ∧ WF V ∧ ∀ h', onlyIC h h' → CV h' 2 V → h'.1 0 0 3 = nI 1 → K (nI (V 10 2)) h'
def T_X10_image : List AV → AH → (Int32 → AH → Prop) → Prop := fun as h K => match as with
  | [.inr (.inr (.inl q0))] => tif (Nat.beq q0.1 0 && Nat.beq q0.2 0) (S_X10_image h K)
  | _ => False

def M_X10_image : MI := (RX10, cX10_image, 1, [(0, .aload_n 0, []), (1, .getfield 19, []), (4, .aload_n 0, []), (5, .getfield 10, []), (8, .invokevirtual 41, []), (11, .aload_n 0, []), (12, .iconst 1, []), (13, .putfield 226, []), (16, .aload_n 0, []), (17, .getfield 10, []), (20, .getfield 135, []), (23, .ireturn, [])], [(19, (0, 2, 1, 1, 2)), (10, (0, 0, 1, 1, 0)), (226, (0, 3, 3, 0, 0)), (135, (1, 11, 0, 0, 0))], [], [], [(123, (2, 2, 48, 0, 0, .inr (.inl T_X9_become)))], 2, 48, 0, 0)
theorem ok_X10_image : MOK M_X10_image := ⟨by decide +kernel, List.forall_mem_cons.mpr ⟨fl_RX10_19, List.forall_mem_cons.mpr ⟨fl_RX10_10, List.forall_mem_cons.mpr ⟨fl_RX10_226, List.forall_mem_cons.mpr ⟨fl_RX10_135, fun _ h => absurd h List.not_mem_nil⟩⟩⟩⟩, fun _ h => absurd h List.not_mem_nil, fun _ h => absurd h List.not_mem_nil, List.forall_mem_cons.mpr ⟨⟨Nat.le_of_ble_eq_true rfl, Nat.le_of_ble_eq_true rfl, cr_RX10_123⟩, fun _ h => absurd h List.not_mem_nil⟩⟩
set_option maxRecDepth 100000 in
theorem vc_X10_image {K : Int32 → AH → Prop} {h : AH}  (H : S_X9_become 2 0 h (fun h1 => ((nI 1) = 0 ∨ (nI 1) = 1) ∧ K ((wI h1 0 0 3 (nI 1)).1 1 0 11) (wI h1 0 0 3 (nI 1)))) : AW M_X10_image (.inl K) 0 [some (aR 0 0)] [] h 0 0 := AW_go (cuts := []) ok_X10_image 400 H

theorem snd_X10_image {h : AH} {K : Int32 → AH → Prop} (k : S_X10_image h K) : AW M_X10_image (.inl K) 0 [some (aR 0 0)] [] h 0 0 := by
  obtain ⟨V, cv, hw, k⟩ := k
  refine vc_X10_image ⟨by decide, V, cv, hw, fun h1 o1 c1 => ⟨Or.inr (by decide), ?_⟩⟩
  rw [wI_nt (by omega), (CVs (CV_V o1 (by decide) cv)).2.2.2.2.2.2.2.2.2.2.1]
  refine k _ ⟨o1.1, fun a b i q => ?_, o1.2.2⟩ (CV_e (fun t i _ _ => wI_nt (by omega)) (fun i => rfl) (fun a i => wI_nt (by omega)) c1) (wI_at ..)
  rw [wI_get, if_neg (fun z => q (Or.inr z))]
  exact o1.2.1 a b i (fun z => q (Or.inl z))
theorem tr_X10_image : ∀ (as : List AV) (h : AH) (K : Int32 → AH → Prop), T_X10_image as h K → ∃ (q : Nat) (r : List AV), as = aR 0 q :: r := by
  intro as h K hk
  match as, hk with
  | [.inr (.inr (.inl q0))], hk =>
    obtain ⟨hb, hk⟩ := tif_inv hk
    simp only [Bool.and_eq_true] at hb
    obtain ⟨e0, e1⟩ := hb
    obtain ⟨a0, b0⟩ := q0
    have f0 : a0 = 0 := Nat.eq_of_beq_eq_true e0
    subst f0
    have f1 : b0 = 0 := Nat.eq_of_beq_eq_true e1
    subst f1
    exact ⟨_, _, rfl⟩
theorem tw_X10_image : ∀ (as : List AV) (h : AH) (K : Int32 → AH → Prop), T_X10_image as h K → (ini as).length ≤ mNL M_X10_image ∧ AW M_X10_image (.inl K) 0 (initL (mNL M_X10_image) as) [] h 0 0 := by
  intro as h K hk
  match as, hk with
  | [.inr (.inr (.inl q0))], hk =>
    obtain ⟨hb, hk⟩ := tif_inv hk
    simp only [Bool.and_eq_true] at hb
    obtain ⟨e0, e1⟩ := hb
    obtain ⟨a0, b0⟩ := q0
    have f0 : a0 = 0 := Nat.eq_of_beq_eq_true e0
    subst f0
    have f1 : b0 = 0 := Nat.eq_of_beq_eq_true e1
    subst f1
    exact ⟨Nat.le_of_ble_eq_true rfl, snd_X10_image  hk⟩

def S_X10_restore (h : AH) (K : Int32 → AH → Prop) : Prop := (h.1 0 0 3 = 0 → K (iI (-3)) h) ∧ (¬ h.1 0 0 3 = 0 → ∃ V, CV h 2 V ∧ WF V ∧ ∀ h', onlyV 0 h h' → CV h' 0 V → K (nI (V 10 2)) h')
def T_X10_restore : List AV → AH → (Int32 → AH → Prop) → Prop := fun as h K => match as with
  | [.inr (.inr (.inl q0))] => tif (Nat.beq q0.1 0 && Nat.beq q0.2 0) (S_X10_restore h K)
  | _ => False

def M_X10_restore : MI := (RX10, cX10_restore, 1, [(0, .aload_n 0, []), (1, .getfield 226, []), (4, .ifCond .ne 6, [10]), (7, .bipush (-3), []), (9, .ireturn, []), (10, .aload_n 0, []), (11, .getfield 10, []), (14, .aload_n 0, []), (15, .getfield 19, []), (18, .invokevirtual 41, []), (21, .aload_n 0, []), (22, .getfield 10, []), (25, .getfield 135, []), (28, .ireturn, [])], [(226, (0, 3, 3, 0, 0)), (10, (0, 0, 1, 1, 0)), (19, (0, 2, 1, 1, 2)), (135, (1, 11, 0, 0, 0))], [], [], [(123, (2, 2, 48, 0, 0, .inr (.inl T_X9_become)))], 2, 48, 0, 0)
theorem ok_X10_restore : MOK M_X10_restore := ⟨by decide +kernel, List.forall_mem_cons.mpr ⟨fl_RX10_226, List.forall_mem_cons.mpr ⟨fl_RX10_10, List.forall_mem_cons.mpr ⟨fl_RX10_19, List.forall_mem_cons.mpr ⟨fl_RX10_135, fun _ h => absurd h List.not_mem_nil⟩⟩⟩⟩, fun _ h => absurd h List.not_mem_nil, fun _ h => absurd h List.not_mem_nil, List.forall_mem_cons.mpr ⟨⟨Nat.le_of_ble_eq_true rfl, Nat.le_of_ble_eq_true rfl, cr_RX10_123⟩, fun _ h => absurd h List.not_mem_nil⟩⟩
set_option maxRecDepth 100000 in
theorem vc_X10_restore {K : Int32 → AH → Prop} {h : AH}  (H : ((¬ (h.1 0 0 3) = 0) → S_X9_become 0 2 h (fun h1 => K (h1.1 1 0 11) h1)) ∧ (¬ (¬ (h.1 0 0 3) = 0) → K (iI (-3)) h)) : AW M_X10_restore (.inl K) 0 [some (aR 0 0)] [] h 0 0 := AW_go (cuts := []) ok_X10_restore 400 H

theorem snd_X10_restore {h : AH} {K : Int32 → AH → Prop} (k : S_X10_restore h K) : AW M_X10_restore (.inl K) 0 [some (aR 0 0)] [] h 0 0 := by
  obtain ⟨k1, k2⟩ := k
  refine vc_X10_restore ⟨fun q => ?_, fun q => k1 (Decidable.not_not.mp q)⟩
  obtain ⟨V, cv, hw, k⟩ := k2 q
  refine ⟨by decide, V, cv, hw, fun h1 o1 c1 => ?_⟩
  (try dsimp only)
  rw [(CVs c1).2.2.2.2.2.2.2.2.2.2.1]
  exact k h1 o1 c1
theorem tr_X10_restore : ∀ (as : List AV) (h : AH) (K : Int32 → AH → Prop), T_X10_restore as h K → ∃ (q : Nat) (r : List AV), as = aR 0 q :: r := by
  intro as h K hk
  match as, hk with
  | [.inr (.inr (.inl q0))], hk =>
    obtain ⟨hb, hk⟩ := tif_inv hk
    simp only [Bool.and_eq_true] at hb
    obtain ⟨e0, e1⟩ := hb
    obtain ⟨a0, b0⟩ := q0
    have f0 : a0 = 0 := Nat.eq_of_beq_eq_true e0
    subst f0
    have f1 : b0 = 0 := Nat.eq_of_beq_eq_true e1
    subst f1
    exact ⟨_, _, rfl⟩
theorem tw_X10_restore : ∀ (as : List AV) (h : AH) (K : Int32 → AH → Prop), T_X10_restore as h K → (ini as).length ≤ mNL M_X10_restore ∧ AW M_X10_restore (.inl K) 0 (initL (mNL M_X10_restore) as) [] h 0 0 := by
  intro as h K hk
  match as, hk with
  | [.inr (.inr (.inl q0))], hk =>
    obtain ⟨hb, hk⟩ := tif_inv hk
    simp only [Bool.and_eq_true] at hb
    obtain ⟨e0, e1⟩ := hb
    obtain ⟨a0, b0⟩ := q0
    have f0 : a0 = 0 := Nat.eq_of_beq_eq_true e0
    subst f0
    have f1 : b0 = 0 := Nat.eq_of_beq_eq_true e1
    subst f1
    exact ⟨Nat.le_of_ble_eq_true rfl, snd_X10_restore  hk⟩

def S_X10_count (w : Int32) (h : AH) (K : Int32 → AH → Prop) : Prop := ∃ V, CV h 0 V ∧ WF V ∧ K (R_count V w) h
def T_X10_count : List AV → AH → (Int32 → AH → Prop) → Prop := fun as h K => match as with
  | [.inr (.inr (.inl q0)), .inl q1] => tif (Nat.beq q0.1 0 && Nat.beq q0.2 0) (S_X10_count q1 h K)
  | _ => False

def M_X10_count : MI := (RX10, cX10_count, 2, [(0, .iload_n 1, []), (1, .tableswitch 135 0 7 #[47, 55, 63, 71, 79, 92, 105, 117], [136, 48, 56, 64, 72, 80, 93, 106, 118]), (48, .aload_n 0, []), (49, .getfield 10, []), (52, .getfield 72, []), (55, .ireturn, []), (56, .aload_n 0, []), (57, .getfield 10, []), (60, .getfield 125, []), (63, .ireturn, []), (64, .aload_n 0, []), (65, .getfield 10, []), (68, .getfield 135, []), (71, .ireturn, []), (72, .aload_n 0, []), (73, .getfield 10, []), (76, .getfield 132, []), (79, .ireturn, []), (80, .aload_n 0, []), (81, .getfield 10, []), (84, .getfield 63, []), (87, .bipush 8, []), (89, .invokestatic 230, []), (92, .ireturn, []), (93, .aload_n 0, []), (94, .getfield 10, []), (97, .getfield 66, []), (100, .bipush 8, []), (102, .invokestatic 230, []), (105, .ireturn, []), (106, .aload_n 0, []), (107, .getfield 10, []), (110, .getfield 111, []), (113, .iconst 4, []), (114, .invokestatic 230, []), (117, .ireturn, []), (118, .aload_n 0, []), (119, .getfield 10, []), (122, .getfield 78, []), (125, .aload_n 0, []), (126, .getfield 10, []), (129, .getfield 72, []), (132, .invokestatic 230, []), (135, .ireturn, []), (136, .iconst (-1), []), (137, .ireturn, [])], [(10, (0, 0, 1, 1, 0)), (72, (1, 4, 0, 0, 0)), (125, (1, 9, 0, 0, 0)), (135, (1, 11, 0, 0, 0)), (132, (1, 12, 0, 0, 0)), (63, (1, 0, 1, 2, 0)), (66, (1, 1, 1, 3, 0)), (111, (1, 3, 1, 5, 0)), (78, (1, 6, 1, 7, 0))], [], [], [(691, (2, 1, 23, 0, 0, .inl T_X10_sum))], 1, 23, 0, 0)
theorem ok_X10_count : MOK M_X10_count := ⟨by decide +kernel, List.forall_mem_cons.mpr ⟨fl_RX10_10, List.forall_mem_cons.mpr ⟨fl_RX10_72, List.forall_mem_cons.mpr ⟨fl_RX10_125, List.forall_mem_cons.mpr ⟨fl_RX10_135, List.forall_mem_cons.mpr ⟨fl_RX10_132, List.forall_mem_cons.mpr ⟨fl_RX10_63, List.forall_mem_cons.mpr ⟨fl_RX10_66, List.forall_mem_cons.mpr ⟨fl_RX10_111, List.forall_mem_cons.mpr ⟨fl_RX10_78, fun _ h => absurd h List.not_mem_nil⟩⟩⟩⟩⟩⟩⟩⟩⟩, fun _ h => absurd h List.not_mem_nil, fun _ h => absurd h List.not_mem_nil, List.forall_mem_cons.mpr ⟨⟨Nat.le_of_ble_eq_true rfl, Nat.le_of_ble_eq_true rfl, cr_RX10_691⟩, fun _ h => absurd h List.not_mem_nil⟩⟩
set_option maxRecDepth 100000 in
theorem vc_X10_count {K : Int32 → AH → Prop} {h : AH} (p1 : Int32) (H : (p1.toInt < 0 ∨ 7 < p1.toInt → K (iI (-1)) h) ∧ (p1 = nI 0 → K (h.1 1 0 4) h) ∧ (p1 = nI 1 → K (h.1 1 0 9) h) ∧ (p1 = nI 2 → K (h.1 1 0 11) h) ∧ (p1 = nI 3 → K (h.1 1 0 12) h) ∧ (p1 = nI 4 → S_X10_sum 2 0 (nI 8) h (fun x2 h1 => K x2 h1)) ∧ (p1 = nI 5 → S_X10_sum 3 0 (nI 8) h (fun x4 h3 => K x4 h3)) ∧ (p1 = nI 6 → S_X10_sum 5 0 (nI 4) h (fun x6 h5 => K x6 h5)) ∧ (p1 = nI 7 → S_X10_sum 7 0 (h.1 1 0 4) h (fun x8 h7 => K x8 h7)) ∧ True) : AW M_X10_count (.inl K) 0 [some (aR 0 0), some (aI p1)] [] h 0 0 := AW_go (cuts := []) ok_X10_count 400 H

theorem snd_X10_count (w : Int32) {h : AH} {K : Int32 → AH → Prop} (k : S_X10_count w h K) : AW M_X10_count (.inl K) 0 [some (aR 0 0), some (aI w)] [] h 0 0 := by
  obtain ⟨V, cv, hw, k⟩ := k
  have h4 := hw.1
  obtain ⟨e0, e1, -, e3, -, e5, -, -, f0, f1, f2, f3, -⟩ := CVs cv
  unfold R_count at k
  refine vc_X10_count w ⟨fun z => ?_, fun z => ?_, fun z => ?_, fun z => ?_, fun z => ?_, fun z => ?_, fun z => ?_, fun z => ?_, fun z => ?_, trivial⟩
  · have n7 := sw_no (n := 7) (by omega) z
    have g : ∀ j, j ≤ 7 → w ≠ nI j := fun j hj e => n7 (by rw [e]; exact (in_n (by omega)).mpr ⟨j, hj, rfl⟩)
    rw [if_neg (fun y => n7 ⟨y.1, Int32.le_trans y.2 (by decide)⟩), if_neg (g 4 (by omega)), if_neg (g 5 (by omega)), if_neg (g 6 (by omega)), if_neg (g 7 (by omega))] at k
    exact k
  · subst z
    rw [if_pos (by decide)] at k
    rw [f0]; exact k
  · subst z
    rw [if_pos (by decide)] at k
    rw [f1]; exact k
  · subst z
    rw [if_pos (by decide)] at k
    rw [f2]; exact k
  · subst z
    rw [if_pos (by decide)] at k
    rw [f3]; exact k
  · subst z
    rw [if_neg (by decide), if_pos rfl] at k
    exact ⟨8, V 0, by omega, rfl, by decide, e0, k⟩
  · subst z
    rw [if_neg (by decide), if_neg (by decide), if_pos rfl] at k
    exact ⟨8, V 1, by omega, rfl, by decide, e1, k⟩
  · subst z
    rw [if_neg (by decide), if_neg (by decide), if_neg (by decide), if_pos rfl] at k
    exact ⟨4, V 3, by omega, rfl, by decide, e3, k⟩
  · subst z
    rw [if_neg (by decide), if_neg (by decide), if_neg (by decide), if_neg (by decide), if_pos rfl] at k
    exact ⟨V 10 0, V 5, by omega, f0, by show V 10 0 ≤ 4; exact h4, e5, k⟩
theorem tr_X10_count : ∀ (as : List AV) (h : AH) (K : Int32 → AH → Prop), T_X10_count as h K → ∃ (q : Nat) (r : List AV), as = aR 0 q :: r := by
  intro as h K hk
  match as, hk with
  | [.inr (.inr (.inl q0)), .inl q1], hk =>
    obtain ⟨hb, hk⟩ := tif_inv hk
    simp only [Bool.and_eq_true] at hb
    obtain ⟨e0, e1⟩ := hb
    obtain ⟨a0, b0⟩ := q0
    have f0 : a0 = 0 := Nat.eq_of_beq_eq_true e0
    subst f0
    have f1 : b0 = 0 := Nat.eq_of_beq_eq_true e1
    subst f1
    exact ⟨_, _, rfl⟩
theorem tw_X10_count : ∀ (as : List AV) (h : AH) (K : Int32 → AH → Prop), T_X10_count as h K → (ini as).length ≤ mNL M_X10_count ∧ AW M_X10_count (.inl K) 0 (initL (mNL M_X10_count) as) [] h 0 0 := by
  intro as h K hk
  match as, hk with
  | [.inr (.inr (.inl q0)), .inl q1], hk =>
    obtain ⟨hb, hk⟩ := tif_inv hk
    simp only [Bool.and_eq_true] at hb
    obtain ⟨e0, e1⟩ := hb
    obtain ⟨a0, b0⟩ := q0
    have f0 : a0 = 0 := Nat.eq_of_beq_eq_true e0
    subst f0
    have f1 : b0 = 0 := Nat.eq_of_beq_eq_true e1
    subst f1
    exact ⟨Nat.le_of_ble_eq_true rfl, snd_X10_count q1 hk⟩


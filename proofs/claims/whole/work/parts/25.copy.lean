/-! ===== the reference: rows copied, judged throws, seasons ===== -/
def cpS (S : Sm) (d i e j n : Nat) : Sm := (S.1, fun a t => if a = e ∧ j ≤ t ∧ t < j + n then S.2 d (i + (t - j)) else S.2 a t)
def M_copy (S : Sm) (d i e j n : Int32) : Int32 × Sm := if ¬ cel d ∨ ¬ cel e then (iI (-1), S) else if S.1 0 (nN d) = 0 ∨ S.1 0 (nN e) = 0 then (iI (-11), S) else if S.1 0 (nN d) ≠ 2 ∨ S.1 0 (nN e) ≠ 2 ∨ S.1 3 (nN d) ≠ S.1 3 (nN e) then (iI (-12), S) else if n < 0 ∨ i < 0 ∨ j < 0 ∨ nI (S.1 4 (nN d)) - i < n ∨ ¬ n ≤ nI (S.1 4 (nN e)) - j then (iI (-13), S) else (n, cpS S (nN d) (nN i) (nN e) (nN j) (nN n))
def S_X11_copy (d i e j n : Int32) (h : AH) (K : Int32 → AH → Prop) : Prop := ∃ S, MSh h S ∧ WS S ∧ ∀ h', onlyS h h' → MSh h' (M_copy S d i e j n).2 → K (M_copy S d i e j n).1 h'
def T_X11_copy : List AV → AH → (Int32 → AH → Prop) → Prop := fun as h K => match as with
  | [.inr (.inr (.inl q0)), .inl q1, .inl q2, .inl q3, .inl q4, .inl q5] => tif (Nat.beq q0.1 15 && Nat.beq q0.2 0) (S_X11_copy q1 q2 q3 q4 q5 h K)
  | _ => False

def M_X11_copy : MI := (RX11, cX11_copy, 8, [(0, .iload_n 1, []), (1, .invokestatic 226, []), (4, .ifCond .eq 10, [14]), (7, .iload_n 3, []), (8, .invokestatic 226, []), (11, .ifCond .ne 5, [16]), (14, .iconst (-1), []), (15, .ireturn, []), (16, .aload_n 0, []), (17, .getfield 35, []), (20, .iload_n 1, []), (21, .iaload, []), (22, .ifCond .eq 12, [34]), (25, .aload_n 0, []), (26, .getfield 35, []), (29, .iload_n 3, []), (30, .iaload, []), (31, .ifCond .ne 6, [37]), (34, .bipush (-11), []), (36, .ireturn, []), (37, .aload_n 0, []), (38, .getfield 35, []), (41, .iload_n 1, []), (42, .iaload, []), (43, .iconst 2, []), (44, .if_icmp .ne 28, [72]), (47, .aload_n 0, []), (48, .getfield 35, []), (51, .iload_n 3, []), (52, .iaload, []), (53, .iconst 2, []), (54, .if_icmp .ne 18, [72]), (57, .aload_n 0, []), (58, .getfield 44, []), (61, .iload_n 1, []), (62, .iaload, []), (63, .aload_n 0, []), (64, .getfield 44, []), (67, .iload_n 3, []), (68, .iaload, []), (69, .if_icmp .eq 6, [75]), (72, .bipush (-12), []), (74, .ireturn, []), (75, .iload 5, []), (77, .ifCond .lt 39, [116]), (80, .iload_n 2, []), (81, .ifCond .lt 35, [116]), (84, .iload 4, []), (86, .ifCond .lt 30, [116]), (89, .iload 5, []), (91, .aload_n 0, []), (92, .getfield 47, []), (95, .iload_n 1, []), (96, .iaload, []), (97, .iload_n 2, []), (98, .isub, []), (99, .if_icmp .gt 17, [116]), (102, .iload 5, []), (104, .aload_n 0, []), (105, .getfield 47, []), (108, .iload_n 3, []), (109, .iaload, []), (110, .iload 4, []), (112, .isub, []), (113, .if_icmp .le 6, [119]), (116, .bipush (-13), []), (118, .ireturn, []), (119, .iconst 0, []), (120, .istore 6, []), (122, .iload 6, []), (124, .iload 5, []), (126, .if_icmp .ge 58, [184]), (129, .iload_n 2, []), (130, .iload 4, []), (132, .if_icmp .le 8, [140]), (135, .iload 6, []), (137, .goto 10, [147]), (140, .iload 5, []), (142, .iconst 1, []), (143, .isub, []), (144, .iload 6, []), (146, .isub, []), (147, .istore 7, []), (149, .aload_n 0, []), (150, .getfield 50, []), (153, .bipush 100, []), (155, .iload_n 3, []), (156, .imul, []), (157, .iload 4, []), (159, .iadd, []), (160, .iload 7, []), (162, .iadd, []), (163, .aload_n 0, []), (164, .getfield 50, []), (167, .bipush 100, []), (169, .iload_n 1, []), (170, .imul, []), (171, .iload_n 2, []), (172, .iadd, []), (173, .iload 7, []), (175, .iadd, []), (176, .iaload, []), (177, .iastore, []), (178, .iinc 6 1, []), (181, .goto (-59), [122]), (184, .iload 5, []), (186, .ireturn, [])], [(35, (15, 16, 1, 21, 0)), (44, (15, 19, 1, 21, 3)), (47, (15, 20, 1, 21, 4)), (50, (15, 21, 1, 22, 0))], [], [], [(679, (1, 2, 42, 0, 0, .inl T_X11_isShelf))], 2, 42, 0, 0)
theorem ok_X11_copy : MOK M_X11_copy := ⟨by decide +kernel, List.forall_mem_cons.mpr ⟨fl_RX11_35, List.forall_mem_cons.mpr ⟨fl_RX11_44, List.forall_mem_cons.mpr ⟨fl_RX11_47, List.forall_mem_cons.mpr ⟨fl_RX11_50, fun _ h => absurd h List.not_mem_nil⟩⟩⟩⟩, fun _ h => absurd h List.not_mem_nil, fun _ h => absurd h List.not_mem_nil, List.forall_mem_cons.mpr ⟨⟨Nat.le_of_ble_eq_true rfl, Nat.le_of_ble_eq_true rfl, cr_RX11_679⟩, fun _ h => absurd h List.not_mem_nil⟩⟩
set_option maxRecDepth 100000 in
theorem vc_X11_copy {K : Int32 → AH → Prop} {h : AH} (p1 : Int32) (p2 : Int32) (p3 : Int32) (p4 : Int32) (p5 : Int32) (H : S_X11_isShelf p1 h (fun x2 h1 => ((x2 = 0) → K (iI (-1)) h1) ∧ (¬ (x2 = 0) → S_X11_isShelf p3 h1 (fun x4 h3 => ((¬ x4 = 0) → inR p1 8 ∧ (((h3.1 21 0 p1.toNatClampNeg) = 0) → K (iI (-11)) h3) ∧ (¬ ((h3.1 21 0 p1.toNatClampNeg) = 0) → inR p3 8 ∧ ((¬ (h3.1 21 0 p3.toNatClampNeg) = 0) → inR p1 8 ∧ ((¬ (h3.1 21 0 p1.toNatClampNeg) = (nI 2)) → K (iI (-12)) h3) ∧ (¬ (¬ (h3.1 21 0 p1.toNatClampNeg) = (nI 2)) → inR p3 8 ∧ ((¬ (h3.1 21 0 p3.toNatClampNeg) = (nI 2)) → K (iI (-12)) h3) ∧ (¬ (¬ (h3.1 21 0 p3.toNatClampNeg) = (nI 2)) → inR p1 8 ∧ inR p3 8 ∧ (((h3.1 21 3 p1.toNatClampNeg) = (h3.1 21 3 p3.toNatClampNeg)) → ((p5 < 0) → K (iI (-13)) h3) ∧ (¬ (p5 < 0) → ((p2 < 0) → K (iI (-13)) h3) ∧ (¬ (p2 < 0) → ((p4 < 0) → K (iI (-13)) h3) ∧ (¬ (p4 < 0) → inR p1 8 ∧ ((((h3.1 21 4 p1.toNatClampNeg) - p2) < p5) → K (iI (-13)) h3) ∧ (¬ (((h3.1 21 4 p1.toNatClampNeg) - p2) < p5) → inR p3 8 ∧ ((p5 ≤ ((h3.1 21 4 p3.toNatClampNeg) - p4)) → AW M_X11_copy (.inl K) 122 [some (aR 15 0), some (aI p1), some (aI p2), some (aI p3), some (aI p4), some (aI p5), some (aI (nI 0)), none] [] h3 0 0) ∧ (¬ (p5 ≤ ((h3.1 21 4 p3.toNatClampNeg) - p4)) → K (iI (-13)) h3)))))) ∧ (¬ ((h3.1 21 3 p1.toNatClampNeg) = (h3.1 21 3 p3.toNatClampNeg)) → K (iI (-12)) h3)))) ∧ (¬ (¬ (h3.1 21 0 p3.toNatClampNeg) = 0) → K (iI (-11)) h3))) ∧ (¬ (¬ x4 = 0) → K (iI (-1)) h3))))) : AW M_X11_copy (.inl K) 0 [some (aR 15 0), some (aI p1), some (aI p2), some (aI p3), some (aI p4), some (aI p5), none, none] [] h 0 0 := AW_go (cuts := [(122, [true, true, true, true, true, true, true, false])]) ok_X11_copy 400 H
set_option maxRecDepth 100000 in
theorem vc_X11_copy_122 {K : Int32 → AH → Prop} {h : AH}  (l1 : Int32) (l2 : Int32) (l3 : Int32) (l4 : Int32) (l5 : Int32) (l6 : Int32) (H : ((l5 ≤ l6) → K l5 h) ∧ (¬ (l5 ≤ l6) → ((l2 ≤ l4) → inR ((((nI 100) * l1) + l2) + ((l5 - (nI 1)) - l6)) 800 ∧ inR ((((nI 100) * l3) + l4) + ((l5 - (nI 1)) - l6)) 800 ∧ AW M_X11_copy (.inl K) 122 [some (aR 15 0), some (aI l1), some (aI l2), some (aI l3), some (aI l4), some (aI l5), some (aI (l6 + (nI 1))), none] [] (wI h 22 0 ((((nI 100) * l3) + l4) + ((l5 - (nI 1)) - l6)).toNatClampNeg (h.1 22 0 ((((nI 100) * l1) + l2) + ((l5 - (nI 1)) - l6)).toNatClampNeg)) 0 0) ∧ (¬ (l2 ≤ l4) → inR ((((nI 100) * l1) + l2) + l6) 800 ∧ inR ((((nI 100) * l3) + l4) + l6) 800 ∧ AW M_X11_copy (.inl K) 122 [some (aR 15 0), some (aI l1), some (aI l2), some (aI l3), some (aI l4), some (aI l5), some (aI (l6 + (nI 1))), none] [] (wI h 22 0 ((((nI 100) * l3) + l4) + l6).toNatClampNeg (h.1 22 0 ((((nI 100) * l1) + l2) + l6).toNatClampNeg)) 0 0))) : AW M_X11_copy (.inl K) 122 [some (aR 15 0), some (aI l1), some (aI l2), some (aI l3), some (aI l4), some (aI l5), some (aI l6), none] [] h 0 0 := AW_go (cuts := [(122, [true, true, true, true, true, true, true, false])]) ok_X11_copy 400 H

theorem lp_X11_copy {d i e j n : Nat} {h0 : AH} {K : Int32 → AH → Prop} (hd : d < 8) (he : e < 8) (hi : i + n ≤ 100) (hj : j + n ≤ 100) (k : ∀ h', h'.2 = h0.2 → (∀ a b q, ¬ (a = 22 ∧ b = 0) → h'.1 a b q = h0.1 a b q) → (∀ q, h'.1 22 0 q = if 100 * e + j ≤ q ∧ q < 100 * e + j + n then h0.1 22 0 (100 * d + i + (q - (100 * e + j))) else h0.1 22 0 q) → K (nI n) h') : ∀ r c h, c + r = n → h.2 = h0.2 → (∀ a b q, ¬ (a = 22 ∧ b = 0) → h.1 a b q = h0.1 a b q) → (∀ q, h.1 22 0 q = if (if i ≤ j then 100 * e + j + n - c ≤ q ∧ q < 100 * e + j + n else 100 * e + j ≤ q ∧ q < 100 * e + j + c) then h0.1 22 0 (100 * d + i + (q - (100 * e + j))) else h0.1 22 0 q) → AW M_X11_copy (.inl K) 122 [some (aR 15 0), some (aI (nI d)), some (aI (nI i)), some (aI (nI e)), some (aI (nI j)), some (aI (nI n)), some (aI (nI c)), none] [] h 0 0 := by
  intro r
  induction r with
  | zero =>
    intro c h hc h1 h2 h3
    refine vc_X11_copy_122 (nI d) (nI i) (nI e) (nI j) (nI n) (nI c) ?_
    simp (disch := omega) only [n_le]
    refine ⟨fun _ => k h h1 h2 (fun q => ?_), fun q => absurd (by omega) q⟩
    rw [h3 q]
    have : c = n := by omega
    subst this
    grind
  | succ r ih =>
    intro c h hc h1 h2 h3
    refine vc_X11_copy_122 (nI d) (nI i) (nI e) (nI j) (nI n) (nI c) ?_
    simp (disch := omega) only [n_le, pk_mul, nI_add, n_sub, n_inT, n_cl, true_and]
    refine ⟨fun q => by omega, fun _ => ⟨fun q => ih (c + 1) _ (by omega) h1 (fun a b z hz => ?_) (fun z => ?_), fun q => ih (c + 1) _ (by omega) h1 (fun a b z hz => ?_) (fun z => ?_)⟩⟩
    · show uI h.1 22 0 _ _ a b z = _
      unfold uI
      rw [if_neg (fun y => hz ⟨y.1, y.2.1⟩)]
      exact h2 a b z hz
    · have hsrc := h3 (100 * d + i + (n - 1 - c))
      rw [if_neg (by rw [if_pos q]; omega)] at hsrc
      show uI h.1 22 0 (100 * e + j + (n - 1 - c)) (h.1 22 0 (100 * d + i + (n - 1 - c))) 22 0 z = _
      rw [hsrc]
      simp only [if_pos q]
      by_cases hz : z = 100 * e + j + (n - 1 - c)
      · subst hz
        rw [uI_at, if_pos (by omega), show 100 * d + i + (100 * e + j + (n - 1 - c) - (100 * e + j)) = 100 * d + i + (n - 1 - c) by omega]
      · rw [uI_ni hz, h3 z]
        simp only [if_pos q]
        grind
    · show uI h.1 22 0 _ _ a b z = _
      unfold uI
      rw [if_neg (fun y => hz ⟨y.1, y.2.1⟩)]
      exact h2 a b z hz
    · have hsrc := h3 (100 * d + i + c)
      rw [if_neg (by rw [if_neg q]; omega)] at hsrc
      show uI h.1 22 0 (100 * e + j + c) (h.1 22 0 (100 * d + i + c)) 22 0 z = _
      rw [hsrc]
      simp only [if_neg q]
      by_cases hz : z = 100 * e + j + c
      · subst hz
        rw [uI_at, if_pos (by omega), show 100 * d + i + (100 * e + j + c - (100 * e + j)) = 100 * d + i + c by omega]
      · rw [uI_ni hz, h3 z]
        simp only [if_neg q]
        grind
theorem snd_X11_copy (d i e j n : Int32) {h : AH} {K : Int32 → AH → Prop} (k : S_X11_copy d i e j n h K) : AW M_X11_copy (.inl K) 0 [some (aR 15 0), some (aI d), some (aI i), some (aI e), some (aI j), some (aI n), none, none] [] h 0 0 := by
  obtain ⟨S, hs, hw, k⟩ := k
  refine vc_X11_copy d i e j n ?_
  unfold S_X11_isShelf
  simp only [if10_eq]
  unfold M_copy at k
  refine ⟨fun q => ?_, fun q => ⟨fun q2 => ?_, fun q2 => ?_⟩⟩
  · rw [if_pos (Or.inl q)] at k; exact k h (onlyS_rfl h) hs
  · have q := Decidable.not_not.mp q
    have q2 := Decidable.not_not.mp q2
    rw [if_neg (by rintro (z | z); exact z q; exact z q2)] at k
    obtain ⟨m, hm, rfl⟩ := in8_iff.mp q
    obtain ⟨l, hl, rfl⟩ := in8_iff.mp q2
    unfold nN at k
    rw [n_cl (show m < 2147483648 by omega), n_cl (show l < 2147483648 by omega)] at k
    obtain ⟨a, -, c⟩ := hs m hm
    obtain ⟨a2, -, c2⟩ := hs l hl
    obtain ⟨w1, -, w3⟩ := hw m hm
    obtain ⟨v1, -, v3⟩ := hw l hl
    simp (disch := omega) only [n_inT, n_cl, true_and, a, a2, n_eq0, n_eq]
    refine ⟨fun z1 => ?_, fun z1 => ⟨fun z2 => ⟨fun z3 => ?_, fun z3 => ⟨fun z4 => ?_, fun z4 => ?_⟩⟩, fun z2 => ?_⟩⟩
    · rw [if_pos (Or.inl z1)] at k; exact k h (onlyS_rfl h) hs
    · rw [if_neg (by rintro (z | z); exact z1 z; exact z2 z), if_pos (Or.inl z3)] at k; exact k h (onlyS_rfl h) hs
    · rw [if_neg (by rintro (z | z); exact z1 z; exact z2 z), if_pos (Or.inr (Or.inl z4))] at k; exact k h (onlyS_rfl h) hs
    · have z3 := Decidable.not_not.mp z3
      have z4 := Decidable.not_not.mp z4
      obtain ⟨c3, c4, c5⟩ := c z3
      obtain ⟨d3, d4, d5⟩ := c2 z4
      have w3 := w3 z3
      have v3 := v3 z4
      rw [c3, d3, c4, d4]
      rw [if_neg (by rintro (z | z); exact z1 z; exact z2 z)] at k
      rw [n_eq (by omega) (by omega)]
      refine ⟨fun z5 => ?_, fun z5 => ?_⟩
      · rw [if_neg (by rintro (z | z | z); exact z z3; exact z z4; exact z z5)] at k
        refine ⟨fun y1 => ?_, fun y1 => ⟨fun y2 => ?_, fun y2 => ⟨fun y3 => ?_, fun y3 => ⟨fun y4 => ?_, fun y4 => ⟨fun y5 => ?_, fun y5 => ?_⟩⟩⟩⟩⟩
        · rw [if_pos (Or.inl y1)] at k; exact k h (onlyS_rfl h) hs
        · rw [if_pos (Or.inr (Or.inl y2))] at k; exact k h (onlyS_rfl h) hs
        · rw [if_pos (Or.inr (Or.inr (Or.inl y3)))] at k; exact k h (onlyS_rfl h) hs
        · rw [if_pos (Or.inr (Or.inr (Or.inr (Or.inl y4))))] at k; exact k h (onlyS_rfl h) hs
        · rw [if_neg (by rintro (z | z | z | z | z); exact y1 z; exact y2 z; exact y3 z; exact y4 z; exact z y5)] at k
          obtain ⟨n', hn', rfl⟩ := nI_of y1
          obtain ⟨i', hi', rfl⟩ := nI_of y2
          obtain ⟨j', hj', rfl⟩ := nI_of y3
          have b1 : i' + n' ≤ S.1 4 m := by
            rw [n_subI, nI_iI n', i_lt (by omega) (by omega) (by omega) (by omega)] at y4
            omega
          have b2 : j' + n' ≤ S.1 4 l := by
            rw [n_subI, nI_iI n', i_le (by omega) (by omega) (by omega) (by omega)] at y5
            omega
          rw [n_cl (by omega), n_cl (by omega), n_cl (by omega)] at k
          refine lp_X11_copy (h0 := h) hm hl (by omega) (by omega) (fun h' e1 e2 e3 => k h' ⟨e1, fun a b y1 y2 => ?_⟩ ?_) n' 0 h (by omega) rfl (fun _ _ _ _ => rfl) (fun q => by rw [if_neg (by split <;> omega)])
          · funext t
            exact e2 a b t (by omega)
          · intro dd hdd
            obtain ⟨p1, p2, p3⟩ := hs dd hdd
            rw [e2 21 0 dd (by omega), e2 21 1 dd (by omega), e2 21 2 dd (by omega), e2 21 3 dd (by omega), e2 21 4 dd (by omega)]
            refine ⟨p1, p2, fun q => ⟨(p3 q).1, (p3 q).2.1, fun t ht => ?_⟩⟩
            rw [e3]
            show _ = if dd = l ∧ j' ≤ t ∧ t < j' + n' then S.2 m (i' + (t - j')) else S.2 dd t
            by_cases hc : dd = l ∧ j' ≤ t ∧ t < j' + n'
            · rw [if_pos hc, if_pos (by omega), ← c5 (i' + (t - j')) (by omega), show 100 * m + i' + (100 * dd + t - (100 * l + j')) = 100 * m + (i' + (t - j')) by omega]
            · rw [if_neg hc, if_neg (by omega)]
              exact (p3 q).2.2 t ht
        · rw [if_pos (Or.inr (Or.inr (Or.inr (Or.inr y5))))] at k; exact k h (onlyS_rfl h) hs
      · rw [if_pos (Or.inr (Or.inr z5))] at k; exact k h (onlyS_rfl h) hs
    · rw [if_pos (Or.inr (Decidable.not_not.mp z2))] at k; exact k h (onlyS_rfl h) hs
  · rw [if_pos (Or.inr (fun z => q2 (fun y => y z)))] at k; exact k h (onlyS_rfl h) hs
theorem tr_X11_copy : ∀ (as : List AV) (h : AH) (K : Int32 → AH → Prop), T_X11_copy as h K → ∃ (q : Nat) (r : List AV), as = aR 15 q :: r := by
  intro as h K hk
  match as, hk with
  | [.inr (.inr (.inl q0)), .inl q1, .inl q2, .inl q3, .inl q4, .inl q5], hk =>
    obtain ⟨hb, hk⟩ := tif_inv hk
    simp only [Bool.and_eq_true] at hb
    obtain ⟨e0, e1⟩ := hb
    obtain ⟨a0, b0⟩ := q0
    have f0 : a0 = 15 := Nat.eq_of_beq_eq_true e0
    subst f0
    have f1 : b0 = 0 := Nat.eq_of_beq_eq_true e1
    subst f1
    exact ⟨_, _, rfl⟩
theorem tw_X11_copy : ∀ (as : List AV) (h : AH) (K : Int32 → AH → Prop), T_X11_copy as h K → (ini as).length ≤ mNL M_X11_copy ∧ AW M_X11_copy (.inl K) 0 (initL (mNL M_X11_copy) as) [] h 0 0 := by
  intro as h K hk
  match as, hk with
  | [.inr (.inr (.inl q0)), .inl q1, .inl q2, .inl q3, .inl q4, .inl q5], hk =>
    obtain ⟨hb, hk⟩ := tif_inv hk
    simp only [Bool.and_eq_true] at hb
    obtain ⟨e0, e1⟩ := hb
    obtain ⟨a0, b0⟩ := q0
    have f0 : a0 = 15 := Nat.eq_of_beq_eq_true e0
    subst f0
    have f1 : b0 = 0 := Nat.eq_of_beq_eq_true e1
    subst f1
    exact ⟨Nat.le_of_ble_eq_true rfl, snd_X11_copy q1 q2 q3 q4 q5 hk⟩

def lstO (s : Nat) : Int32 := if s = 0 then iI (-128) else if s = 1 then iI (-32768) else (-2147483648 : Int32)
def S_X11_leastOf (s : Int32) (h : AH) (K : Int32 → AH → Prop) : Prop := ∃ n, n ≤ 2 ∧ s = nI n ∧ K (lstO n) h
def T_X11_leastOf : List AV → AH → (Int32 → AH → Prop) → Prop := fun as h K => match as with
  | [.inl q0] => S_X11_leastOf q0 h K
  | _ => False

def M_X11_leastOf : MI := (RX11, cX11_leastOf, 1, [(0, .iload_n 0, []), (1, .ifCond .ne 8, [9]), (4, .bipush (-128), []), (6, .goto 16, [22]), (9, .iload_n 0, []), (10, .iconst 1, []), (11, .if_icmp .ne 9, [20]), (14, .sipush (-32768), []), (17, .goto 5, [22]), (20, .ldc 225, []), (22, .ireturn, [])], [], [(225, (-2147483648))], [], [], 0, 0, 0, 0)
theorem ok_X11_leastOf : MOK M_X11_leastOf := ⟨by decide +kernel, fun _ h => absurd h List.not_mem_nil, List.forall_mem_cons.mpr ⟨(inG (i := 1273) (w := Cond.constant RX11 225 (-2147483648)) (by decide +kernel) rfl), fun _ h => absurd h List.not_mem_nil⟩, fun _ h => absurd h List.not_mem_nil, fun _ h => absurd h List.not_mem_nil⟩
set_option maxRecDepth 100000 in
theorem vc_X11_leastOf {K : Int32 → AH → Prop} {h : AH} (p0 : Int32) (H : ((¬ p0 = 0) → ((¬ p0 = (nI 1)) → K (-2147483648 : Int32) h) ∧ (¬ (¬ p0 = (nI 1)) → K (iI (-32768)) h)) ∧ (¬ (¬ p0 = 0) → K (iI (-128)) h)) : AW M_X11_leastOf (.inl K) 0 [some (aI p0)] [] h 0 0 := AW_go (cuts := []) ok_X11_leastOf 400 H

theorem snd_X11_leastOf (s : Int32) {h : AH} {K : Int32 → AH → Prop} (k : S_X11_leastOf s h K) : AW M_X11_leastOf (.inl K) 0 [some (aI s)] [] h 0 0 := by
  obtain ⟨n, hn, rfl, k⟩ := k
  refine vc_X11_leastOf (nI n) ?_
  unfold lstO at k
  simp (disch := omega) only [n_eq0, n_eq]
  refine ⟨fun q => ⟨fun q2 => ?_, fun q2 => ?_⟩, fun q => ?_⟩
  · rw [if_neg q, if_neg q2] at k; exact k
  · rw [if_neg q, if_pos (Decidable.not_not.mp q2)] at k; exact k
  · rw [if_pos (Decidable.not_not.mp q)] at k; exact k
theorem tw_X11_leastOf : ∀ (as : List AV) (h : AH) (K : Int32 → AH → Prop), T_X11_leastOf as h K → (ini as).length ≤ mNL M_X11_leastOf ∧ AW M_X11_leastOf (.inl K) 0 (initL (mNL M_X11_leastOf) as) [] h 0 0 := by
  intro as h K hk
  match as, hk with
  | [.inl q0], hk =>
    exact ⟨Nat.le_of_ble_eq_true rfl, snd_X11_leastOf q0 hk⟩
theorem cr_RX11_688 : CR RX11 (kIns 688) (1, 1, 20, 0, 0, .inl T_X11_leastOf) := crS_i (M := M_X11_leastOf) (by decide) rfl (inG (i := 1270) (w := Cond.methodLink RX11 229 yX11_leastOf) (by decide +kernel) rfl) (inG (i := 1271) (w := Cond.static yX11_leastOf) (by decide +kernel) rfl) (inG (i := 40) (w := Cond.initialized RX11) (by decide +kernel) rfl) (inG (i := 1272) (w := Cond.code yX11_leastOf cX11_leastOf 1 (some .int)) (by decide +kernel) rfl) ⟨by decide +kernel, by decide +kernel, by decide +kernel⟩ tw_X11_leastOf

def jd (E : Nat → Int32) (lo : Int32) (s c : Nat) : Nat → Nat → Vm → Option Nat
  | 0, _, _ => none
  | r + 1, k, W => if E k ≠ lo ∧ E k ≠ nI (brg W s c) then some k else jd E lo s c r (k + 1) (thr W s c)
def R_judge (S : Sm) (V : Vm) (a c d : Int32) : Int32 := if ¬ cel d then iI (-1) else if rfT V a c ≠ nI 0 then rfT V a c else if rwR S d (iI (-1)) ≠ nI 0 then rwR S d (iI (-1)) else oI (jd (S.2 (nN d)) (lstO (S.1 3 (nN d))) (nN a) (nN c) (S.1 4 (nN d)) 0 V)
def S_X11_judge (a c d : Int32) (h : AH) (K : Int32 → AH → Prop) : Prop := ∃ S V, MSh h S ∧ WS S ∧ RV (h.1 16 0) V ∧ WF V ∧ ∀ h', keepM h h' → K (R_judge S V a c d) h'
def T_X11_judge : List AV → AH → (Int32 → AH → Prop) → Prop := fun as h K => match as with
  | [.inr (.inr (.inl q0)), .inl q1, .inl q2, .inl q3] => tif (Nat.beq q0.1 15 && Nat.beq q0.2 0) (S_X11_judge q1 q2 q3 h K)
  | _ => False

def M_X11_judge : MI := (RX11, cX11_judge, 7, [(0, .iload_n 3, []), (1, .invokestatic 226, []), (4, .ifCond .ne 5, [9]), (7, .iconst (-1), []), (8, .ireturn, []), (9, .aload_n 0, []), (10, .iload_n 1, []), (11, .iload_n 2, []), (12, .invokevirtual 165, []), (15, .istore 4, []), (17, .iload 4, []), (19, .ifCond .ne 11, [30]), (22, .aload_n 0, []), (23, .iload_n 3, []), (24, .iconst (-1), []), (25, .invokevirtual 141, []), (28, .istore 4, []), (30, .iload 4, []), (32, .ifCond .eq 6, [38]), (35, .iload 4, []), (37, .ireturn, []), (38, .aload_n 0, []), (39, .getfield 9, []), (42, .aload_n 0, []), (43, .getfield 13, []), (46, .invokestatic 148, []), (49, .iconst 0, []), (50, .istore 5, []), (52, .iload 5, []), (54, .aload_n 0, []), (55, .getfield 47, []), (58, .iload_n 3, []), (59, .iaload, []), (60, .if_icmp .ge 64, [124]), (63, .aload_n 0, []), (64, .getfield 13, []), (67, .iload_n 1, []), (68, .iload_n 2, []), (69, .invokestatic 138, []), (72, .istore 6, []), (74, .aload_n 0, []), (75, .getfield 50, []), (78, .bipush 100, []), (80, .iload_n 3, []), (81, .imul, []), (82, .iload 5, []), (84, .iadd, []), (85, .iaload, []), (86, .aload_n 0, []), (87, .getfield 44, []), (90, .iload_n 3, []), (91, .iaload, []), (92, .invokestatic 229, []), (95, .if_icmp .eq 23, [118]), (98, .aload_n 0, []), (99, .getfield 50, []), (102, .bipush 100, []), (104, .iload_n 3, []), (105, .imul, []), (106, .iload 5, []), (108, .iadd, []), (109, .iaload, []), (110, .iload 6, []), (112, .if_icmp .eq 6, [118]), (115, .iload 5, []), (117, .ireturn, []), (118, .iinc 5 1, []), (121, .goto (-69), [52]), (124, .bipush (-4), []), (126, .ireturn, [])], [(9, (15, 0, 1, 16, 0)), (13, (15, 1, 1, 16, 1)), (47, (15, 20, 1, 21, 4)), (50, (15, 21, 1, 22, 0)), (44, (15, 19, 1, 21, 3))], [], [], [(679, (1, 2, 42, 0, 0, .inl T_X11_isShelf)), (495, (3, 3, 65, 0, 0, .inl T_X11_wrongThrow)), (423, (3, 3, 64, 0, 0, .inl T_X11_wrongRow)), (445, (2, 1, 22, 0, 0, .inr (.inl T_X11_copies))), (415, (3, 5, 116, 0, 0, .inl T_X11_throwIn)), (688, (1, 1, 20, 0, 0, .inl T_X11_leastOf))], 5, 116, 0, 0)
theorem ok_X11_judge : MOK M_X11_judge := ⟨by decide +kernel, List.forall_mem_cons.mpr ⟨fl_RX11_9, List.forall_mem_cons.mpr ⟨fl_RX11_13, List.forall_mem_cons.mpr ⟨fl_RX11_47, List.forall_mem_cons.mpr ⟨fl_RX11_50, List.forall_mem_cons.mpr ⟨fl_RX11_44, fun _ h => absurd h List.not_mem_nil⟩⟩⟩⟩⟩, fun _ h => absurd h List.not_mem_nil, fun _ h => absurd h List.not_mem_nil, List.forall_mem_cons.mpr ⟨⟨Nat.le_of_ble_eq_true rfl, Nat.le_of_ble_eq_true rfl, cr_RX11_679⟩, List.forall_mem_cons.mpr ⟨⟨Nat.le_of_ble_eq_true rfl, Nat.le_of_ble_eq_true rfl, cr_RX11_495⟩, List.forall_mem_cons.mpr ⟨⟨Nat.le_of_ble_eq_true rfl, Nat.le_of_ble_eq_true rfl, cr_RX11_423⟩, List.forall_mem_cons.mpr ⟨⟨Nat.le_of_ble_eq_true rfl, Nat.le_of_ble_eq_true rfl, cr_RX11_445⟩, List.forall_mem_cons.mpr ⟨⟨Nat.le_of_ble_eq_true rfl, Nat.le_of_ble_eq_true rfl, cr_RX11_415⟩, List.forall_mem_cons.mpr ⟨⟨Nat.le_of_ble_eq_true rfl, Nat.le_of_ble_eq_true rfl, cr_RX11_688⟩, fun _ h => absurd h List.not_mem_nil⟩⟩⟩⟩⟩⟩⟩
set_option maxRecDepth 100000 in
theorem vc_X11_judge {K : Int32 → AH → Prop} {h : AH} (p1 : Int32) (p2 : Int32) (p3 : Int32) (H : S_X11_isShelf p3 h (fun x2 h1 => ((¬ x2 = 0) → S_X11_wrongThrow p1 p2 h1 (fun x4 h3 => ((¬ x4 = 0) → ((x4 = 0) → S_X11_copies 0 1 h3 (fun h5 => AW M_X11_judge (.inl K) 52 [some (aR 15 0), some (aI p1), some (aI p2), some (aI p3), none, some (aI (nI 0)), none] [] h5 0 0)) ∧ (¬ (x4 = 0) → K x4 h3)) ∧ (¬ (¬ x4 = 0) → S_X11_wrongRow p3 (iI (-1)) h3 (fun x7 h6 => ((x7 = 0) → S_X11_copies 0 1 h6 (fun h8 => AW M_X11_judge (.inl K) 52 [some (aR 15 0), some (aI p1), some (aI p2), some (aI p3), none, some (aI (nI 0)), none] [] h8 0 0)) ∧ (¬ (x7 = 0) → K x7 h6))))) ∧ (¬ (¬ x2 = 0) → K (iI (-1)) h1))) : AW M_X11_judge (.inl K) 0 [some (aR 15 0), some (aI p1), some (aI p2), some (aI p3), none, none, none] [] h 0 0 := AW_go (cuts := [(52, [true, true, true, true, false, true, false])]) ok_X11_judge 400 H
set_option maxRecDepth 100000 in
theorem vc_X11_judge_52 {K : Int32 → AH → Prop} {h : AH}  (l1 : Int32) (l2 : Int32) (l3 : Int32) (l5 : Int32) (H : inR l3 8 ∧ (((h.1 21 4 l3.toNatClampNeg) ≤ l5) → K (iI (-4)) h) ∧ (¬ ((h.1 21 4 l3.toNatClampNeg) ≤ l5) → S_X11_throwIn 1 l1 l2 h (fun x2 h1 => inR (((nI 100) * l3) + l5) 800 ∧ inR l3 8 ∧ S_X11_leastOf (h1.1 21 3 l3.toNatClampNeg) h1 (fun x4 h3 => (((h1.1 22 0 (((nI 100) * l3) + l5).toNatClampNeg) = x4) → AW M_X11_judge (.inl K) 52 [some (aR 15 0), some (aI l1), some (aI l2), some (aI l3), none, some (aI (l5 + (nI 1))), none] [] h3 0 0) ∧ (¬ ((h1.1 22 0 (((nI 100) * l3) + l5).toNatClampNeg) = x4) → inR (((nI 100) * l3) + l5) 800 ∧ (((h3.1 22 0 (((nI 100) * l3) + l5).toNatClampNeg) = x2) → AW M_X11_judge (.inl K) 52 [some (aR 15 0), some (aI l1), some (aI l2), some (aI l3), none, some (aI (l5 + (nI 1))), none] [] h3 0 0) ∧ (¬ ((h3.1 22 0 (((nI 100) * l3) + l5).toNatClampNeg) = x2) → K l5 h3)))))) : AW M_X11_judge (.inl K) 52 [some (aR 15 0), some (aI l1), some (aI l2), some (aI l3), none, some (aI l5), none] [] h 0 0 := AW_go (cuts := [(52, [true, true, true, true, false, true, false])]) ok_X11_judge 400 H

theorem lp_X11_judge {S : Sm} {s c m : Nat} {h0 : AH} {K : Int32 → AH → Prop} (hs : MSh h0 S) (hw : WS S) (hm : m < 8) (h2 : S.1 0 m = 2) (hc : c < 8) : ∀ r t W h, t + r = S.1 4 m → WF W → s < W 10 1 → RV (h.1 16 1) W → keepM h0 h → (∀ h', keepM h0 h' → K (oI (jd (S.2 m) (lstO (S.1 3 m)) s c r t W)) h') → AW M_X11_judge (.inl K) 52 [some (aR 15 0), some (aI (nI s)), some (aI (nI c)), some (aI (nI m)), none, some (aI (nI t)), none] [] h 0 0 := by
  have hw3 := (hw m hm).2.2 h2
  intro r
  induction r with
  | zero =>
    intro t W h ht hW hsW hr hk k
    refine vc_X11_judge_52 (nI s) (nI c) (nI m) (nI t) ?_
    obtain ⟨-, -, q⟩ := MSh_keep hk hs m hm
    obtain ⟨c1, c2, c3⟩ := q h2
    simp (disch := omega) only [n_inT, n_cl, true_and, c2, n_le]
    exact ⟨fun _ => k h hk, fun q => absurd (by omega) q⟩
  | succ r ih =>
    intro t W h ht hW hsW hr hk k
    refine vc_X11_judge_52 (nI s) (nI c) (nI m) (nI t) ?_
    obtain ⟨-, -, q⟩ := MSh_keep hk hs m hm
    obtain ⟨c1, c2, c3⟩ := q h2
    simp (disch := omega) only [n_inT, n_cl, true_and, c2, n_le, pk_mul, nI_add]
    refine ⟨fun q => by omega, fun _ => ⟨W, s, c, ⟨hr, hW, hsW, rfl⟩, hc, rfl, fun h1 o1 q1 => ?_⟩⟩
    have k1 := keepM_tr hk (keepM_o (by decide) (by decide) o1)
    obtain ⟨-, -, q⟩ := MSh_keep k1 hs m hm
    obtain ⟨c1, c2, c3⟩ := q h2
    dsimp only
    rw [c1, c3 t (by omega)]
    refine ⟨S.1 3 m, hw3.1, rfl, ?_⟩
    dsimp only
    rw [c3 t (by omega)]
    have nx : (¬ (S.2 m t ≠ lstO (S.1 3 m) ∧ S.2 m t ≠ nI (brg W s c))) → AW M_X11_judge (.inl K) 52 [some (aR 15 0), some (aI (nI s)), some (aI (nI c)), some (aI (nI m)), none, some (aI (nI (t + 1))), none] [] h1 0 0 := fun hn => ih (t + 1) (thr W s c) h1 (by omega) (WF_thr hW hc) (by rw [thr_10 (by omega)]; exact hsW) q1 k1 (fun h' q' => by
      have := k h' q'
      rw [jd, if_neg hn] at this
      exact this)
    refine ⟨fun q => nx (fun z => z.1 q), fun q => ⟨fun q2 => nx (fun z => z.2 q2), fun q2 => ?_⟩⟩
    have := k h1 k1
    rw [jd, if_pos ⟨q, q2⟩] at this
    exact this
theorem snd_X11_judge (a c d : Int32) {h : AH} {K : Int32 → AH → Prop} (k : S_X11_judge a c d h K) : AW M_X11_judge (.inl K) 0 [some (aR 15 0), some (aI a), some (aI c), some (aI d), none, none, none] [] h 0 0 := by
  obtain ⟨S, V, hs, hw, hr, hv, k⟩ := k
  refine vc_X11_judge a c d ?_
  unfold S_X11_isShelf
  simp only [if10_eq]
  unfold R_judge at k
  by_cases hd : cel d
  case neg =>
    refine ⟨fun q => absurd hd q, fun _ => ?_⟩
    rw [if_pos hd] at k
    exact k h (keepM_rfl h)
  rw [if_neg (fun z => z hd)] at k
  refine ⟨fun _ => wT_use hr hv ?_, fun q => absurd (fun z => z hd) q⟩
  rcases rfT_cases hv a c with ⟨n, m, hn, hm, hf, rfl, rfl, e⟩ | e
  case inr =>
    rw [if_pos e] at k
    exact ⟨fun _ => ⟨fun z => absurd z e, fun _ => k h (keepM_rfl h)⟩, fun z => absurd e z⟩
  rw [if_neg (fun z => z e)] at k
  refine ⟨fun z => absurd e z, fun _ => ⟨S, hs, hw, ?_⟩⟩
  rcases rwR_cases hw d with ⟨l, hl, rfl, h2, e2⟩ | e2
  case inr =>
    rw [if_pos e2] at k
    exact ⟨fun z => absurd z e2, fun _ => k h (keepM_rfl h)⟩
  rw [if_neg (fun z => z e2)] at k
  have h7 := hv.2.1
  unfold nN at k
  rw [n_cl (show l < 2147483648 by omega), n_cl (show n < 2147483648 by omega), n_cl (show m < 2147483648 by omega)] at k
  refine ⟨fun _ => ⟨by decide, fun h1 o1 c1 => ?_⟩, fun z => absurd e2 z⟩
  exact lp_X11_judge hs hw hl h2 hm (S.1 4 l) 0 V h1 (by omega) hv hn (RV_cp hv hr c1) (keepM_o (by decide) (by decide) o1) k
theorem tr_X11_judge : ∀ (as : List AV) (h : AH) (K : Int32 → AH → Prop), T_X11_judge as h K → ∃ (q : Nat) (r : List AV), as = aR 15 q :: r := by
  intro as h K hk
  match as, hk with
  | [.inr (.inr (.inl q0)), .inl q1, .inl q2, .inl q3], hk =>
    obtain ⟨hb, hk⟩ := tif_inv hk
    simp only [Bool.and_eq_true] at hb
    obtain ⟨e0, e1⟩ := hb
    obtain ⟨a0, b0⟩ := q0
    have f0 : a0 = 15 := Nat.eq_of_beq_eq_true e0
    subst f0
    have f1 : b0 = 0 := Nat.eq_of_beq_eq_true e1
    subst f1
    exact ⟨_, _, rfl⟩
theorem tw_X11_judge : ∀ (as : List AV) (h : AH) (K : Int32 → AH → Prop), T_X11_judge as h K → (ini as).length ≤ mNL M_X11_judge ∧ AW M_X11_judge (.inl K) 0 (initL (mNL M_X11_judge) as) [] h 0 0 := by
  intro as h K hk
  match as, hk with
  | [.inr (.inr (.inl q0)), .inl q1, .inl q2, .inl q3], hk =>
    obtain ⟨hb, hk⟩ := tif_inv hk
    simp only [Bool.and_eq_true] at hb
    obtain ⟨e0, e1⟩ := hb
    obtain ⟨a0, b0⟩ := q0
    have f0 : a0 = 15 := Nat.eq_of_beq_eq_true e0
    subst f0
    have f1 : b0 = 0 := Nat.eq_of_beq_eq_true e1
    subst f1
    exact ⟨Nat.le_of_ble_eq_true rfl, snd_X11_judge q1 q2 q3 hk⟩

def nxs (z : Int32) : Int32 := z * (1103515245 : Int32) + nI 12345
def dr (z : Int32) (k : Nat) : Nat := (z.toBitVec.toNat % 2147483648 / 65536) % k
theorem dr_eq (z : Int32) {k : Nat} (h0 : 0 < k) (hk : k < 2147483648) : (z &&& (2147483647 : Int32)) / (65536 : Int32) - (z &&& (2147483647 : Int32)) / (65536 : Int32) / nI k * nI k = nI (dr z k) := by
  rw [pk_and z (m := 2147483647) 31 (by decide), show (65536 : Int32) = nI 65536 from rfl, n_div (by omega) (by omega) (by omega), n_rem (by omega) h0 hk]
  rfl
def S_X11_drawn (n : Int32) (h : AH) (K : Int32 → AH → Prop) : Prop := ∃ k, 0 < k ∧ k < 2147483648 ∧ n = nI k ∧ K (nI (dr (nxs (h.1 15 0 15)) k)) (wI h 15 0 15 (nxs (h.1 15 0 15)))
def T_X11_drawn : List AV → AH → (Int32 → AH → Prop) → Prop := fun as h K => match as with
  | [.inr (.inr (.inl q0)), .inl q1] => tif (Nat.beq q0.1 15 && Nat.beq q0.2 0) (S_X11_drawn q1 h K)
  | _ => False

def M_X11_drawn : MI := (RX11, cX11_drawn, 2, [(0, .aload_n 0, []), (1, .aload_n 0, []), (2, .getfield 232, []), (5, .ldc 235, []), (7, .imul, []), (8, .sipush 12345, []), (11, .iadd, []), (12, .putfield 232, []), (15, .aload_n 0, []), (16, .getfield 232, []), (19, .ldc 236, []), (21, .iand, []), (22, .ldc 237, []), (24, .idiv, []), (25, .iload_n 1, []), (26, .irem, []), (27, .ireturn, [])], [(232, (15, 15, 0, 0, 0))], [(235, 1103515245), (236, 2147483647), (237, 65536)], [], [], 0, 0, 0, 0)
theorem ok_X11_drawn : MOK M_X11_drawn := ⟨by decide +kernel, List.forall_mem_cons.mpr ⟨fl_RX11_232, fun _ h => absurd h List.not_mem_nil⟩, List.forall_mem_cons.mpr ⟨(inG (i := 1282) (w := Cond.constant RX11 235 1103515245) (by decide +kernel) rfl), List.forall_mem_cons.mpr ⟨(inG (i := 1283) (w := Cond.constant RX11 236 2147483647) (by decide +kernel) rfl), List.forall_mem_cons.mpr ⟨(inG (i := 1284) (w := Cond.constant RX11 237 65536) (by decide +kernel) rfl), fun _ h => absurd h List.not_mem_nil⟩⟩⟩, fun _ h => absurd h List.not_mem_nil, fun _ h => absurd h List.not_mem_nil⟩
set_option maxRecDepth 100000 in
theorem vc_X11_drawn {K : Int32 → AH → Prop} {h : AH} (p1 : Int32) (H : (¬ (65536 : Int32) = 0) ∧ (¬ p1 = 0) ∧ K (((((wI h 15 0 15 (((h.1 15 0 15) * (1103515245 : Int32)) + (nI 12345))).1 15 0 15) &&& (2147483647 : Int32)) / (65536 : Int32)) - ((((wI h 15 0 15 (((h.1 15 0 15) * (1103515245 : Int32)) + (nI 12345))).1 15 0 15) &&& (2147483647 : Int32)) / (65536 : Int32)) / p1 * p1) (wI h 15 0 15 (((h.1 15 0 15) * (1103515245 : Int32)) + (nI 12345)))) : AW M_X11_drawn (.inl K) 0 [some (aR 15 0), some (aI p1)] [] h 0 0 := AW_go (cuts := []) ok_X11_drawn 400 H

theorem snd_X11_drawn (n : Int32) {h : AH} {K : Int32 → AH → Prop} (k : S_X11_drawn n h K) : AW M_X11_drawn (.inl K) 0 [some (aR 15 0), some (aI n)] [] h 0 0 := by
  obtain ⟨k, h0, hk, rfl, kk⟩ := k
  refine vc_X11_drawn (nI k) ⟨by decide, fun z => ?_, ?_⟩
  · rw [n_eq0 hk] at z; omega
  · rw [wI_at]
    have := dr_eq (nxs (h.1 15 0 15)) h0 hk
    unfold nxs at this kk
    rw [this]
    exact kk
theorem tr_X11_drawn : ∀ (as : List AV) (h : AH) (K : Int32 → AH → Prop), T_X11_drawn as h K → ∃ (q : Nat) (r : List AV), as = aR 15 q :: r := by
  intro as h K hk
  match as, hk with
  | [.inr (.inr (.inl q0)), .inl q1], hk =>
    obtain ⟨hb, hk⟩ := tif_inv hk
    simp only [Bool.and_eq_true] at hb
    obtain ⟨e0, e1⟩ := hb
    obtain ⟨a0, b0⟩ := q0
    have f0 : a0 = 15 := Nat.eq_of_beq_eq_true e0
    subst f0
    have f1 : b0 = 0 := Nat.eq_of_beq_eq_true e1
    subst f1
    exact ⟨_, _, rfl⟩
theorem tw_X11_drawn : ∀ (as : List AV) (h : AH) (K : Int32 → AH → Prop), T_X11_drawn as h K → (ini as).length ≤ mNL M_X11_drawn ∧ AW M_X11_drawn (.inl K) 0 (initL (mNL M_X11_drawn) as) [] h 0 0 := by
  intro as h K hk
  match as, hk with
  | [.inr (.inr (.inl q0)), .inl q1], hk =>
    obtain ⟨hb, hk⟩ := tif_inv hk
    simp only [Bool.and_eq_true] at hb
    obtain ⟨e0, e1⟩ := hb
    obtain ⟨a0, b0⟩ := q0
    have f0 : a0 = 15 := Nat.eq_of_beq_eq_true e0
    subst f0
    have f1 : b0 = 0 := Nat.eq_of_beq_eq_true e1
    subst f1
    exact ⟨Nat.le_of_ble_eq_true rfl, snd_X11_drawn q1 hk⟩
theorem cr_RX11_714 : CR RX11 (kIns 714) (2, 1, 21, 0, 0, .inl T_X11_drawn) := crV_i (t := 15) (M := M_X11_drawn) (by decide) rfl (by decide) rfl (inG (i := 1278) (w := Cond.methodLink RX11 238 yX11_drawn) (by decide +kernel) rfl) (inG (i := 1280) (w := Cond.instanceMethod yX11_drawn) (by decide +kernel) rfl) (inG (i := 40) (w := Cond.initialized RX11) (by decide +kernel) rfl) (inG (i := 35) (w := Cond.selects RX11 yX11_drawn yX11_drawn) (by decide +kernel) rfl) (inG (i := 1281) (w := Cond.code yX11_drawn cX11_drawn 2 (some .int)) (by decide +kernel) rfl) ⟨by decide +kernel, by decide +kernel, by decide +kernel⟩ tr_X11_drawn tw_X11_drawn

def ss (V : Vm) : Nat → Int32 × Nat × Nat × Vm → Int32 × Nat × Nat × Vm
  | 0, p => p
  | k + 1, p => (nxs (nxs (ss V k p).1), (ss V k p).2.1 + brg (ss V k p).2.2.2 (dr (nxs (ss V k p).1) (V 10 1)) (dr (nxs (nxs (ss V k p).1)) (1 + vFl V (dr (nxs (ss V k p).1) (V 10 1)))), (ss V k p).2.2.1 + (if eat (ss V k p).2.2.2 (dr (nxs (ss V k p).1) (V 10 1)) (dr (nxs (nxs (ss V k p).1)) (1 + vFl V (dr (nxs (ss V k p).1) (V 10 1)))) then 1 else 0), thr (ss V k p).2.2.2 (dr (nxs (ss V k p).1) (V 10 1)) (dr (nxs (nxs (ss V k p).1)) (1 + vFl V (dr (nxs (ss V k p).1) (V 10 1)))))
def sea (V : Vm) (z : Int32) : Nat → Int32 × Nat × Nat
  | 0 => (z, 0, 0)
  | k + 1 => ((ss V 10 ((sea V z k).1, (sea V z k).2.1, (sea V z k).2.2, V)).1, (ss V 10 ((sea V z k).1, (sea V z k).2.1, (sea V z k).2.2, V)).2.1, (ss V 10 ((sea V z k).1, (sea V z k).2.1, (sea V z k).2.2, V)).2.2.1)
theorem ss_ok {V : Vm} {p : Int32 × Nat × Nat × Vm} (hV : WF V) (hs : 0 < V 10 1) (hw : WF p.2.2.2) (h1 : p.2.2.2 10 1 = V 10 1) : ∀ k, WF (ss V k p).2.2.2 ∧ (ss V k p).2.2.2 10 1 = V 10 1
  | 0 => ⟨hw, h1⟩
  | k + 1 => by
    obtain ⟨a, b⟩ := ss_ok hV hs hw h1 k
    have hd : dr (nxs (nxs (ss V k p).1)) (1 + vFl V (dr (nxs (ss V k p).1) (V 10 1))) < 8 := by
      have := fly_le (V 8 (dr (nxs (ss V k p).1) (V 10 1)))
      have h2 : dr (nxs (nxs (ss V k p).1)) (1 + vFl V (dr (nxs (ss V k p).1) (V 10 1))) < 1 + vFl V (dr (nxs (ss V k p).1) (V 10 1)) := Nat.mod_lt _ (by omega)
      have h3 : vFl V (dr (nxs (ss V k p).1) (V 10 1)) ≤ 7 := this
      omega
    exact ⟨WF_thr a hd, by show thr _ _ _ 10 1 = _; rw [thr_10 (by omega), b]⟩
def R_seasons (V : Vm) (n z w : Int32) : Int32 := if ¬ (nI 1 ≤ n ∧ n ≤ nI 20) ∨ ¬ w01 w then iI (-1) else if V 10 1 = 0 then iI (-3) else if w = 0 then nI (sea V z (nN n)).2.1 else nI (sea V z (nN n)).2.2
def S_X11_seasons (n z w : Int32) (h : AH) (K : Int32 → AH → Prop) : Prop := ∃ V, RV (h.1 16 0) V ∧ WF V ∧ ∀ h', keepM h h' → K (R_seasons V n z w) h'
def T_X11_seasons : List AV → AH → (Int32 → AH → Prop) → Prop := fun as h K => match as with
  | [.inr (.inr (.inl q0)), .inl q1, .inl q2, .inl q3] => tif (Nat.beq q0.1 15 && Nat.beq q0.2 0) (S_X11_seasons q1 q2 q3 h K)
  | _ => False

def M_X11_seasons : MI := (RX11, cX11_seasons, 10, [(0, .iload_n 1, []), (1, .iconst 1, []), (2, .bipush 20, []), (4, .invokestatic 53, []), (7, .ifCond .eq 12, [19]), (10, .iload_n 3, []), (11, .iconst 0, []), (12, .iconst 1, []), (13, .invokestatic 53, []), (16, .ifCond .ne 5, [21]), (19, .iconst (-1), []), (20, .ireturn, []), (21, .aload_n 0, []), (22, .getfield 9, []), (25, .iconst 1, []), (26, .iaload, []), (27, .ifCond .ne 6, [33]), (30, .bipush (-3), []), (32, .ireturn, []), (33, .aload_n 0, []), (34, .iload_n 2, []), (35, .putfield 232, []), (38, .iconst 0, []), (39, .istore 4, []), (41, .iconst 0, []), (42, .istore 5, []), (44, .iconst 0, []), (45, .istore 6, []), (47, .iload 6, []), (49, .iload_n 1, []), (50, .if_icmp .ge 105, [155]), (53, .aload_n 0, []), (54, .getfield 9, []), (57, .aload_n 0, []), (58, .getfield 13, []), (61, .invokestatic 148, []), (64, .iconst 0, []), (65, .istore 7, []), (67, .iload 7, []), (69, .bipush 10, []), (71, .if_icmp .ge 78, [149]), (74, .aload_n 0, []), (75, .aload_n 0, []), (76, .getfield 9, []), (79, .iconst 1, []), (80, .iaload, []), (81, .invokevirtual 238, []), (84, .istore 8, []), (86, .aload_n 0, []), (87, .iconst 1, []), (88, .aload_n 0, []), (89, .getfield 9, []), (92, .iload 8, []), (94, .invokestatic 135, []), (97, .iadd, []), (98, .invokevirtual 238, []), (101, .istore 9, []), (103, .iload 5, []), (105, .aload_n 0, []), (106, .getfield 13, []), (109, .iload 8, []), (111, .iload 9, []), (113, .invokestatic 78, []), (116, .ifCond .eq 7, [123]), (119, .iconst 1, []), (120, .goto 4, [124]), (123, .iconst 0, []), (124, .iadd, []), (125, .istore 5, []), (127, .iload 4, []), (129, .aload_n 0, []), (130, .getfield 13, []), (133, .iload 8, []), (135, .iload 9, []), (137, .invokestatic 138, []), (140, .iadd, []), (141, .istore 4, []), (143, .iinc 7 1, []), (146, .goto (-79), [67]), (149, .iinc 6 1, []), (152, .goto (-105), [47]), (155, .iload_n 3, []), (156, .ifCond .ne 8, [164]), (159, .iload 4, []), (161, .goto 5, [166]), (164, .iload 5, []), (166, .ireturn, [])], [(9, (15, 0, 1, 16, 0)), (232, (15, 15, 0, 0, 0)), (13, (15, 1, 1, 16, 1))], [], [], [(160, (3, 1, 22, 0, 0, .inl T_X11_isIn)), (445, (2, 1, 22, 0, 0, .inr (.inl T_X11_copies))), (714, (2, 1, 21, 0, 0, .inl T_X11_drawn)), (406, (2, 2, 42, 0, 0, .inl T_X11_flies)), (235, (3, 3, 65, 0, 0, .inl T_X11_isEaten)), (415, (3, 5, 116, 0, 0, .inl T_X11_throwIn))], 5, 116, 0, 0)
theorem ok_X11_seasons : MOK M_X11_seasons := ⟨by decide +kernel, List.forall_mem_cons.mpr ⟨fl_RX11_9, List.forall_mem_cons.mpr ⟨fl_RX11_232, List.forall_mem_cons.mpr ⟨fl_RX11_13, fun _ h => absurd h List.not_mem_nil⟩⟩⟩, fun _ h => absurd h List.not_mem_nil, fun _ h => absurd h List.not_mem_nil, List.forall_mem_cons.mpr ⟨⟨Nat.le_of_ble_eq_true rfl, Nat.le_of_ble_eq_true rfl, cr_RX11_160⟩, List.forall_mem_cons.mpr ⟨⟨Nat.le_of_ble_eq_true rfl, Nat.le_of_ble_eq_true rfl, cr_RX11_445⟩, List.forall_mem_cons.mpr ⟨⟨Nat.le_of_ble_eq_true rfl, Nat.le_of_ble_eq_true rfl, cr_RX11_714⟩, List.forall_mem_cons.mpr ⟨⟨Nat.le_of_ble_eq_true rfl, Nat.le_of_ble_eq_true rfl, cr_RX11_406⟩, List.forall_mem_cons.mpr ⟨⟨Nat.le_of_ble_eq_true rfl, Nat.le_of_ble_eq_true rfl, cr_RX11_235⟩, List.forall_mem_cons.mpr ⟨⟨Nat.le_of_ble_eq_true rfl, Nat.le_of_ble_eq_true rfl, cr_RX11_415⟩, fun _ h => absurd h List.not_mem_nil⟩⟩⟩⟩⟩⟩⟩
set_option maxRecDepth 100000 in
theorem vc_X11_seasons {K : Int32 → AH → Prop} {h : AH} (p1 : Int32) (p2 : Int32) (p3 : Int32) (H : S_X11_isIn p1 (nI 1) (nI 20) h (fun x2 h1 => ((x2 = 0) → K (iI (-1)) h1) ∧ (¬ (x2 = 0) → S_X11_isIn p3 (nI 0) (nI 1) h1 (fun x4 h3 => ((¬ x4 = 0) → inR (nI 1) 62 ∧ ((¬ (h3.1 16 0 (nI 1).toNatClampNeg) = 0) → AW M_X11_seasons (.inl K) 47 [some (aR 15 0), some (aI p1), none, some (aI p3), some (aI (nI 0)), some (aI (nI 0)), some (aI (nI 0)), none, none, none] [] (wI h3 15 0 15 p2) 0 0) ∧ (¬ (¬ (h3.1 16 0 (nI 1).toNatClampNeg) = 0) → K (iI (-3)) h3)) ∧ (¬ (¬ x4 = 0) → K (iI (-1)) h3))))) : AW M_X11_seasons (.inl K) 0 [some (aR 15 0), some (aI p1), some (aI p2), some (aI p3), none, none, none, none, none, none] [] h 0 0 := AW_go (cuts := [(47, [true, true, false, true, true, true, true, false, false, false]), (67, [true, true, false, true, true, true, true, true, false, false])]) ok_X11_seasons 400 H
set_option maxRecDepth 100000 in
theorem vc_X11_seasons_47 {K : Int32 → AH → Prop} {h : AH}  (l1 : Int32) (l3 : Int32) (l4 : Int32) (l5 : Int32) (l6 : Int32) (H : ((l1 ≤ l6) → ((¬ l3 = 0) → K l5 h) ∧ (¬ (¬ l3 = 0) → K l4 h)) ∧ (¬ (l1 ≤ l6) → S_X11_copies 0 1 h (fun h1 => AW M_X11_seasons (.inl K) 67 [some (aR 15 0), some (aI l1), none, some (aI l3), some (aI l4), some (aI l5), some (aI l6), some (aI (nI 0)), none, none] [] h1 0 0))) : AW M_X11_seasons (.inl K) 47 [some (aR 15 0), some (aI l1), none, some (aI l3), some (aI l4), some (aI l5), some (aI l6), none, none, none] [] h 0 0 := AW_go (cuts := [(47, [true, true, false, true, true, true, true, false, false, false]), (67, [true, true, false, true, true, true, true, true, false, false])]) ok_X11_seasons 400 H
set_option maxRecDepth 100000 in
theorem vc_X11_seasons_67 {K : Int32 → AH → Prop} {h : AH}  (l1 : Int32) (l3 : Int32) (l4 : Int32) (l5 : Int32) (l6 : Int32) (l7 : Int32) (H : (((nI 10) ≤ l7) → AW M_X11_seasons (.inl K) 47 [some (aR 15 0), some (aI l1), none, some (aI l3), some (aI l4), some (aI l5), some (aI (l6 + (nI 1))), none, none, none] [] h 0 0) ∧ (¬ ((nI 10) ≤ l7) → inR (nI 1) 62 ∧ S_X11_drawn (h.1 16 0 (nI 1).toNatClampNeg) h (fun x2 h1 => S_X11_flies 0 x2 h1 (fun x4 h3 => S_X11_drawn ((nI 1) + x4) h3 (fun x6 h5 => S_X11_isEaten 1 x2 x6 h5 (fun x8 h7 => ((x8 = 0) → S_X11_throwIn 1 x2 x6 h7 (fun x10 h9 => AW M_X11_seasons (.inl K) 67 [some (aR 15 0), some (aI l1), none, some (aI l3), some (aI (l4 + x10)), some (aI (l5 + (nI 0))), some (aI l6), some (aI (l7 + (nI 1))), none, none] [] h9 0 0)) ∧ (¬ (x8 = 0) → S_X11_throwIn 1 x2 x6 h7 (fun x12 h11 => AW M_X11_seasons (.inl K) 67 [some (aR 15 0), some (aI l1), none, some (aI l3), some (aI (l4 + x12)), some (aI (l5 + (nI 1))), some (aI l6), some (aI (l7 + (nI 1))), none, none] [] h11 0 0)))))))) : AW M_X11_seasons (.inl K) 67 [some (aR 15 0), some (aI l1), none, some (aI l3), some (aI l4), some (aI l5), some (aI l6), some (aI l7), none, none] [] h 0 0 := AW_go (cuts := [(47, [true, true, false, true, true, true, true, false, false, false]), (67, [true, true, false, true, true, true, true, true, false, false])]) ok_X11_seasons 400 H

theorem lp_X11_seasons {V : Vm} {N : Nat} {z w : Int32} {h0 : AH} {K : Int32 → AH → Prop} (hr : RV (h0.1 16 0) V) (hw : WF V) (hs : 0 < V 10 1) (hN : N ≤ 20) (k : ∀ h', keepM h0 h' → K (if w = 0 then nI (sea V z N).2.1 else nI (sea V z N).2.2) h') : ∀ r c h, c + r = N → keepM h0 h → h.1 15 0 15 = (sea V z c).1 → AW M_X11_seasons (.inl K) 47 [some (aR 15 0), some (aI (nI N)), none, some (aI w), some (aI (nI (sea V z c).2.1)), some (aI (nI (sea V z c).2.2)), some (aI (nI c)), none, none, none] [] h 0 0 := by
  have h7 := hw.2.1
  intro r
  induction r with
  | zero =>
    intro c h hc hk hz
    refine vc_X11_seasons_47 (nI N) w _ _ (nI c) ?_
    have : c = N := by omega
    subst this
    simp (disch := omega) only [n_le]
    have := k h hk
    refine ⟨fun _ => ⟨fun q => ?_, fun q => ?_⟩, fun q => absurd (by omega) q⟩
    · rw [if_neg q] at this; exact this
    · rw [if_pos (Decidable.not_not.mp q)] at this; exact this
  | succ r ih =>
    intro c h hc hk hz
    refine vc_X11_seasons_47 (nI N) w _ _ (nI c) ?_
    simp (disch := omega) only [n_le]
    refine ⟨fun q => by omega, fun _ => ⟨by decide, fun h2 o2 c2 => ?_⟩⟩
    have hr2 : RV (h2.1 16 1) V := RV_cp hw hr (fun i hi => by rw [c2 i hi, keepM_r0 hk])
    have k2 := keepM_tr hk (keepM_o (by decide) (by decide) o2)
    have z2 : h2.1 15 0 15 = (sea V z c).1 := by rw [o2.2 15 0 (by omega)]; exact hz
    have inner : ∀ r2 e h, e + r2 = 10 → keepM h0 h → RV (h.1 16 1) (ss V e ((sea V z c).1, (sea V z c).2.1, (sea V z c).2.2, V)).2.2.2 → h.1 15 0 15 = (ss V e ((sea V z c).1, (sea V z c).2.1, (sea V z c).2.2, V)).1 → AW M_X11_seasons (.inl K) 67 [some (aR 15 0), some (aI (nI N)), none, some (aI w), some (aI (nI (ss V e ((sea V z c).1, (sea V z c).2.1, (sea V z c).2.2, V)).2.1)), some (aI (nI (ss V e ((sea V z c).1, (sea V z c).2.1, (sea V z c).2.2, V)).2.2.1)), some (aI (nI c)), some (aI (nI e)), none, none] [] h 0 0 := by
      intro r2
      induction r2 with
      | zero =>
        intro e h he hk hr hz
        refine vc_X11_seasons_67 (nI N) w _ _ (nI c) (nI e) ?_
        have : e = 10 := by omega
        subst this
        simp (disch := omega) only [n_le, nI_add]
        exact ⟨fun _ => ih (c + 1) h (by omega) hk hz, fun q => absurd (by omega) q⟩
      | succ r2 ih2 =>
        intro e h he hk hr' hz
        refine vc_X11_seasons_67 (nI N) w _ _ (nI c) (nI e) ?_
        have ih2 := ih2 (e + 1)
        rw [ss] at ih2
        obtain ⟨so1, so2⟩ := ss_ok (p := ((sea V z c).1, (sea V z c).2.1, (sea V z c).2.2, V)) hw hs hw rfl e
        generalize ss V e ((sea V z c).1, (sea V z c).2.1, (sea V z c).2.2, V) = P at *
        have hrs := hr
        rw [← keepM_r0 hk] at hrs
        have e1 := (RVs hrs).2.2.2.2.2.2.2.2.2.2.2.1
        have ha : dr (nxs P.1) (V 10 1) < V 10 1 := Nat.mod_lt _ hs
        simp (disch := omega) only [n_inT, n_cl, true_and, e1, n_le, nI_add]
        refine ⟨fun q => by omega, fun _ => ⟨V 10 1, hs, by omega, rfl, ?_⟩⟩
        rw [hz]
        generalize hA : dr (nxs P.1) (V 10 1) = A at *
        have k1 : keepM h0 (wI h 15 0 15 (nxs P.1)) := keepM_tr hk (keepM_w (by omega))
        have hr1 := hr
        rw [← keepM_r0 k1] at hr1
        have hf : vFl V A ≤ 7 := fly_le _
        refine ⟨V, A, ⟨hr1, hw, ha, rfl⟩, 1 + vFl V A, by omega, by omega, by rw [nI_add], ?_⟩
        rw [wI_at]
        have hC : dr (nxs (nxs P.1)) (1 + vFl V A) < 1 + vFl V A := Nat.mod_lt _ (by omega)
        generalize hCe : dr (nxs (nxs P.1)) (1 + vFl V A) = C at *
        have k3 : keepM h0 (wI (wI h 15 0 15 (nxs P.1)) 15 0 15 (nxs (nxs P.1))) := keepM_tr k1 (keepM_w (by omega))
        have r3 : (wI (wI h 15 0 15 (nxs P.1)) 15 0 15 (nxs (nxs P.1))).1 16 1 = h.1 16 1 := by
          funext i
          show uI (uI h.1 15 0 15 (nxs P.1)) 15 0 15 (nxs (nxs P.1)) 16 1 i = _
          rw [uI_nt (by omega), uI_nt (by omega)]
        generalize hh3 : wI (wI h 15 0 15 (nxs P.1)) 15 0 15 (nxs (nxs P.1)) = h3 at *
        have z3 : h3.1 15 0 15 = nxs (nxs P.1) := by rw [← hh3]; exact wI_at ..
        rw [← r3] at hr'
        have hp : rPre 1 (nI A) h3 P.2.2.2 A := ⟨hr', so1, by rw [so2]; exact ha, rfl⟩
        refine ⟨P.2.2.2, A, C, hp, by omega, rfl, ?_⟩
        simp only [if10_eq]
        refine ⟨fun q => ⟨P.2.2.2, A, C, hp, by omega, rfl, fun h4 o4 q4 => ?_⟩, fun q => ⟨P.2.2.2, A, C, hp, by omega, rfl, fun h4 o4 q4 => ?_⟩⟩
        · have := ih2 h4 (by omega) (keepM_tr k3 (keepM_o (by decide) (by decide) o4)) q4 (by rw [o4.2 15 0 (by omega), z3])
          rw [if_neg q] at this
          dsimp only
          rw [nI_add]
          exact this
        · have := ih2 h4 (by omega) (keepM_tr k3 (keepM_o (by decide) (by decide) o4)) q4 (by rw [o4.2 15 0 (by omega), z3])
          rw [if_pos (Decidable.not_not.mp q)] at this
          dsimp only
          rw [nI_add]
          exact this
    exact inner 10 0 h2 (by omega) k2 hr2 z2
theorem snd_X11_seasons (n z w : Int32) {h : AH} {K : Int32 → AH → Prop} (k : S_X11_seasons n z w h K) : AW M_X11_seasons (.inl K) 0 [some (aR 15 0), some (aI n), some (aI z), some (aI w), none, none, none, none, none, none] [] h 0 0 := by
  obtain ⟨V, hr, hw, k⟩ := k
  have h7 := hw.2.1
  refine vc_X11_seasons n z w ?_
  unfold S_X11_isIn
  simp only [if10_eq]
  unfold R_seasons at k
  have e1 := (RVs hr).2.2.2.2.2.2.2.2.2.2.2.1
  simp (disch := omega) only [n_inT, n_cl, true_and, e1, n_eq0]
  refine ⟨fun q => ?_, fun q => ⟨fun q2 => ⟨fun q3 => ?_, fun q3 => ?_⟩, fun q2 => ?_⟩⟩
  · rw [if_pos (Or.inl q)] at k; exact k h (keepM_rfl h)
  · have q := Decidable.not_not.mp q
    rw [if_neg (by rintro (y | y); exact y q; exact q2 y), if_neg q3] at k
    have h0 : nI 0 ≤ n := Int32.le_iff_toInt_le.mpr (by have := Int32.le_iff_toInt_le.mp q.1; rw [n_toInt (by omega)] at this ⊢; omega)
    obtain ⟨i, hi, rfl⟩ := n_of (by omega) h0 q.2
    unfold nN at k
    rw [n_cl (by omega)] at k
    exact lp_X11_seasons (h0 := h) hr hw (by omega) hi k i 0 _ (by omega) (keepM_w (by omega)) (wI_at ..)
  · have q := Decidable.not_not.mp q
    rw [if_neg (by rintro (y | y); exact y q; exact q2 y), if_pos (Decidable.not_not.mp q3)] at k; exact k h (keepM_rfl h)
  · rw [if_pos (Or.inr (fun y => q2 (fun x => x y)))] at k; exact k h (keepM_rfl h)
theorem tr_X11_seasons : ∀ (as : List AV) (h : AH) (K : Int32 → AH → Prop), T_X11_seasons as h K → ∃ (q : Nat) (r : List AV), as = aR 15 q :: r := by
  intro as h K hk
  match as, hk with
  | [.inr (.inr (.inl q0)), .inl q1, .inl q2, .inl q3], hk =>
    obtain ⟨hb, hk⟩ := tif_inv hk
    simp only [Bool.and_eq_true] at hb
    obtain ⟨e0, e1⟩ := hb
    obtain ⟨a0, b0⟩ := q0
    have f0 : a0 = 15 := Nat.eq_of_beq_eq_true e0
    subst f0
    have f1 : b0 = 0 := Nat.eq_of_beq_eq_true e1
    subst f1
    exact ⟨_, _, rfl⟩
theorem tw_X11_seasons : ∀ (as : List AV) (h : AH) (K : Int32 → AH → Prop), T_X11_seasons as h K → (ini as).length ≤ mNL M_X11_seasons ∧ AW M_X11_seasons (.inl K) 0 (initL (mNL M_X11_seasons) as) [] h 0 0 := by
  intro as h K hk
  match as, hk with
  | [.inr (.inr (.inl q0)), .inl q1, .inl q2, .inl q3], hk =>
    obtain ⟨hb, hk⟩ := tif_inv hk
    simp only [Bool.and_eq_true] at hb
    obtain ⟨e0, e1⟩ := hb
    obtain ⟨a0, b0⟩ := q0
    have f0 : a0 = 15 := Nat.eq_of_beq_eq_true e0
    subst f0
    have f1 : b0 = 0 := Nat.eq_of_beq_eq_true e1
    subst f1
    exact ⟨Nat.le_of_ble_eq_true rfl, snd_X11_seasons q1 q2 q3 hk⟩


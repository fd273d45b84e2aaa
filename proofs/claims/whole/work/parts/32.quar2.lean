/-! ===== the reference: quarrels ===== -/
def rch (w : Nat → Nat) : Nat → Nat
  | 0 => 0
  | k + 1 => if w (rch w k) < w (k + 1) then k + 1 else rch w k
def mx4 (w : Nat → Nat) : Nat := max (max (w 0) (w 1)) (max (w 2) (w 3))
def mn4 (w : Nat → Nat) : Nat := min (min (w 0) (w 1)) (min (w 2) (w 3))
theorem rch_le (w : Nat → Nat) : ∀ k, rch w k ≤ k
  | 0 => Nat.le_refl _
  | k + 1 => by
    have := rch_le w k
    unfold rch
    split <;> omega
/-- what stands over the upper share, what lacks to the lower -/
def ov (w : Nat → Nat) : Nat := sm (fun n => w n - sm w 4 / 4 - 1) 4
def la (w : Nat → Nat) : Nat := sm (fun n => sm w 4 / 4 - w n) 4
def mvS (s : Nat → Nat) (t i : Nat) : Nat := s i - t / 4 - if t % 4 ≤ i then 0 else 1
theorem cx_p (f : Nat → Nat) {x y : Nat} : f (max x y) + f (min x y) = f x + f y := by
  by_cases q : x ≤ y
  · rw [Nat.max_eq_right q, Nat.min_eq_left q, Nat.add_comm]
  · rw [Nat.max_eq_left (by omega), Nat.min_eq_right (by omega)]
theorem cx_s (f g : Nat → Nat) {i j : Nat} (hij : i < j) (hj : j < 4) : sm (fun k => f (cx g i j k)) 4 = sm (fun k => f (g k)) 4 := by
  have hp := cx_p f (x := g i) (y := g j)
  have h1 : j = 1 ∨ j = 2 ∨ j = 3 := by omega
  have h0 : i = 0 ∨ i = 1 ∨ i = 2 := by omega
  rcases h1 with rfl | rfl | rfl <;> rcases h0 with rfl | rfl | rfl <;> first | omega | (simp [sm, cx]; omega)
theorem srt_s (f w : Nat → Nat) : sm (fun k => f (srt w k)) 4 = sm (fun k => f (w k)) 4 := by
  unfold srt
  rw [cx_s f _ (by omega) (by omega), cx_s f _ (by omega) (by omega), cx_s f _ (by omega) (by omega), cx_s f _ (by omega) (by omega), cx_s f _ (by omega) (by omega), cx_s f _ (by omega) (by omega)]
theorem sm4 (f : Nat → Nat) : sm f 4 = f 0 + f 1 + f 2 + f 3 := by simp [sm]
theorem srt_e (w : Nat → Nat) : ∃ b1 c1 d1 b2 c2 d2, srt w 0 = mx4 w ∧ (srt w 0 ≥ b1 ∧ srt w 0 ≥ c1 ∧ srt w 0 ≥ d1) ∧ b2 = max b1 c1 ∧ c2 = min b1 c1 ∧ srt w 1 = max b2 d1 ∧ d2 = min b2 d1 ∧ srt w 2 = max c2 d2 ∧ srt w 3 = min c2 d2 ∧ min (srt w 0) (min (min b1 c1) d1) = mn4 w := by
  refine ⟨min (w 0) (w 1), min (max (w 0) (w 1)) (w 2), min (max (max (w 0) (w 1)) (w 2)) (w 3), _, _, _, ?_, ?_, rfl, rfl, ?_, rfl, ?_, ?_, ?_⟩
  · simp [srt, cx, mx4]; try omega
  · have : srt w 0 = max (max (max (w 0) (w 1)) (w 2)) (w 3) := by simp [srt, cx]
    rw [this]; omega
  · simp [srt, cx]
  · simp [srt, cx]
  · simp [srt, cx]
  · have : srt w 0 = max (max (max (w 0) (w 1)) (w 2)) (w 3) := by simp [srt, cx]
    rw [this]; unfold mn4; omega
theorem srt_o (w : Nat → Nat) : srt w 0 = mx4 w ∧ srt w 3 = mn4 w ∧ srt w 1 ≤ srt w 0 ∧ srt w 2 ≤ srt w 1 ∧ srt w 3 ≤ srt w 2 := by
  obtain ⟨b1, c1, d1, b2, c2, d2, h1, h2, h3, h4, h5, h6, h7, h8, h9⟩ := srt_e w
  refine ⟨h1, ?_, ?_, ?_, ?_⟩ <;> omega
theorem mv_e {a b c d t q r : Nat} (h1 : b ≤ a) (h2 : c ≤ b) (h3 : d ≤ c) (ht : a + b + c + d = t) (hq : t = 4 * q + r) (hr : r < 4) : (a - q - if r ≤ 0 then 0 else 1) + (b - q - if r ≤ 1 then 0 else 1) + (c - q - if r ≤ 2 then 0 else 1) + (d - q - if r ≤ 3 then 0 else 1) = max ((a - q - 1) + (b - q - 1) + (c - q - 1) + (d - q - 1)) ((q - a) + (q - b) + (q - c) + (q - d)) := by
  have : r = 0 ∨ r = 1 ∨ r = 2 ∨ r = 3 := by omega
  by_cases z1 : a ≤ q <;> by_cases z2 : b ≤ q <;> by_cases z3 : c ≤ q <;> by_cases z4 : d ≤ q <;> rcases this with rfl | rfl | rfl | rfl <;> simp <;> omega
theorem mv_s (w : Nat → Nat) : sm (mvS (srt w) (sm w 4)) 4 = max (ov w) (la w) := by
  obtain ⟨h1, h2, h3, h4, h5⟩ := srt_o w
  have e0 := srt_s (fun x => x) w
  have e1 := srt_s (fun x => x - sm w 4 / 4 - 1) w
  have e2 := srt_s (fun x => sm w 4 / 4 - x) w
  have := mv_e h3 h4 h5 (t := sm w 4) (q := sm w 4 / 4) (r := sm w 4 % 4) (by rw [sm4] at e0; exact e0) (by omega) (by omega)
  rw [sm4] at e1 e2
  unfold ov la
  rw [← e1, ← e2, ← this, sm4]
  rfl
def R_quarrel (V : Vm) (w : Int32) : Int32 := if ¬ (nI 0 ≤ w ∧ w ≤ nI 2) then iI (-1) else if w = nI 1 then nI (rch (V 3) 3) else if w = 0 then nI (mx4 (V 3) - mn4 (V 3)) else nI (max (ov (V 3)) (la (V 3)))
def S_X11_quarrel (w : Int32) (h : AH) (K : Int32 → AH → Prop) : Prop := ∃ V, RV (h.1 16 0) V ∧ WF V ∧ (∀ n, n < 4 → V 3 n < 500000000) ∧ ∀ h', keepM h h' → K (R_quarrel V w) h'
def T_X11_quarrel : List AV → AH → (Int32 → AH → Prop) → Prop := fun as h K => match as with
  | [.inr (.inr (.inl q0)), .inl q1] => tif (Nat.beq q0.1 15 && Nat.beq q0.2 0) (S_X11_quarrel q1 h K)
  | _ => False

def M_X11_quarrel : MI := (RX11, cX11_quarrel, 6, [(0, .iload_n 1, []), (1, .iconst 0, []), (2, .iconst 2, []), (3, .invokestatic 53, []), (6, .ifCond .ne 5, [11]), (9, .iconst (-1), []), (10, .ireturn, []), (11, .iconst 0, []), (12, .istore_n 2, []), (13, .iconst 1, []), (14, .istore_n 3, []), (15, .iload_n 3, []), (16, .iconst 4, []), (17, .if_icmp .ge 32, [49]), (20, .aload_n 0, []), (21, .getfield 9, []), (24, .bipush 44, []), (26, .iload_n 3, []), (27, .iadd, []), (28, .iaload, []), (29, .aload_n 0, []), (30, .getfield 9, []), (33, .bipush 44, []), (35, .iload_n 2, []), (36, .iadd, []), (37, .iaload, []), (38, .if_icmp .le 5, [43]), (41, .iload_n 3, []), (42, .istore_n 2, []), (43, .iinc 3 1, []), (46, .goto (-31), [15]), (49, .iload_n 1, []), (50, .iconst 1, []), (51, .if_icmp .ne 5, [56]), (54, .iload_n 2, []), (55, .ireturn, []), (56, .aload_n 0, []), (57, .invokevirtual 222, []), (60, .iload_n 1, []), (61, .ifCond .ne 17, [78]), (64, .aload_n 0, []), (65, .getfield 32, []), (68, .iconst 0, []), (69, .iaload, []), (70, .aload_n 0, []), (71, .getfield 32, []), (74, .iconst 3, []), (75, .iaload, []), (76, .isub, []), (77, .ireturn, []), (78, .iconst 0, []), (79, .istore_n 3, []), (80, .iconst 0, []), (81, .istore 4, []), (83, .iload 4, []), (85, .iconst 4, []), (86, .if_icmp .ge 19, [105]), (89, .iload_n 3, []), (90, .aload_n 0, []), (91, .getfield 32, []), (94, .iload 4, []), (96, .iaload, []), (97, .iadd, []), (98, .istore_n 3, []), (99, .iinc 4 1, []), (102, .goto (-19), [83]), (105, .iconst 0, []), (106, .istore 4, []), (108, .iconst 0, []), (109, .istore 5, []), (111, .iload 5, []), (113, .iconst 4, []), (114, .if_icmp .ge 43, [157]), (117, .iload 4, []), (119, .iconst 0, []), (120, .aload_n 0, []), (121, .getfield 32, []), (124, .iload 5, []), (126, .iaload, []), (127, .iload_n 3, []), (128, .iconst 4, []), (129, .idiv, []), (130, .isub, []), (131, .iload 5, []), (133, .iload_n 3, []), (134, .iconst 4, []), (135, .irem, []), (136, .if_icmp .ge 7, [143]), (139, .iconst 1, []), (140, .goto 4, [144]), (143, .iconst 0, []), (144, .isub, []), (145, .invokestatic 88, []), (148, .iadd, []), (149, .istore 4, []), (151, .iinc 5 1, []), (154, .goto (-43), [111]), (157, .iload 4, []), (159, .ireturn, [])], [(9, (15, 0, 1, 16, 0)), (32, (15, 14, 1, 20, 0))], [], [], [(160, (3, 1, 22, 0, 0, .inl T_X11_isIn)), (666, (1, 2, 44, 0, 0, .inr (.inl T_X11_sorts))), (265, (2, 1, 21, 0, 0, .inl T_X11_most))], 2, 44, 0, 0)
theorem ok_X11_quarrel : MOK M_X11_quarrel := ⟨by decide +kernel, List.forall_mem_cons.mpr ⟨fl_RX11_9, List.forall_mem_cons.mpr ⟨fl_RX11_32, fun _ h => absurd h List.not_mem_nil⟩⟩, fun _ h => absurd h List.not_mem_nil, fun _ h => absurd h List.not_mem_nil, List.forall_mem_cons.mpr ⟨⟨Nat.le_of_ble_eq_true rfl, Nat.le_of_ble_eq_true rfl, cr_RX11_160⟩, List.forall_mem_cons.mpr ⟨⟨Nat.le_of_ble_eq_true rfl, Nat.le_of_ble_eq_true rfl, cr_RX11_666⟩, List.forall_mem_cons.mpr ⟨⟨Nat.le_of_ble_eq_true rfl, Nat.le_of_ble_eq_true rfl, cr_RX11_265⟩, fun _ h => absurd h List.not_mem_nil⟩⟩⟩⟩
set_option maxRecDepth 100000 in
theorem vc_X11_quarrel {K : Int32 → AH → Prop} {h : AH} (p1 : Int32) (H : S_X11_isIn p1 (nI 0) (nI 2) h (fun x2 h1 => ((¬ x2 = 0) → AW M_X11_quarrel (.inl K) 15 [some (aR 15 0), some (aI p1), some (aI (nI 0)), some (aI (nI 1)), none, none] [] h1 0 0) ∧ (¬ (¬ x2 = 0) → K (iI (-1)) h1))) : AW M_X11_quarrel (.inl K) 0 [some (aR 15 0), some (aI p1), none, none, none, none] [] h 0 0 := AW_go (cuts := [(15, [true, true, true, true, false, false]), (83, [true, false, false, true, true, false]), (111, [true, false, false, true, true, true])]) ok_X11_quarrel 400 H
set_option maxRecDepth 100000 in
theorem vc_X11_quarrel_15 {K : Int32 → AH → Prop} {h : AH}  (l1 : Int32) (l2 : Int32) (l3 : Int32) (H : (((nI 4) ≤ l3) → ((¬ l1 = (nI 1)) → S_X11_sorts h (fun h1 => ((¬ l1 = 0) → AW M_X11_quarrel (.inl K) 83 [some (aR 15 0), none, none, some (aI (nI 0)), some (aI (nI 0)), none] [] h1 0 0) ∧ (¬ (¬ l1 = 0) → inR (nI 0) 4 ∧ inR (nI 3) 4 ∧ K ((h1.1 20 0 (nI 0).toNatClampNeg) - (h1.1 20 0 (nI 3).toNatClampNeg)) h1))) ∧ (¬ (¬ l1 = (nI 1)) → K l2 h)) ∧ (¬ ((nI 4) ≤ l3) → inR ((nI 44) + l3) 62 ∧ inR ((nI 44) + l2) 62 ∧ (((h.1 16 0 ((nI 44) + l3).toNatClampNeg) ≤ (h.1 16 0 ((nI 44) + l2).toNatClampNeg)) → AW M_X11_quarrel (.inl K) 15 [some (aR 15 0), some (aI l1), some (aI l2), some (aI (l3 + (nI 1))), none, none] [] h 0 0) ∧ (¬ ((h.1 16 0 ((nI 44) + l3).toNatClampNeg) ≤ (h.1 16 0 ((nI 44) + l2).toNatClampNeg)) → AW M_X11_quarrel (.inl K) 15 [some (aR 15 0), some (aI l1), some (aI l3), some (aI (l3 + (nI 1))), none, none] [] h 0 0))) : AW M_X11_quarrel (.inl K) 15 [some (aR 15 0), some (aI l1), some (aI l2), some (aI l3), none, none] [] h 0 0 := AW_go (cuts := [(15, [true, true, true, true, false, false]), (83, [true, false, false, true, true, false]), (111, [true, false, false, true, true, true])]) ok_X11_quarrel 400 H
set_option maxRecDepth 100000 in
theorem vc_X11_quarrel_83 {K : Int32 → AH → Prop} {h : AH}  (l3 : Int32) (l4 : Int32) (H : (((nI 4) ≤ l4) → AW M_X11_quarrel (.inl K) 111 [some (aR 15 0), none, none, some (aI l3), some (aI (nI 0)), some (aI (nI 0))] [] h 0 0) ∧ (¬ ((nI 4) ≤ l4) → inR l4 4 ∧ AW M_X11_quarrel (.inl K) 83 [some (aR 15 0), none, none, some (aI (l3 + (h.1 20 0 l4.toNatClampNeg))), some (aI (l4 + (nI 1))), none] [] h 0 0)) : AW M_X11_quarrel (.inl K) 83 [some (aR 15 0), none, none, some (aI l3), some (aI l4), none] [] h 0 0 := AW_go (cuts := [(15, [true, true, true, true, false, false]), (83, [true, false, false, true, true, false]), (111, [true, false, false, true, true, true])]) ok_X11_quarrel 400 H
set_option maxRecDepth 100000 in
theorem vc_X11_quarrel_111 {K : Int32 → AH → Prop} {h : AH}  (l3 : Int32) (l4 : Int32) (l5 : Int32) (H : (((nI 4) ≤ l5) → K l4 h) ∧ (¬ ((nI 4) ≤ l5) → inR l5 4 ∧ (¬ (nI 4) = 0) ∧ (¬ (nI 4) = 0) ∧ (((l3 - l3 / (nI 4) * (nI 4)) ≤ l5) → S_X11_most (nI 0) (((h.1 20 0 l5.toNatClampNeg) - (l3 / (nI 4))) - (nI 0)) h (fun x2 h1 => AW M_X11_quarrel (.inl K) 111 [some (aR 15 0), none, none, some (aI l3), some (aI (l4 + x2)), some (aI (l5 + (nI 1)))] [] h1 0 0)) ∧ (¬ ((l3 - l3 / (nI 4) * (nI 4)) ≤ l5) → S_X11_most (nI 0) (((h.1 20 0 l5.toNatClampNeg) - (l3 / (nI 4))) - (nI 1)) h (fun x4 h3 => AW M_X11_quarrel (.inl K) 111 [some (aR 15 0), none, none, some (aI l3), some (aI (l4 + x4)), some (aI (l5 + (nI 1)))] [] h3 0 0)))) : AW M_X11_quarrel (.inl K) 111 [some (aR 15 0), none, none, some (aI l3), some (aI l4), some (aI l5)] [] h 0 0 := AW_go (cuts := [(15, [true, true, true, true, false, false]), (83, [true, false, false, true, true, false]), (111, [true, false, false, true, true, true])]) ok_X11_quarrel 400 H

theorem sm_c {f g : Nat → Nat} : ∀ n, (∀ i, i < n → f i = g i) → sm f n = sm g n
  | 0, _ => rfl
  | n + 1, h => by unfold sm; rw [sm_c n (fun i q => h i (by omega)), h n (by omega)]
theorem sm_le {f : Nat → Nat} {B : Nat} : ∀ n, (∀ i, i < n → f i ≤ B) → sm f n ≤ B * n
  | 0, _ => Nat.le_refl _
  | n + 1, h => by
    have := sm_le (f := f) (B := B) n (fun i q => h i (by omega))
    have := h n (by omega)
    unfold sm
    rw [Nat.mul_succ]
    omega
theorem most_0 {a b c : Nat} (ha : a < 500000001) (hb : b < 500000001) (hc : c ≤ 1) : (if nI a - nI b - nI c < nI 0 then nI 0 else nI a - nI b - nI c) = nI (a - b - c) := by
  rw [n_subI, nI_iI c, i_sub, show nI 0 = iI 0 by rfl]
  by_cases q : (a : Int) - b - c < 0
  · rw [if_pos ((i_lt (by omega) (by omega) (by omega) (by omega)).mpr q), show a - b - c = 0 by omega]
    rfl
  · rw [if_neg (fun z => q ((i_lt (by omega) (by omega) (by omega) (by omega)).mp z)), nI_iI]
    congr 1
    omega
theorem lp3_X11_quarrel {g : Nat → Nat} {t : Nat} {h : AH} {K : Int32 → AH → Prop} (hg : ∀ i, i < 4 → g i < 500000000) (ht : t < 2000000000) (he : ∀ i, i < 4 → h.1 20 0 i = nI (g i)) (k : K (nI (sm (mvS g t) 4)) h) : ∀ r i, i + r = 4 → AW M_X11_quarrel (.inl K) 111 [some (aR 15 0), none, none, some (aI (nI t)), some (aI (nI (sm (mvS g t) i))), some (aI (nI i))] [] h 0 0 := by
  intro r
  induction r with
  | zero =>
    intro i hi
    have : i = 4 := by omega
    subst this
    exact vc_X11_quarrel_111 _ _ (nI 4) ⟨fun _ => k, fun q => absurd (by decide) q⟩
  | succ r ih =>
    intro i hi
    refine vc_X11_quarrel_111 _ _ (nI i) ?_
    have ih := ih (i + 1) (by omega)
    have hm : ∀ j, j < 4 → mvS g t j ≤ 500000000 := fun j hj => by
      have := hg j hj
      unfold mvS
      omega
    have hs : sm (mvS g t) i ≤ 500000000 * i := sm_le i (fun j hj => hm j (by omega))
    have g1 := hg i (by omega)
    have q1 : t / 4 < 500000001 := by omega
    rw [n_rem (show t < 2147483648 by omega) (by omega) (by omega), n_div (show t < 2147483648 by omega) (by omega) (by omega)]
    unfold S_X11_most
    dsimp only
    simp (disch := omega) only [n_inT, n_cl, true_and, n_le, nI_add, he i (by omega), most_0]
    refine ⟨fun q => by omega, fun _ => ⟨by decide, by decide, fun q => ?_, fun q => ?_⟩⟩
    · rw [sm, show mvS g t i = g i - t / 4 - 0 by unfold mvS; rw [if_pos q]] at ih
      exact ih
    · rw [sm, show mvS g t i = g i - t / 4 - 1 by unfold mvS; rw [if_neg q]] at ih
      exact ih
theorem lp2_X11_quarrel {g : Nat → Nat} {h : AH} {K : Int32 → AH → Prop} (hg : ∀ i, i < 4 → g i < 500000000) (he : ∀ i, i < 4 → h.1 20 0 i = nI (g i)) (k : K (nI (sm (mvS g (sm g 4)) 4)) h) : ∀ r i, i + r = 4 → AW M_X11_quarrel (.inl K) 83 [some (aR 15 0), none, none, some (aI (nI (sm g i))), some (aI (nI i)), none] [] h 0 0 := by
  intro r
  induction r with
  | zero =>
    intro i hi
    have : i = 4 := by omega
    subst this
    have h4 := sm4 g
    have := hg 0 (by omega)
    have := hg 1 (by omega)
    have := hg 2 (by omega)
    have := hg 3 (by omega)
    exact vc_X11_quarrel_83 _ (nI 4) ⟨fun _ => lp3_X11_quarrel hg (by omega) he k 4 0 (by omega), fun q => absurd (by decide) q⟩
  | succ r ih =>
    intro i hi
    refine vc_X11_quarrel_83 _ (nI i) ?_
    have ih := ih (i + 1) (by omega)
    simp (disch := omega) only [n_inT, n_cl, true_and, n_le, nI_add, he i (by omega)]
    exact ⟨fun q => by omega, fun _ => ih⟩
theorem lp_X11_quarrel {V : Vm} {w : Int32} {h : AH} {K : Int32 → AH → Prop} (hr : RV (h.1 16 0) V) (hv : WF V) (hb : ∀ n, n < 4 → V 3 n < 500000000) (k : ∀ h', keepM h h' → K (if w = nI 1 then nI (rch (V 3) 3) else if w = 0 then nI (mx4 (V 3) - mn4 (V 3)) else nI (max (ov (V 3)) (la (V 3)))) h') : ∀ r i, i + r = 3 → AW M_X11_quarrel (.inl K) 15 [some (aR 15 0), some (aI w), some (aI (nI (rch (V 3) i))), some (aI (nI (i + 1))), none, none] [] h 0 0 := by
  intro r
  induction r with
  | zero =>
    intro i hi
    have : i = 3 := by omega
    subst this
    refine vc_X11_quarrel_15 w _ (nI 4) ⟨fun _ => ⟨fun q => ⟨V, hr, hb, fun h1 o1 e1 => ?_⟩, fun q => ?_⟩, fun q => absurd (by decide) q⟩
    · have k := k h1 ⟨o1.1, fun a b i z => by rw [o1.2 a b (by omega)]⟩
      rw [if_neg q] at k
      obtain ⟨s1, s2, s3, s4, s5⟩ := srt_o (V 3)
      have hg : ∀ i, i < 4 → srt (V 3) i < 500000000 := by
        have b0 := hb 0 (by omega)
        have b1 := hb 1 (by omega)
        have b2 := hb 2 (by omega)
        have b3 := hb 3 (by omega)
        have : mx4 (V 3) < 500000000 := by unfold mx4; omega
        intro i hi
        have : i = 0 ∨ i = 1 ∨ i = 2 ∨ i = 3 := by omega
        rcases this with rfl | rfl | rfl | rfl <;> omega
      refine ⟨fun z => ?_, fun z => ⟨by simp (disch := omega) only [n_inT], by simp (disch := omega) only [n_inT], ?_⟩⟩
      · rw [if_neg z] at k
        refine lp2_X11_quarrel hg e1 ?_ 4 0 (by omega)
        rw [show sm (srt (V 3)) 4 = sm (V 3) 4 from srt_s (fun x => x) (V 3), mv_s]
        exact k
      · rw [if_pos (Decidable.not_not.mp z)] at k
        have a0 := e1 0 (by omega)
        have a3 := e1 3 (by omega)
        simp (disch := omega) only [n_cl, a0, a3]
        rw [n_sub (by omega), s1, s2]
        exact k
    · have k := k h (keepM_rfl h)
      rw [if_pos (Decidable.not_not.mp q)] at k
      exact k
  | succ r ih =>
    intro i hi
    refine vc_X11_quarrel_15 w _ (nI (i + 1)) ?_
    have ih := ih (i + 1) (by omega)
    have hl := rch_le (V 3) i
    have e1 := (RVs hr).2.2.2.1 (i + 1) (by omega)
    have e2 := (RVs hr).2.2.2.1 (rch (V 3) i) (by omega)
    have b1 := hb (i + 1) (by omega)
    have b2 := hb (rch (V 3) i) (by omega)
    simp (disch := omega) only [n_inT, n_cl, true_and, n_le, nI_add, e1, e2]
    rw [rch] at ih
    refine ⟨fun q => by omega, fun _ => ⟨fun q => ?_, fun q => ?_⟩⟩
    · rw [if_neg (by omega)] at ih; exact ih
    · rw [if_pos (by omega)] at ih; exact ih
theorem snd_X11_quarrel (w : Int32) {h : AH} {K : Int32 → AH → Prop} (k : S_X11_quarrel w h K) : AW M_X11_quarrel (.inl K) 0 [some (aR 15 0), some (aI w), none, none, none, none] [] h 0 0 := by
  obtain ⟨V, hr, hv, hb, k⟩ := k
  refine vc_X11_quarrel w ?_
  unfold S_X11_isIn
  simp only [if10_eq]
  unfold R_quarrel at k
  refine ⟨fun q => ?_, fun q => ?_⟩
  · rw [if_neg q] at k
    exact lp_X11_quarrel hr hv hb k 3 0 (by omega)
  · rw [if_pos (fun z => q (fun z2 => z2 z))] at k
    exact k h (keepM_rfl h)
theorem tr_X11_quarrel : ∀ (as : List AV) (h : AH) (K : Int32 → AH → Prop), T_X11_quarrel as h K → ∃ (q : Nat) (r : List AV), as = aR 15 q :: r := by
  intro as h K hk
  match as, hk with
  | [.inr (.inr (.inl q0)), .inl q1], hk =>
    obtain ⟨hb, hk⟩ := tif_inv hk
    simp only [Bool.and_eq_true] at hb
    obtain ⟨e0, e1⟩ := hb
    obtain ⟨a0, b0⟩ := q0
    have f0 : a0 = 15 := Nat.eq_of_beq_eq_true e0
    subst f0
    have f1 : b0 = 0 := Nat.eq_of_beq_eq_true e1
    subst f1
    exact ⟨_, _, rfl⟩
theorem tw_X11_quarrel : ∀ (as : List AV) (h : AH) (K : Int32 → AH → Prop), T_X11_quarrel as h K → (ini as).length ≤ mNL M_X11_quarrel ∧ AW M_X11_quarrel (.inl K) 0 (initL (mNL M_X11_quarrel) as) [] h 0 0 := by
  intro as h K hk
  match as, hk with
  | [.inr (.inr (.inl q0)), .inl q1], hk =>
    obtain ⟨hb, hk⟩ := tif_inv hk
    simp only [Bool.and_eq_true] at hb
    obtain ⟨e0, e1⟩ := hb
    obtain ⟨a0, b0⟩ := q0
    have f0 : a0 = 15 := Nat.eq_of_beq_eq_true e0
    subst f0
    have f1 : b0 = 0 := Nat.eq_of_beq_eq_true e1
    subst f1
    exact ⟨Nat.le_of_ble_eq_true rfl, snd_X11_quarrel q1 hk⟩


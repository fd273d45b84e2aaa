/-! ===== the reference: best throws ===== -/
theorem nI_iI (k : Nat) : nI k = iI (k : Int) := Int32.ofInt_eq_ofNat.symm
theorem i_toInt {a : Int} (h1 : -2147483648 ≤ a) (h2 : a < 2147483648) : (iI a).toInt = a := Int32.toInt_ofInt_of_le (by omega) (by omega)
theorem i_lt {a b : Int} (a1 : -2147483648 ≤ a) (a2 : a < 2147483648) (b1 : -2147483648 ≤ b) (b2 : b < 2147483648) : iI a < iI b ↔ a < b := by
  rw [Int32.lt_iff_toInt_lt, i_toInt a1 a2, i_toInt b1 b2]
theorem i_le {a b : Int} (a1 : -2147483648 ≤ a) (a2 : a < 2147483648) (b1 : -2147483648 ≤ b) (b2 : b < 2147483648) : iI a ≤ iI b ↔ a ≤ b := by
  rw [Int32.le_iff_toInt_le, i_toInt a1 a2, i_toInt b1 b2]
theorem i_eq {a b : Int} (a1 : -2147483648 ≤ a) (a2 : a < 2147483648) (b1 : -2147483648 ≤ b) (b2 : b < 2147483648) : iI a = iI b ↔ a = b := by
  rw [← Int32.toInt_inj, i_toInt a1 a2, i_toInt b1 b2]
theorem i_add (a b : Int) : iI a + iI b = iI (a + b) := (Int32.ofInt_add a b).symm
theorem i_sub (a b : Int) : iI a - iI b = iI (a - b) := (Int32.ofInt_sub a b).symm
theorem n_subI (a b : Nat) : nI a - nI b = iI ((a : Int) - b) := by rw [nI_iI, nI_iI, i_sub]
theorem i_0 : (0 : Int32) = iI 0 := by decide
theorem i_far : (-1000000000 : Int32) = iI (-1000000000) := by decide
def gn (V : Vm) (s c : Nat) : Int := (brg V s c : Int) - (vPr V s : Int)
/-- the first of the greatest, over one number and over two -/
def am1 (f : Nat → Int) : Nat → Int × Int → Int × Int
  | 0, p => p
  | k + 1, p => if (am1 f k p).2 < f k then ((k : Int), f k) else am1 f k p
def amC (f : Nat → Int) (s : Nat) : Nat → Int × Int → Int × Int
  | 0, p => p
  | k + 1, p => if (amC f s k p).2 < f k then (((10 * s + k : Nat) : Int), f k) else amC f s k p
def amA (f : Nat → Nat → Int) (lim : Nat → Nat) : Nat → Int × Int → Int × Int
  | 0, p => p
  | a + 1, p => amC (f a) a (lim a + 1) (amA f lim a p)
def bst (V : Vm) : Int × Int := amA (gn V) (vFl V) (V 10 1) (-4, -1000000000)
theorem am1_b {f : Nat → Int} {n : Nat} {p : Int × Int} {A B : Int} (hf : ∀ k, k < n → f k ≤ B ∧ A ≤ f k) (h1 : A ≤ p.2) (h2 : p.2 ≤ B) (h3 : 0 ≤ p.1) (h4 : p.1 ≤ n) : ∀ k, k ≤ n → A ≤ (am1 f k p).2 ∧ (am1 f k p).2 ≤ B ∧ 0 ≤ (am1 f k p).1 ∧ (am1 f k p).1 ≤ n := by
  intro k
  induction k with
  | zero => intro _; exact ⟨h1, h2, h3, h4⟩
  | succ k ih =>
    intro hk
    have i := ih (by omega)
    have j := hf k (by omega)
    unfold am1
    split
    · exact ⟨j.2, j.1, by simp, by simp; omega⟩
    · exact i
theorem amC_b {f : Nat → Int} {s n : Nat} {p : Int × Int} {A B : Int} (hs : s < 7) (hn : n ≤ 8) (hf : ∀ k, k < n → f k ≤ B ∧ A ≤ f k) (h1 : A ≤ p.2) (h2 : p.2 ≤ B) (h3 : -4 ≤ p.1) (h4 : p.1 ≤ 67) : ∀ k, k ≤ n → A ≤ (amC f s k p).2 ∧ (amC f s k p).2 ≤ B ∧ -4 ≤ (amC f s k p).1 ∧ (amC f s k p).1 ≤ 67 := by
  intro k
  induction k with
  | zero => intro _; exact ⟨h1, h2, h3, h4⟩
  | succ k ih =>
    intro hk
    have i := ih (by omega)
    have j := hf k (by omega)
    unfold amC
    split
    · refine ⟨j.2, j.1, ?_, ?_⟩
      · show -4 ≤ ((10 * s + k : Nat) : Int); omega
      · show ((10 * s + k : Nat) : Int) ≤ 67; omega
    · exact i
theorem amA_b {f : Nat → Nat → Int} {lim : Nat → Nat} {n : Nat} {p : Int × Int} {A B : Int} (hn : n ≤ 7) (hl : ∀ s, s < n → lim s ≤ 7) (hf : ∀ s k, s < n → k ≤ lim s → f s k ≤ B ∧ A ≤ f s k) (h1 : A ≤ p.2) (h2 : p.2 ≤ B) (h3 : -4 ≤ p.1) (h4 : p.1 ≤ 67) : ∀ k, k ≤ n → A ≤ (amA f lim k p).2 ∧ (amA f lim k p).2 ≤ B ∧ -4 ≤ (amA f lim k p).1 ∧ (amA f lim k p).1 ≤ 67 := by
  intro k
  induction k with
  | zero => intro _; exact ⟨h1, h2, h3, h4⟩
  | succ k ih =>
    intro hk
    obtain ⟨i1, i2, i3, i4⟩ := ih (by omega)
    unfold amA
    have := hl k (by omega)
    exact amC_b (n := lim k + 1) (by omega) (by omega) (fun c hc => hf k c (by omega) (by omega)) i1 i2 i3 i4 (lim k + 1) (Nat.le_refl _)
theorem gn_b {V : Vm} {s c : Nat} (hw : WF V) (hs : s < V 10 1) (hc : c < 8) : gn V s c ≤ 54 ∧ -34 ≤ gn V s c := by
  have h1 := brg_le hw hs hc
  have h2 : vPr V s ≤ 34 := prc_le (hw.2.2.2.2.2.2 s hs).2
  unfold gn
  omega
theorem bst_b {V : Vm} (hw : WF V) : ∀ a, a ≤ V 10 1 → -1000000000 ≤ (amA (gn V) (vFl V) a (-4, -1000000000)).2 ∧ (amA (gn V) (vFl V) a (-4, -1000000000)).2 ≤ 54 ∧ -4 ≤ (amA (gn V) (vFl V) a (-4, -1000000000)).1 ∧ (amA (gn V) (vFl V) a (-4, -1000000000)).1 ≤ 67 := by
  have h7 := hw.2.1
  refine amA_b (n := V 10 1) h7 (fun s _ => fly_le _) (fun s k hs hk => ?_) (by simp) (by simp) (by simp) (by simp)
  have hf : vFl V s ≤ 7 := fly_le _
  have := gn_b hw hs (show k < 8 by omega)
  omega
def onlyB (h h' : AH) : Prop := h'.2 = h.2 ∧ ∀ a b i, ¬ (a = 16 ∧ b = 2) → ¬ (a = 15 ∧ i = 10) → h'.1 a b i = h.1 a b i
theorem onlyB_rfl (h : AH) : onlyB h h := ⟨rfl, fun _ _ _ _ _ => rfl⟩
theorem onlyB_tr {h h1 h2 : AH} (a : onlyB h h1) (b : onlyB h1 h2) : onlyB h h2 := ⟨b.1.trans a.1, fun x y i q1 q2 => (b.2 x y i q1 q2).trans (a.2 x y i q1 q2)⟩
theorem onlyB_o {h h1 : AH} (a : only 16 2 h h1) : onlyB h h1 := ⟨a.1, fun x y i q1 _ => by rw [a.2 x y q1]⟩
theorem onlyB_w (h : AH) (x : Int32) : onlyB h (wI h 15 0 10 x) := ⟨rfl, fun a b i _ q => by show uI h.1 15 0 10 x a b i = _; unfold uI; rw [if_neg (fun e => q ⟨e.1, e.2.2⟩)]⟩
theorem onlyB_r {h h1 : AH} {j : Nat} (hj : j ≠ 2) (a : onlyB h h1) : h1.1 16 j = h.1 16 j := funext fun i => a.2 16 j i (fun e => hj e.2) (fun e => by omega)
def S_X11_bestBy (j : Nat) (h : AH) (K : Int32 → AH → Prop) : Prop := ∃ V, RV (h.1 16 j) V ∧ WF V ∧ j ≠ 2 ∧ ∀ h', onlyB h h' → h'.1 15 0 10 = iI (bst V).2 → K (iI (bst V).1) h'
def T_X11_bestBy : List AV → AH → (Int32 → AH → Prop) → Prop := fun as h K => match as with
  | [.inr (.inr (.inl q0)), .inr (.inr (.inl q1))] => tif (Nat.beq q0.1 15 && Nat.beq q0.2 0 && Nat.beq q1.1 16) (S_X11_bestBy q1.2 h K)
  | _ => False

def M_X11_bestBy : MI := (RX11, cX11_bestBy, 6, [(0, .bipush (-4), []), (2, .istore_n 2, []), (3, .aload_n 0, []), (4, .ldc 171, []), (6, .putfield 172, []), (9, .iconst 0, []), (10, .istore_n 3, []), (11, .iload_n 3, []), (12, .aload_n 1, []), (13, .iconst 1, []), (14, .iaload, []), (15, .if_icmp .ge 70, [85]), (18, .iconst 0, []), (19, .istore 4, []), (21, .iload 4, []), (23, .aload_n 1, []), (24, .iload_n 3, []), (25, .invokestatic 135, []), (28, .if_icmp .gt 51, [79]), (31, .aload_n 0, []), (32, .aload_n 1, []), (33, .iload_n 3, []), (34, .iload 4, []), (36, .invokevirtual 168, []), (39, .aload_n 1, []), (40, .iload_n 3, []), (41, .invokestatic 158, []), (44, .isub, []), (45, .istore 5, []), (47, .iload 5, []), (49, .aload_n 0, []), (50, .getfield 172, []), (53, .if_icmp .gt 6, [59]), (56, .goto 17, [73]), (59, .bipush 10, []), (61, .iload_n 3, []), (62, .imul, []), (63, .iload 4, []), (65, .iadd, []), (66, .istore_n 2, []), (67, .aload_n 0, []), (68, .iload 5, []), (70, .putfield 172, []), (73, .iinc 4 1, []), (76, .goto (-55), [21]), (79, .iinc 3 1, []), (82, .goto (-71), [11]), (85, .iload_n 2, []), (86, .ireturn, [])], [(172, (15, 10, 0, 0, 0))], [(171, (-1000000000))], [], [(406, (2, 2, 42, 0, 0, .inl T_X11_flies)), (504, (4, 6, 139, 0, 0, .inl T_X11_broughtBy)), (475, (2, 2, 43, 0, 0, .inl T_X11_price))], 6, 139, 0, 0)
theorem ok_X11_bestBy : MOK M_X11_bestBy := ⟨by decide +kernel, List.forall_mem_cons.mpr ⟨fl_RX11_172, fun _ h => absurd h List.not_mem_nil⟩, List.forall_mem_cons.mpr ⟨(inG (i := 1153) (w := Cond.constant RX11 171 (-1000000000)) (by decide +kernel) rfl), fun _ h => absurd h List.not_mem_nil⟩, fun _ h => absurd h List.not_mem_nil, List.forall_mem_cons.mpr ⟨⟨Nat.le_of_ble_eq_true rfl, Nat.le_of_ble_eq_true rfl, cr_RX11_406⟩, List.forall_mem_cons.mpr ⟨⟨Nat.le_of_ble_eq_true rfl, Nat.le_of_ble_eq_true rfl, cr_RX11_504⟩, List.forall_mem_cons.mpr ⟨⟨Nat.le_of_ble_eq_true rfl, Nat.le_of_ble_eq_true rfl, cr_RX11_475⟩, fun _ h => absurd h List.not_mem_nil⟩⟩⟩⟩
set_option maxRecDepth 100000 in
theorem vc_X11_bestBy {K : Int32 → AH → Prop} {h : AH} (p1 : Nat) (H : AW M_X11_bestBy (.inl K) 11 [some (aR 15 0), some (aR 16 p1), some (aI (iI (-4))), some (aI (nI 0)), none, none] [] (wI h 15 0 10 (-1000000000 : Int32)) 0 0) : AW M_X11_bestBy (.inl K) 0 [some (aR 15 0), some (aR 16 p1), none, none, none, none] [] h 0 0 := AW_go (cuts := [(11, [true, true, true, true, false, false]), (21, [true, true, true, true, true, false])]) ok_X11_bestBy 400 H
set_option maxRecDepth 100000 in
theorem vc_X11_bestBy_11 {K : Int32 → AH → Prop} {h : AH}  (l1 : Nat) (l2 : Int32) (l3 : Int32) (H : inR (nI 1) 62 ∧ (((h.1 16 l1 (nI 1).toNatClampNeg) ≤ l3) → K l2 h) ∧ (¬ ((h.1 16 l1 (nI 1).toNatClampNeg) ≤ l3) → AW M_X11_bestBy (.inl K) 21 [some (aR 15 0), some (aR 16 l1), some (aI l2), some (aI l3), some (aI (nI 0)), none] [] h 0 0)) : AW M_X11_bestBy (.inl K) 11 [some (aR 15 0), some (aR 16 l1), some (aI l2), some (aI l3), none, none] [] h 0 0 := AW_go (cuts := [(11, [true, true, true, true, false, false]), (21, [true, true, true, true, true, false])]) ok_X11_bestBy 400 H
set_option maxRecDepth 100000 in
theorem vc_X11_bestBy_21 {K : Int32 → AH → Prop} {h : AH}  (l1 : Nat) (l2 : Int32) (l3 : Int32) (l4 : Int32) (H : S_X11_flies l1 l3 h (fun x2 h1 => ((x2 < l4) → AW M_X11_bestBy (.inl K) 11 [some (aR 15 0), some (aR 16 l1), some (aI l2), some (aI (l3 + (nI 1))), none, none] [] h1 0 0) ∧ (¬ (x2 < l4) → S_X11_broughtBy l1 l3 l4 h1 (fun x4 h3 => S_X11_price l1 l3 h3 (fun x6 h5 => (((h5.1 15 0 10) < (x4 - x6)) → AW M_X11_bestBy (.inl K) 21 [some (aR 15 0), some (aR 16 l1), some (aI (((nI 10) * l3) + l4)), some (aI l3), some (aI (l4 + (nI 1))), none] [] (wI h5 15 0 10 (x4 - x6)) 0 0) ∧ (¬ ((h5.1 15 0 10) < (x4 - x6)) → AW M_X11_bestBy (.inl K) 21 [some (aR 15 0), some (aR 16 l1), some (aI l2), some (aI l3), some (aI (l4 + (nI 1))), none] [] h5 0 0)))))) : AW M_X11_bestBy (.inl K) 21 [some (aR 15 0), some (aR 16 l1), some (aI l2), some (aI l3), some (aI l4), none] [] h 0 0 := AW_go (cuts := [(11, [true, true, true, true, false, false]), (21, [true, true, true, true, true, false])]) ok_X11_bestBy 400 H

theorem lp_X11_bestBy {j : Nat} {V : Vm} {h0 : AH} {K : Int32 → AH → Prop} (hr : RV (h0.1 16 j) V) (hw : WF V) (hj : j ≠ 2) (k : ∀ h', onlyB h0 h' → h'.1 15 0 10 = iI (bst V).2 → K (iI (bst V).1) h') : ∀ r a h, a + r = V 10 1 → onlyB h0 h → h.1 15 0 10 = iI (amA (gn V) (vFl V) a (-4, -1000000000)).2 → AW M_X11_bestBy (.inl K) 11 [some (aR 15 0), some (aR 16 j), some (aI (iI (amA (gn V) (vFl V) a (-4, -1000000000)).1)), some (aI (nI a)), none, none] [] h 0 0 := by
  have h7 := hw.2.1
  intro r
  induction r with
  | zero =>
    intro a h ha h1 h2
    refine vc_X11_bestBy_11 j _ (nI a) ?_
    obtain ⟨-, -, -, -, -, -, -, -, -, -, -, e1, -, -⟩ := RVs hr
    rw [← onlyB_r hj h1] at e1
    simp (disch := omega) only [n_inT, n_cl, true_and, e1, n_le]
    have : a = V 10 1 := by omega
    subst this
    exact ⟨fun _ => k h h1 h2, fun q => absurd (by omega) q⟩
  | succ r ih =>
    intro a h ha h1 h2
    refine vc_X11_bestBy_11 j _ (nI a) ?_
    have hr' := hr
    rw [← onlyB_r hj h1] at hr'
    obtain ⟨-, -, -, -, -, -, -, -, -, -, -, e1, -, -⟩ := RVs hr'
    simp (disch := omega) only [n_inT, n_cl, true_and, e1, n_le]
    refine ⟨fun q => by omega, fun _ => ?_⟩
    have hf : vFl V a ≤ 7 := fly_le _
    have hpr : vPr V a ≤ 34 := prc_le (hw.2.2.2.2.2.2 a (by omega)).2
    obtain ⟨b1, b2, b3, b4⟩ := bst_b hw a (by omega)
    have bC := amC_b (s := a) (n := vFl V a + 1) (f := gn V a) (p := amA (gn V) (vFl V) a (-4, -1000000000)) (A := -1000000000) (B := 54) (by omega) (by omega) (fun c hc => by have := gn_b hw (show a < V 10 1 by omega) (show c < 8 by omega); omega) b1 b2 b3 b4
    have inner : ∀ r2 c h, c + r2 = vFl V a + 1 → onlyB h0 h → h.1 15 0 10 = iI (amC (gn V a) a c (amA (gn V) (vFl V) a (-4, -1000000000))).2 → AW M_X11_bestBy (.inl K) 21 [some (aR 15 0), some (aR 16 j), some (aI (iI (amC (gn V a) a c (amA (gn V) (vFl V) a (-4, -1000000000))).1)), some (aI (nI a)), some (aI (nI c)), none] [] h 0 0 := by
      intro r2
      induction r2 with
      | zero =>
        intro c h hc h1 h2
        refine vc_X11_bestBy_21 j _ (nI a) (nI c) ?_
        have hr' := hr
        rw [← onlyB_r hj h1] at hr'
        refine ⟨V, a, ⟨hr', hw, by omega, rfl⟩, ?_⟩
        simp (disch := omega) only [n_lt, nI_add]
        refine ⟨fun _ => ?_, fun q => absurd (by omega) q⟩
        have : c = vFl V a + 1 := by omega
        subst this
        exact ih (a + 1) h (by omega) h1 h2
      | succ r2 ih2 =>
        intro c h hc h1 h2
        refine vc_X11_bestBy_21 j _ (nI a) (nI c) ?_
        have hr' := hr
        rw [← onlyB_r hj h1] at hr'
        refine ⟨V, a, ⟨hr', hw, by omega, rfl⟩, ?_⟩
        simp (disch := omega) only [n_lt, nI_add, pk_mul]
        refine ⟨fun q => by omega, fun _ => ⟨V, a, c, ⟨hr', hw, by omega, rfl⟩, by omega, rfl, hj, fun h3 o3 => ?_⟩⟩
        have o3 := onlyB_tr h1 (onlyB_o o3)
        have hr3 := hr
        rw [← onlyB_r hj o3] at hr3
        refine ⟨V, a, ⟨hr3, hw, by omega, rfl⟩, ?_⟩
        have e3 : h3.1 15 0 10 = iI (amC (gn V a) a c (amA (gn V) (vFl V) a (-4, -1000000000))).2 := by
          rw [← h2]
          have : only 16 2 h h3 := by assumption
          rw [this.2 15 0 (by omega)]
        obtain ⟨c1, c2, c3, c4⟩ := bC c (by omega)
        have hg := gn_b hw (show a < V 10 1 by omega) (show c < 8 by omega)
        dsimp only
        rw [e3, n_subI, show (brg V a c : Int) - (vPr V a : Int) = gn V a c from rfl, i_lt (by omega) (by omega) (by omega) (by omega)]
        refine ⟨fun q => ?_, fun q => ?_⟩
        · have e4 : amC (gn V a) a (c + 1) (amA (gn V) (vFl V) a (-4, -1000000000)) = (((10 * a + c : Nat) : Int), gn V a c) := by rw [amC, if_pos q]
          have := ih2 (c + 1) (wI h3 15 0 10 (iI (gn V a c))) (by omega) (onlyB_tr o3 (onlyB_w ..)) (by rw [e4]; exact wI_at ..)
          rw [e4] at this
          rw [nI_iI (10 * a + c)]
          exact this
        · have e4 : amC (gn V a) a (c + 1) (amA (gn V) (vFl V) a (-4, -1000000000)) = amC (gn V a) a c (amA (gn V) (vFl V) a (-4, -1000000000)) := by rw [amC, if_neg q]
          have := ih2 (c + 1) h3 (by omega) o3 (by rw [e4]; exact e3)
          rw [e4] at this
          exact this
    exact inner (vFl V a + 1) 0 h (by omega) h1 h2
theorem snd_X11_bestBy (j : Nat) {h : AH} {K : Int32 → AH → Prop} (k : S_X11_bestBy j h K) : AW M_X11_bestBy (.inl K) 0 [some (aR 15 0), some (aR 16 j), none, none, none, none] [] h 0 0 := by
  obtain ⟨V, hr, hw, hj, k⟩ := k
  refine vc_X11_bestBy j ?_
  rw [i_far]
  exact lp_X11_bestBy (h0 := h) hr hw hj k (V 10 1) 0 _ (by omega) (onlyB_w ..) (show uI h.1 15 0 10 (iI (-1000000000)) 15 0 10 = iI (-1000000000) from uI_at ..)
theorem tr_X11_bestBy : ∀ (as : List AV) (h : AH) (K : Int32 → AH → Prop), T_X11_bestBy as h K → ∃ (q : Nat) (r : List AV), as = aR 15 q :: r := by
  intro as h K hk
  match as, hk with
  | [.inr (.inr (.inl q0)), .inr (.inr (.inl q1))], hk =>
    obtain ⟨hb, hk⟩ := tif_inv hk
    simp only [Bool.and_eq_true] at hb
    obtain ⟨⟨e0, e1⟩, e2⟩ := hb
    obtain ⟨a0, b0⟩ := q0
    obtain ⟨a1, b1⟩ := q1
    have f0 : a0 = 15 := Nat.eq_of_beq_eq_true e0
    subst f0
    have f1 : b0 = 0 := Nat.eq_of_beq_eq_true e1
    subst f1
    have f2 : a1 = 16 := Nat.eq_of_beq_eq_true e2
    subst f2
    exact ⟨_, _, rfl⟩
theorem tw_X11_bestBy : ∀ (as : List AV) (h : AH) (K : Int32 → AH → Prop), T_X11_bestBy as h K → (ini as).length ≤ mNL M_X11_bestBy ∧ AW M_X11_bestBy (.inl K) 0 (initL (mNL M_X11_bestBy) as) [] h 0 0 := by
  intro as h K hk
  match as, hk with
  | [.inr (.inr (.inl q0)), .inr (.inr (.inl q1))], hk =>
    obtain ⟨hb, hk⟩ := tif_inv hk
    simp only [Bool.and_eq_true] at hb
    obtain ⟨⟨e0, e1⟩, e2⟩ := hb
    obtain ⟨a0, b0⟩ := q0
    obtain ⟨a1, b1⟩ := q1
    have f0 : a0 = 15 := Nat.eq_of_beq_eq_true e0
    subst f0
    have f1 : b0 = 0 := Nat.eq_of_beq_eq_true e1
    subst f1
    have f2 : a1 = 16 := Nat.eq_of_beq_eq_true e2
    subst f2
    exact ⟨Nat.le_of_ble_eq_true rfl, snd_X11_bestBy b1 hk⟩
theorem cr_RX11_525 : CR RX11 (kIns 525) (2, 7, 164, 0, 0, .inl T_X11_bestBy) := crV_i (t := 15) (M := M_X11_bestBy) (by decide) rfl (by decide) rfl (inG (i := 1149) (w := Cond.methodLink RX11 175 yX11_bestBy) (by decide +kernel) rfl) (inG (i := 1151) (w := Cond.instanceMethod yX11_bestBy) (by decide +kernel) rfl) (inG (i := 40) (w := Cond.initialized RX11) (by decide +kernel) rfl) (inG (i := 26) (w := Cond.selects RX11 yX11_bestBy yX11_bestBy) (by decide +kernel) rfl) (inG (i := 1152) (w := Cond.code yX11_bestBy cX11_bestBy 6 (some .int)) (by decide +kernel) rfl) ⟨by decide +kernel, by decide +kernel, by decide +kernel⟩ tr_X11_bestBy tw_X11_bestBy

/-! ===== what stays of the reference's state ===== -/
def keepM (h h' : AH) : Prop := h'.2 = h.2 ∧ ∀ a b i, ¬ ((a = 16 ∧ b ≠ 0 ∧ b ≠ 3) ∨ (a = 15 ∧ i ≠ 5) ∨ a = 17 ∨ a = 19 ∨ a = 20) → h'.1 a b i = h.1 a b i
theorem keepM_rfl (h : AH) : keepM h h := ⟨rfl, fun _ _ _ _ => rfl⟩
theorem keepM_tr {h h1 h2 : AH} (a : keepM h h1) (b : keepM h1 h2) : keepM h h2 := ⟨b.1.trans a.1, fun x y i q => (b.2 x y i q).trans (a.2 x y i q)⟩
theorem keepM_o {j : Nat} {h h1 : AH} (h0 : j ≠ 0) (h3 : j ≠ 3) (a : only 16 j h h1) : keepM h h1 := ⟨a.1, fun x y i q => by rw [a.2 x y (fun e => q (Or.inl ⟨e.1, by omega, by omega⟩))]⟩
theorem keepM_B {h h1 : AH} (a : onlyB h h1) : keepM h h1 := ⟨a.1, fun x y i q => a.2 x y i (fun e => q (Or.inl ⟨e.1, by omega, by omega⟩)) (fun e => q (Or.inr (Or.inl ⟨e.1, by omega⟩)))⟩
theorem keepM_r0 {h h1 : AH} (a : keepM h h1) : h1.1 16 0 = h.1 16 0 := funext fun i => a.2 16 0 i (by omega)
theorem keepM_w {h : AH} {t p i : Nat} {x : Int32} (hq : (t = 16 ∧ p ≠ 0 ∧ p ≠ 3) ∨ (t = 15 ∧ i ≠ 5) ∨ t = 17 ∨ t = 19 ∨ t = 20) : keepM h (wI h t p i x) := ⟨rfl, fun a b j q => by
  show uI h.1 t p i x a b j = _
  unfold uI
  rw [if_neg]
  rintro ⟨rfl, rfl, rfl⟩
  exact q hq⟩
def S_X11_bestThrow (h : AH) (K : Int32 → AH → Prop) : Prop := ∃ V, RV (h.1 16 0) V ∧ WF V ∧ ∀ h', keepM h h' → K (iI (bst V).1) h'
def T_X11_bestThrow : List AV → AH → (Int32 → AH → Prop) → Prop := fun as h K => match as with
  | [.inr (.inr (.inl q0))] => tif (Nat.beq q0.1 15 && Nat.beq q0.2 0) (S_X11_bestThrow h K)
  | _ => False

def M_X11_bestThrow : MI := (RX11, cX11_bestThrow, 1, [(0, .aload_n 0, []), (1, .aload_n 0, []), (2, .getfield 9, []), (5, .invokevirtual 175, []), (8, .ireturn, [])], [(9, (15, 0, 1, 16, 0))], [], [], [(525, (2, 7, 164, 0, 0, .inl T_X11_bestBy))], 7, 164, 0, 0)
theorem ok_X11_bestThrow : MOK M_X11_bestThrow := ⟨by decide +kernel, List.forall_mem_cons.mpr ⟨fl_RX11_9, fun _ h => absurd h List.not_mem_nil⟩, fun _ h => absurd h List.not_mem_nil, fun _ h => absurd h List.not_mem_nil, List.forall_mem_cons.mpr ⟨⟨Nat.le_of_ble_eq_true rfl, Nat.le_of_ble_eq_true rfl, cr_RX11_525⟩, fun _ h => absurd h List.not_mem_nil⟩⟩
set_option maxRecDepth 100000 in
theorem vc_X11_bestThrow {K : Int32 → AH → Prop} {h : AH}  (H : S_X11_bestBy 0 h (fun x2 h1 => K x2 h1)) : AW M_X11_bestThrow (.inl K) 0 [some (aR 15 0)] [] h 0 0 := AW_go (cuts := []) ok_X11_bestThrow 400 H

theorem snd_X11_bestThrow {h : AH} {K : Int32 → AH → Prop} (k : S_X11_bestThrow h K) : AW M_X11_bestThrow (.inl K) 0 [some (aR 15 0)] [] h 0 0 := by
  obtain ⟨V, hr, hw, k⟩ := k
  exact vc_X11_bestThrow ⟨V, hr, hw, by decide, fun h' o _ => k h' (keepM_B o)⟩
theorem tr_X11_bestThrow : ∀ (as : List AV) (h : AH) (K : Int32 → AH → Prop), T_X11_bestThrow as h K → ∃ (q : Nat) (r : List AV), as = aR 15 q :: r := by
  intro as h K hk
  match as, hk with
  | [.inr (.inr (.inl q0))], hk =>
    obtain ⟨hb, hk⟩ := tif_inv hk
    simp only [Bool.and_eq_true] at hb
    obtain ⟨e0, e1⟩ := hb
    obtain ⟨a0, b0⟩ := q0
    have f0 : a0 = 15 := Nat.eq_of_beq_eq_true e0
    subst f0
    have f1 : b0 = 0 := Nat.eq_of_beq_eq_true e1
    subst f1
    exact ⟨_, _, rfl⟩
theorem tw_X11_bestThrow : ∀ (as : List AV) (h : AH) (K : Int32 → AH → Prop), T_X11_bestThrow as h K → (ini as).length ≤ mNL M_X11_bestThrow ∧ AW M_X11_bestThrow (.inl K) 0 (initL (mNL M_X11_bestThrow) as) [] h 0 0 := by
  intro as h K hk
  match as, hk with
  | [.inr (.inr (.inl q0))], hk =>
    obtain ⟨hb, hk⟩ := tif_inv hk
    simp only [Bool.and_eq_true] at hb
    obtain ⟨e0, e1⟩ := hb
    obtain ⟨a0, b0⟩ := q0
    have f0 : a0 = 15 := Nat.eq_of_beq_eq_true e0
    subst f0
    have f1 : b0 = 0 := Nat.eq_of_beq_eq_true e1
    subst f1
    exact ⟨Nat.le_of_ble_eq_true rfl, snd_X11_bestThrow  hk⟩

def S_X11_gain (h : AH) (K : Int32 → AH → Prop) : Prop := ∃ V, RV (h.1 16 0) V ∧ WF V ∧ ∀ h', keepM h h' → K (if (bst V).1 < 0 then 1000000004 else iI (bst V).2) h'
def T_X11_gain : List AV → AH → (Int32 → AH → Prop) → Prop := fun as h K => match as with
  | [.inr (.inr (.inl q0))] => tif (Nat.beq q0.1 15 && Nat.beq q0.2 0) (S_X11_gain h K)
  | _ => False

def M_X11_gain : MI := (RX11, cX11_gain, 1, [(0, .aload_n 0, []), (1, .aload_n 0, []), (2, .getfield 9, []), (5, .invokevirtual 175, []), (8, .ifCond .ge 8, [16]), (11, .ldc 179, []), (13, .goto 7, [20]), (16, .aload_n 0, []), (17, .getfield 172, []), (20, .ireturn, [])], [(9, (15, 0, 1, 16, 0)), (172, (15, 10, 0, 0, 0))], [(179, 1000000004)], [], [(525, (2, 7, 164, 0, 0, .inl T_X11_bestBy))], 7, 164, 0, 0)
theorem ok_X11_gain : MOK M_X11_gain := ⟨by decide +kernel, List.forall_mem_cons.mpr ⟨fl_RX11_9, List.forall_mem_cons.mpr ⟨fl_RX11_172, fun _ h => absurd h List.not_mem_nil⟩⟩, List.forall_mem_cons.mpr ⟨(inG (i := 1158) (w := Cond.constant RX11 179 1000000004) (by decide +kernel) rfl), fun _ h => absurd h List.not_mem_nil⟩, fun _ h => absurd h List.not_mem_nil, List.forall_mem_cons.mpr ⟨⟨Nat.le_of_ble_eq_true rfl, Nat.le_of_ble_eq_true rfl, cr_RX11_525⟩, fun _ h => absurd h List.not_mem_nil⟩⟩
set_option maxRecDepth 100000 in
theorem vc_X11_gain {K : Int32 → AH → Prop} {h : AH}  (H : S_X11_bestBy 0 h (fun x2 h1 => ((0 ≤ x2) → K (h1.1 15 0 10) h1) ∧ (¬ (0 ≤ x2) → K (1000000004 : Int32) h1))) : AW M_X11_gain (.inl K) 0 [some (aR 15 0)] [] h 0 0 := AW_go (cuts := []) ok_X11_gain 400 H

theorem snd_X11_gain {h : AH} {K : Int32 → AH → Prop} (k : S_X11_gain h K) : AW M_X11_gain (.inl K) 0 [some (aR 15 0)] [] h 0 0 := by
  obtain ⟨V, hr, hw, k⟩ := k
  refine vc_X11_gain ⟨V, hr, hw, by decide, fun h' o e => ?_⟩
  have := k h' (keepM_B o)
  obtain ⟨b1, b2, b3, b4⟩ := bst_b hw _ (Nat.le_refl _)
  have b3 : -4 ≤ (bst V).1 := b3
  have b4 : (bst V).1 ≤ 67 := b4
  dsimp only
  rw [e, i_0, i_le (by omega) (by omega) (by omega) (by omega)]
  refine ⟨fun q => ?_, fun q => ?_⟩
  · rw [if_neg (by omega)] at this; exact this
  · rw [if_pos (by omega)] at this; exact this
theorem tr_X11_gain : ∀ (as : List AV) (h : AH) (K : Int32 → AH → Prop), T_X11_gain as h K → ∃ (q : Nat) (r : List AV), as = aR 15 q :: r := by
  intro as h K hk
  match as, hk with
  | [.inr (.inr (.inl q0))], hk =>
    obtain ⟨hb, hk⟩ := tif_inv hk
    simp only [Bool.and_eq_true] at hb
    obtain ⟨e0, e1⟩ := hb
    obtain ⟨a0, b0⟩ := q0
    have f0 : a0 = 15 := Nat.eq_of_beq_eq_true e0
    subst f0
    have f1 : b0 = 0 := Nat.eq_of_beq_eq_true e1
    subst f1
    exact ⟨_, _, rfl⟩
theorem tw_X11_gain : ∀ (as : List AV) (h : AH) (K : Int32 → AH → Prop), T_X11_gain as h K → (ini as).length ≤ mNL M_X11_gain ∧ AW M_X11_gain (.inl K) 0 (initL (mNL M_X11_gain) as) [] h 0 0 := by
  intro as h K hk
  match as, hk with
  | [.inr (.inr (.inl q0))], hk =>
    obtain ⟨hb, hk⟩ := tif_inv hk
    simp only [Bool.and_eq_true] at hb
    obtain ⟨e0, e1⟩ := hb
    obtain ⟨a0, b0⟩ := q0
    have f0 : a0 = 15 := Nat.eq_of_beq_eq_true e0
    subst f0
    have f1 : b0 = 0 := Nat.eq_of_beq_eq_true e1
    subst f1
    exact ⟨Nat.le_of_ble_eq_true rfl, snd_X11_gain  hk⟩

def bCell (V : Vm) (n : Nat) : Nat → Nat
  | 0 => 0
  | k + 1 => if brg V n (bCell V n k) < brg V n (k + 1) then k + 1 else bCell V n k
theorem bCell_le (V : Vm) (n : Nat) : ∀ k, bCell V n k ≤ k
  | 0 => Nat.le_refl _
  | k + 1 => by
    have := bCell_le V n k
    unfold bCell
    split <;> omega
def S_X11_bestCell (a : Int32) (h : AH) (K : Int32 → AH → Prop) : Prop := ∃ V, RV (h.1 16 0) V ∧ WF V ∧ (∀ n h', n < V 10 1 → a = nI n → keepM h h' → K (nI (bCell V n (vFl V n))) h') ∧ ((¬ ∃ n, n < V 10 1 ∧ a = nI n) → K (iI (-1)) h)
def T_X11_bestCell : List AV → AH → (Int32 → AH → Prop) → Prop := fun as h K => match as with
  | [.inr (.inr (.inl q0)), .inl q1] => tif (Nat.beq q0.1 15 && Nat.beq q0.2 0) (S_X11_bestCell q1 h K)
  | _ => False

def M_X11_bestCell : MI := (RX11, cX11_bestCell, 4, [(0, .aload_n 0, []), (1, .iload_n 1, []), (2, .invokevirtual 132, []), (5, .ifCond .ne 5, [10]), (8, .iconst (-1), []), (9, .ireturn, []), (10, .iconst 0, []), (11, .istore_n 2, []), (12, .iconst 1, []), (13, .istore_n 3, []), (14, .iload_n 3, []), (15, .aload_n 0, []), (16, .getfield 9, []), (19, .iload_n 1, []), (20, .invokestatic 135, []), (23, .if_icmp .gt 34, [57]), (26, .aload_n 0, []), (27, .aload_n 0, []), (28, .getfield 9, []), (31, .iload_n 1, []), (32, .iload_n 3, []), (33, .invokevirtual 168, []), (36, .aload_n 0, []), (37, .aload_n 0, []), (38, .getfield 9, []), (41, .iload_n 1, []), (42, .iload_n 2, []), (43, .invokevirtual 168, []), (46, .if_icmp .le 5, [51]), (49, .iload_n 3, []), (50, .istore_n 2, []), (51, .iinc 3 1, []), (54, .goto (-40), [14]), (57, .iload_n 2, []), (58, .ireturn, [])], [(9, (15, 0, 1, 16, 0))], [], [], [(396, (2, 2, 43, 0, 0, .inl T_X11_isSheep)), (406, (2, 2, 42, 0, 0, .inl T_X11_flies)), (504, (4, 6, 139, 0, 0, .inl T_X11_broughtBy))], 6, 139, 0, 0)
theorem ok_X11_bestCell : MOK M_X11_bestCell := ⟨by decide +kernel, List.forall_mem_cons.mpr ⟨fl_RX11_9, fun _ h => absurd h List.not_mem_nil⟩, fun _ h => absurd h List.not_mem_nil, fun _ h => absurd h List.not_mem_nil, List.forall_mem_cons.mpr ⟨⟨Nat.le_of_ble_eq_true rfl, Nat.le_of_ble_eq_true rfl, cr_RX11_396⟩, List.forall_mem_cons.mpr ⟨⟨Nat.le_of_ble_eq_true rfl, Nat.le_of_ble_eq_true rfl, cr_RX11_406⟩, List.forall_mem_cons.mpr ⟨⟨Nat.le_of_ble_eq_true rfl, Nat.le_of_ble_eq_true rfl, cr_RX11_504⟩, fun _ h => absurd h List.not_mem_nil⟩⟩⟩⟩
set_option maxRecDepth 100000 in
theorem vc_X11_bestCell {K : Int32 → AH → Prop} {h : AH} (p1 : Int32) (H : S_X11_isSheep p1 h (fun x2 h1 => ((¬ x2 = 0) → AW M_X11_bestCell (.inl K) 14 [some (aR 15 0), some (aI p1), some (aI (nI 0)), some (aI (nI 1))] [] h1 0 0) ∧ (¬ (¬ x2 = 0) → K (iI (-1)) h1))) : AW M_X11_bestCell (.inl K) 0 [some (aR 15 0), some (aI p1), none, none] [] h 0 0 := AW_go (cuts := [(14, [true, true, true, true])]) ok_X11_bestCell 400 H
set_option maxRecDepth 100000 in
theorem vc_X11_bestCell_14 {K : Int32 → AH → Prop} {h : AH}  (l1 : Int32) (l2 : Int32) (l3 : Int32) (H : S_X11_flies 0 l1 h (fun x2 h1 => ((x2 < l3) → K l2 h1) ∧ (¬ (x2 < l3) → S_X11_broughtBy 0 l1 l3 h1 (fun x4 h3 => S_X11_broughtBy 0 l1 l2 h3 (fun x6 h5 => ((x4 ≤ x6) → AW M_X11_bestCell (.inl K) 14 [some (aR 15 0), some (aI l1), some (aI l2), some (aI (l3 + (nI 1)))] [] h5 0 0) ∧ (¬ (x4 ≤ x6) → AW M_X11_bestCell (.inl K) 14 [some (aR 15 0), some (aI l1), some (aI l3), some (aI (l3 + (nI 1)))] [] h5 0 0)))))) : AW M_X11_bestCell (.inl K) 14 [some (aR 15 0), some (aI l1), some (aI l2), some (aI l3)] [] h 0 0 := AW_go (cuts := [(14, [true, true, true, true])]) ok_X11_bestCell 400 H

theorem lp_X11_bestCell {V : Vm} {n : Nat} {h0 : AH} {K : Int32 → AH → Prop} (hr : RV (h0.1 16 0) V) (hw : WF V) (hn : n < V 10 1) (k : ∀ h', keepM h0 h' → K (nI (bCell V n (vFl V n))) h') : ∀ r c h, c + r = vFl V n → keepM h0 h → AW M_X11_bestCell (.inl K) 14 [some (aR 15 0), some (aI (nI n)), some (aI (nI (bCell V n c))), some (aI (nI (c + 1)))] [] h 0 0 := by
  have hf : vFl V n ≤ 7 := fly_le _
  intro r
  induction r with
  | zero =>
    intro c h hc h1
    refine vc_X11_bestCell_14 (nI n) (nI (bCell V n c)) (nI (c + 1)) ?_
    have hr' := hr
    rw [← keepM_r0 h1] at hr'
    refine ⟨V, n, ⟨hr', hw, hn, rfl⟩, ?_⟩
    simp (disch := omega) only [n_lt]
    have : c = vFl V n := by omega
    subst this
    exact ⟨fun _ => k h h1, fun q => absurd (by omega) q⟩
  | succ r ih =>
    intro c h hc h1
    refine vc_X11_bestCell_14 (nI n) (nI (bCell V n c)) (nI (c + 1)) ?_
    have hr' := hr
    rw [← keepM_r0 h1] at hr'
    refine ⟨V, n, ⟨hr', hw, hn, rfl⟩, ?_⟩
    have hb := bCell_le V n c
    simp (disch := omega) only [n_lt, nI_add]
    refine ⟨fun q => by omega, fun _ => ⟨V, n, c + 1, ⟨hr', hw, hn, rfl⟩, by omega, rfl, by decide, fun h3 o3 => ?_⟩⟩
    have k3 := keepM_tr h1 (keepM_o (by decide) (by decide) o3)
    have hr3 := hr
    rw [← keepM_r0 k3] at hr3
    refine ⟨V, n, bCell V n c, ⟨hr3, hw, hn, rfl⟩, by omega, rfl, by decide, fun h5 o5 => ?_⟩
    have k5 := keepM_tr k3 (keepM_o (by decide) (by decide) o5)
    have g1 := brg_le hw hn (show c + 1 < 8 by omega)
    have g2 := brg_le hw hn (show bCell V n c < 8 by omega)
    have := ih (c + 1) h5 (by omega) k5
    rw [bCell] at this
    simp (disch := omega) only [n_le]
    refine ⟨fun q => ?_, fun q => ?_⟩
    · rw [if_neg (by omega)] at this; exact this
    · rw [if_pos (by omega)] at this; exact this
theorem snd_X11_bestCell (a : Int32) {h : AH} {K : Int32 → AH → Prop} (k : S_X11_bestCell a h K) : AW M_X11_bestCell (.inl K) 0 [some (aR 15 0), some (aI a), none, none] [] h 0 0 := by
  obtain ⟨V, hr, hw, k1, k2⟩ := k
  refine vc_X11_bestCell a ?_
  have h7 := hw.2.1
  obtain ⟨-, -, -, -, -, -, -, -, -, -, -, e1, -, -⟩ := RVs hr
  unfold S_X11_isSheep
  rw [e1]
  simp only [if10_eq, in_iff (x := a) (n := V 10 1) (by omega)]
  refine ⟨fun q => ?_, fun q => k2 (fun z => q (fun w => w z))⟩
  obtain ⟨n, hn, rfl⟩ := Decidable.not_not.mp q
  exact lp_X11_bestCell hr hw hn (fun h' q => k1 n h' hn rfl q) (vFl V n) 0 h (by omega) (keepM_rfl h)
theorem tr_X11_bestCell : ∀ (as : List AV) (h : AH) (K : Int32 → AH → Prop), T_X11_bestCell as h K → ∃ (q : Nat) (r : List AV), as = aR 15 q :: r := by
  intro as h K hk
  match as, hk with
  | [.inr (.inr (.inl q0)), .inl q1], hk =>
    obtain ⟨hb, hk⟩ := tif_inv hk
    simp only [Bool.and_eq_true] at hb
    obtain ⟨e0, e1⟩ := hb
    obtain ⟨a0, b0⟩ := q0
    have f0 : a0 = 15 := Nat.eq_of_beq_eq_true e0
    subst f0
    have f1 : b0 = 0 := Nat.eq_of_beq_eq_true e1
    subst f1
    exact ⟨_, _, rfl⟩
theorem tw_X11_bestCell : ∀ (as : List AV) (h : AH) (K : Int32 → AH → Prop), T_X11_bestCell as h K → (ini as).length ≤ mNL M_X11_bestCell ∧ AW M_X11_bestCell (.inl K) 0 (initL (mNL M_X11_bestCell) as) [] h 0 0 := by
  intro as h K hk
  match as, hk with
  | [.inr (.inr (.inl q0)), .inl q1], hk =>
    obtain ⟨hb, hk⟩ := tif_inv hk
    simp only [Bool.and_eq_true] at hb
    obtain ⟨e0, e1⟩ := hb
    obtain ⟨a0, b0⟩ := q0
    have f0 : a0 = 15 := Nat.eq_of_beq_eq_true e0
    subst f0
    have f1 : b0 = 0 := Nat.eq_of_beq_eq_true e1
    subst f1
    exact ⟨Nat.le_of_ble_eq_true rfl, snd_X11_bestCell q1 hk⟩


/-! ===== the reference: a valley told ===== -/
theorem rd_b {H : Nat → Int32} {p : Nat} {g : Nat} (hg : g = 1 ∨ g = 2) : (rd H g p 0).2.2 ≤ if g = 2 then 99 else 9 := by
  have d : ∀ x, dgt x → nN x - 48 ≤ 9 := fun x hx => by
    obtain ⟨k, hk, rfl⟩ := in_d.mp hx
    unfold nN
    rw [n_cl (by omega)]
    omega
  rcases hg with rfl | rfl
  · rw [if_neg (by decide)]
    unfold rd
    split
    · rename_i q
      have := d _ q
      unfold rd
      show 10 * 0 + (nN (H p) - 48) ≤ 9
      omega
    · exact Nat.zero_le _
  · rw [if_pos rfl]
    unfold rd
    split
    · rename_i q
      have d1 := d _ q
      unfold rd
      split
      · rename_i q2
        have d2 := d _ q2
        unfold rd
        show 10 * (10 * 0 + (nN (H p) - 48)) + (nN (H (p + 1)) - 48) ≤ 99
        omega
      · show 10 * 0 + (nN (H p) - 48) ≤ 99
        omega
    · exact Nat.zero_le _
theorem rdG_p {H : Nat → Int32} : ∀ gs, (∀ g, g ∈ gs → g = 1 ∨ g = 2) → ∀ p, p ≤ (rdG H gs p).2.1 ∧ (rdG H gs p).2.1 ≤ p + 2 * gs.length + 1
  | [], _, p => by
    unfold rdG
    split
    · exact ⟨Nat.le_add_right _ _, Nat.le_refl _⟩
    · exact ⟨Nat.le_refl _, Nat.le_add_right _ _⟩
  | g :: gs, hg, p => by
    have h1 := rd_p (H := H) g p 0
    have h2 := rdG_p (H := H) gs (fun x hx => hg x (List.mem_cons_of_mem _ hx)) (rd H g p 0).2.1
    have h3 := hg g (List.mem_cons_self ..)
    simp only [List.length_cons]
    unfold rdG
    split
    · show p ≤ (rdG H gs (rd H g p 0).2.1).2.1 ∧ (rdG H gs (rd H g p 0).2.1).2.1 ≤ _
      omega
    · show p ≤ (rd H g p 0).2.1 ∧ (rd H g p 0).2.1 ≤ _
      omega
theorem rdG_l {H : Nat → Int32} : ∀ gs, (∀ g, g ∈ gs → g = 1 ∨ g = 2) → ∀ p, (rdG H gs p).1 = true → (rdG H gs p).2.2.length = gs.length ∧ ∀ j, j < gs.length → (rdG H gs p).2.2.getD j 0 ≤ if gs.getD j 0 = 2 then 99 else 9
  | [], _, p, h => by
    unfold rdG at h ⊢
    split
    · exact ⟨rfl, fun j hj => absurd hj (Nat.not_lt_zero j)⟩
    · rename_i q
      rw [if_neg q] at h
      exact absurd h (show ¬ false = true by decide)
  | g :: gs, hg, p, h => by
    have h3 := hg g (List.mem_cons_self ..)
    unfold rdG at h ⊢
    by_cases q : (rd H g p 0).1 = true
    · rw [if_pos q] at h ⊢
      obtain ⟨e1, e2⟩ := rdG_l gs (fun x hx => hg x (List.mem_cons_of_mem _ hx)) (rd H g p 0).2.1 h
      refine ⟨by simp only [List.length_cons, e1], fun j hj => ?_⟩
      cases j with
      | zero => exact rd_b h3
      | succ j => exact e2 j (by simp only [List.length_cons] at hj; omega)
    · rw [if_neg q] at h
      exact absurd h (show ¬ false = true by decide)
theorem grp_g (x : Int32) : (∀ g, g ∈ grp x → g = 1 ∨ g = 2) ∧ (grp x).length ≤ 4 := by
  unfold grp
  (repeat' split) <;> refine ⟨fun g hg => ?_, by decide⟩ <;> simp at hg <;> omega
theorem rdS_p (H : Nat → Int32) (p : Nat) : p ≤ (rdS H p).2.1 ∧ (rdS H p).2.1 ≤ p + 10 ∧ ((rdS H p).1 = true → p < (rdS H p).2.1) := by
  obtain ⟨g1, g2⟩ := grp_g (H p)
  unfold rdS
  split
  · exact ⟨Nat.le_refl _, Nat.le_add_right _ _, fun z => absurd z (show ¬ false = true by decide)⟩
  · have := rdG_p (H := H) _ g1 (p + 1)
    omega
theorem rdS_l {H : Nat → Int32} {p : Nat} (h : (rdS H p).1 = true) : grp (H p) ≠ [] ∧ (rdS H p).2.2.length = (grp (H p)).length ∧ lim (grp (H p)) (fun j => (rdS H p).2.2.getD j 0) := by
  obtain ⟨g1, g2⟩ := grp_g (H p)
  unfold rdS at h ⊢
  by_cases q : grp (H p) = []
  · rw [if_pos q] at h
    exact absurd h (show ¬ false = true by decide)
  · rw [if_neg q] at h ⊢
    obtain ⟨e1, e2⟩ := rdG_l _ g1 (p + 1) h
    exact ⟨q, e1, e2⟩
/-- the statements of a text: how many, or the place of a fault -/
def sc (H : Nat → Int32) (sz : Nat) : Nat → Nat → Nat → Nat ⊕ Nat
  | 0, p, _ => .inr p
  | f + 1, p, n => if (rdS H p).1 = true then (if (rdS H p).2.1 < sz then sc H sz f (rdS H p).2.1 (n + 1) else .inl (n + 1)) else .inr (rdS H p).2.1
def stO (H : Nat → Int32) (V : Vm) (p : Nat) : Option Vm := isD V (H p) (fun j => (rdS H p).2.2.getD j 0)
/-- the statements done: the valley, or the place of a fault -/
def rn (H : Nat → Int32) (sz : Nat) : Nat → Nat → Vm → Vm ⊕ Nat
  | 0, _, V => .inl V
  | f + 1, p, V => if p < sz then (match stO H V p with
    | some U => rn H sz f (rdS H p).2.1 U
    | none => .inr p) else .inl V
theorem sc_s {H : Nat → Int32} {sz f p n : Nat} : sc H sz (f + 1) p n = if (rdS H p).1 = true then (if (rdS H p).2.1 < sz then sc H sz f (rdS H p).2.1 (n + 1) else .inl (n + 1)) else .inr (rdS H p).2.1 := rfl
theorem rn_s {H : Nat → Int32} {sz f p : Nat} {V : Vm} : rn H sz (f + 1) p V = if p < sz then (match stO H V p with
    | some U => rn H sz f (rdS H p).2.1 U
    | none => .inr p) else .inl V := rfl
def M_text (H : Nat → Int32) (sz : Nat) (V : Vm) : Int32 × Vm := match sc H sz 101 0 0 with
  | .inr p => (iI (-1000) - nI p, V)
  | .inl n => match rn H sz 101 0 V with
    | .inr p => (iI (-2000) - nI p, V)
    | .inl U => (nI n, U)
def M_valley (S : Sm) (V : Vm) (d : Int32) : Int32 × Vm := if rwR S d (nI 0) ≠ nI 0 then (rwR S d (nI 0), V) else M_text (hb (S.2 (nN d)) (S.1 4 (nN d))) (S.1 4 (nN d)) V
theorem rwR0_cases {S : Sm} (hw : WS S) (d : Int32) : (∃ m, m < 8 ∧ d = nI m ∧ S.1 0 m = 2 ∧ S.1 3 m = 0 ∧ rwR S d (nI 0) = nI 0) ∨ rwR S d (nI 0) ≠ nI 0 := by
  unfold rwR
  by_cases h : cel d
  · rw [if_neg (fun z => z h)]
    obtain ⟨m, hm, rfl⟩ := in8_iff.mp h
    unfold nN
    rw [n_cl (by omega)]
    have w := hw m hm
    by_cases h0 : S.1 0 m = 0
    · rw [if_pos h0]; exact Or.inr (by decide)
    · rw [if_neg h0]
      by_cases h2 : S.1 0 m ≠ 2 ∨ (¬ nI 0 < 0 ∧ nI (S.1 3 m) ≠ nI 0)
      · rw [if_pos h2]; exact Or.inr (by decide)
      · rw [if_neg h2]
        have a : S.1 0 m = 2 := Decidable.not_not.mp (fun z => h2 (Or.inl z))
        have b := (w.2.2 a).1
        refine Or.inl ⟨m, hm, rfl, a, ?_, rfl⟩
        have c : ¬ nI (S.1 3 m) ≠ nI 0 := fun z => h2 (Or.inr ⟨by decide, z⟩)
        exact (n_eq (by omega) (by omega)).mp (Decidable.not_not.mp c)
  · rw [if_pos h]; exact Or.inr (by decide)
/-- everything but the image and the shelves may have changed -/
def keepV (h h' : AH) : Prop := h'.2 = h.2 ∧ ∀ a b i, ¬ ((a = 16 ∧ b ≠ 3) ∨ (a = 15 ∧ i ≠ 5) ∨ a = 17 ∨ a = 19 ∨ a = 20) → h'.1 a b i = h.1 a b i
theorem keepV_rfl (h : AH) : keepV h h := ⟨rfl, fun _ _ _ _ => rfl⟩
theorem keepV_tr {h h1 h2 : AH} (a : keepV h h1) (b : keepV h1 h2) : keepV h h2 := ⟨b.1.trans a.1, fun x y i q => (b.2 x y i q).trans (a.2 x y i q)⟩
theorem keepV_o {j : Nat} {h h1 : AH} (h3 : j ≠ 3) (a : only 16 j h h1) : keepV h h1 := ⟨a.1, fun x y i q => by rw [a.2 x y (fun e => q (Or.inl ⟨e.1, by omega⟩))]⟩
theorem keepV_M {h h1 : AH} (a : keepM h h1) : keepV h h1 := ⟨a.1, fun x y i q => a.2 x y i (by omega)⟩
theorem keepV_w {h : AH} {i : Nat} {x : Int32} (hi : i ≠ 5) : keepV h (wI h 15 0 i x) := keepV_M (keepM_w (by omega))
theorem txt_o {h h' : AH} {E : Nat → Int32} {sz p a j : Nat} (o : only 16 j h h') (t : txt h E sz p a) : txt h' E sz p a := by
  obtain ⟨t1, t2, t3, t4, t5, t6, t7⟩ := t
  exact ⟨by rw [o.2 _ _ (by omega)]; exact t1, by rw [o.2 _ _ (by omega)]; exact t2, by rw [o.2 _ _ (by omega)]; exact t3, t4, t5, t6, fun i hi => by rw [o.2 _ _ (by omega)]; exact t7 i hi⟩
def S_X11_valley (d : Int32) (h : AH) (K : Int32 → AH → Prop) : Prop := ∃ S V, MSh h S ∧ WS S ∧ RV (h.1 16 0) V ∧ WF V ∧ ∀ h', keepV h h' → RV (h'.1 16 0) (M_valley S V d).2 → K (M_valley S V d).1 h'
def T_X11_valley : List AV → AH → (Int32 → AH → Prop) → Prop := fun as h K => match as with
  | [.inr (.inr (.inl q0)), .inl q1] => tif (Nat.beq q0.1 15 && Nat.beq q0.2 0) (S_X11_valley q1 h K)
  | _ => False

def M_X11_valley : MI := (RX11, cX11_valley, 8, [(0, .aload_n 0, []), (1, .iload_n 1, []), (2, .iconst 0, []), (3, .invokevirtual 141, []), (6, .istore_n 2, []), (7, .iload_n 2, []), (8, .ifCond .eq 5, [13]), (11, .iload_n 2, []), (12, .ireturn, []), (13, .aload_n 0, []), (14, .bipush 100, []), (16, .iload_n 1, []), (17, .imul, []), (18, .putfield 109, []), (21, .aload_n 0, []), (22, .aload_n 0, []), (23, .getfield 47, []), (26, .iload_n 1, []), (27, .iaload, []), (28, .putfield 106, []), (31, .aload_n 0, []), (32, .iconst 0, []), (33, .putfield 102, []), (36, .iconst 0, []), (37, .istore_n 3, []), (38, .iconst 0, []), (39, .istore 4, []), (41, .aload_n 0, []), (42, .invokevirtual 144, []), (45, .ifCond .ne 13, [58]), (48, .sipush (-1000), []), (51, .aload_n 0, []), (52, .getfield 102, []), (55, .isub, []), (56, .istore 4, []), (58, .iinc 3 1, []), (61, .iload 4, []), (63, .ifCond .ne 14, [77]), (66, .aload_n 0, []), (67, .getfield 102, []), (70, .aload_n 0, []), (71, .getfield 106, []), (74, .if_icmp .lt (-33), [41]), (77, .aload_n 0, []), (78, .getfield 9, []), (81, .aload_n 0, []), (82, .getfield 22, []), (85, .invokestatic 148, []), (88, .aload_n 0, []), (89, .iconst 0, []), (90, .putfield 102, []), (93, .iload 4, []), (95, .ifCond .ne 66, [161]), (98, .aload_n 0, []), (99, .getfield 102, []), (102, .aload_n 0, []), (103, .getfield 106, []), (106, .if_icmp .ge 55, [161]), (109, .aload_n 0, []), (110, .getfield 102, []), (113, .istore 5, []), (115, .aload_n 0, []), (116, .invokevirtual 112, []), (119, .istore 6, []), (121, .aload_n 0, []), (122, .invokevirtual 144, []), (125, .istore 7, []), (127, .aload_n 0, []), (128, .iload 6, []), (130, .invokevirtual 152, []), (133, .ifCond .eq 6, [139]), (136, .goto (-43), [93]), (139, .sipush (-2000), []), (142, .iload 5, []), (144, .isub, []), (145, .istore 4, []), (147, .aload_n 0, []), (148, .getfield 22, []), (151, .aload_n 0, []), (152, .getfield 9, []), (155, .invokestatic 148, []), (158, .goto (-65), [93]), (161, .iload 4, []), (163, .ifCond .ne 7, [170]), (166, .iload_n 3, []), (167, .goto 5, [172]), (170, .iload 4, []), (172, .ireturn, [])], [(109, (15, 7, 0, 0, 0)), (47, (15, 20, 1, 21, 4)), (106, (15, 8, 0, 0, 0)), (102, (15, 6, 0, 0, 0)), (9, (15, 0, 1, 16, 0)), (22, (15, 4, 1, 16, 4))], [], [], [(423, (3, 3, 64, 0, 0, .inl T_X11_wrongRow)), (432, (1, 3, 67, 0, 0, .inl T_X11_readsStatement)), (445, (2, 1, 22, 0, 0, .inr (.inl T_X11_copies))), (336, (1, 1, 20, 0, 0, .inl T_X11_here)), (456, (2, 6, 140, 0, 0, .inl T_X11_isDone))], 6, 140, 0, 0)
theorem ok_X11_valley : MOK M_X11_valley := ⟨by decide +kernel, List.forall_mem_cons.mpr ⟨fl_RX11_109, List.forall_mem_cons.mpr ⟨fl_RX11_47, List.forall_mem_cons.mpr ⟨fl_RX11_106, List.forall_mem_cons.mpr ⟨fl_RX11_102, List.forall_mem_cons.mpr ⟨fl_RX11_9, List.forall_mem_cons.mpr ⟨fl_RX11_22, fun _ h => absurd h List.not_mem_nil⟩⟩⟩⟩⟩⟩, fun _ h => absurd h List.not_mem_nil, fun _ h => absurd h List.not_mem_nil, List.forall_mem_cons.mpr ⟨⟨Nat.le_of_ble_eq_true rfl, Nat.le_of_ble_eq_true rfl, cr_RX11_423⟩, List.forall_mem_cons.mpr ⟨⟨Nat.le_of_ble_eq_true rfl, Nat.le_of_ble_eq_true rfl, cr_RX11_432⟩, List.forall_mem_cons.mpr ⟨⟨Nat.le_of_ble_eq_true rfl, Nat.le_of_ble_eq_true rfl, cr_RX11_445⟩, List.forall_mem_cons.mpr ⟨⟨Nat.le_of_ble_eq_true rfl, Nat.le_of_ble_eq_true rfl, cr_RX11_336⟩, List.forall_mem_cons.mpr ⟨⟨Nat.le_of_ble_eq_true rfl, Nat.le_of_ble_eq_true rfl, cr_RX11_456⟩, fun _ h => absurd h List.not_mem_nil⟩⟩⟩⟩⟩⟩
set_option maxRecDepth 100000 in
theorem vc_X11_valley {K : Int32 → AH → Prop} {h : AH} (p1 : Int32) (H : S_X11_wrongRow p1 (nI 0) h (fun x2 h1 => ((x2 = 0) → inR p1 8 ∧ AW M_X11_valley (.inl K) 41 [some (aR 15 0), none, none, some (aI (nI 0)), some (aI (nI 0)), none, none, none] [] (wI (wI (wI h1 15 0 7 ((nI 100) * p1)) 15 0 8 ((wI h1 15 0 7 ((nI 100) * p1)).1 21 4 p1.toNatClampNeg)) 15 0 6 (nI 0)) 0 0) ∧ (¬ (x2 = 0) → K x2 h1))) : AW M_X11_valley (.inl K) 0 [some (aR 15 0), some (aI p1), none, none, none, none, none, none] [] h 0 0 := AW_go (cuts := [(41, [true, false, false, true, true, false, false, false]), (93, [true, false, false, true, true, false, false, false])]) ok_X11_valley 400 H
set_option maxRecDepth 100000 in
theorem vc_X11_valley_41 {K : Int32 → AH → Prop} {h : AH}  (l3 : Int32) (l4 : Int32) (H : S_X11_readsStatement h (fun x2 h1 => ((¬ x2 = 0) → ((¬ l4 = 0) → S_X11_copies 0 4 h1 (fun h3 => AW M_X11_valley (.inl K) 93 [some (aR 15 0), none, none, some (aI (l3 + (nI 1))), some (aI l4), none, none, none] [] (wI h3 15 0 6 (nI 0)) 0 0)) ∧ (¬ (¬ l4 = 0) → (((h1.1 15 0 6) < (h1.1 15 0 8)) → AW M_X11_valley (.inl K) 41 [some (aR 15 0), none, none, some (aI (l3 + (nI 1))), some (aI l4), none, none, none] [] h1 0 0) ∧ (¬ ((h1.1 15 0 6) < (h1.1 15 0 8)) → S_X11_copies 0 4 h1 (fun h4 => AW M_X11_valley (.inl K) 93 [some (aR 15 0), none, none, some (aI (l3 + (nI 1))), some (aI l4), none, none, none] [] (wI h4 15 0 6 (nI 0)) 0 0)))) ∧ (¬ (¬ x2 = 0) → ((¬ ((iI (-1000)) - (h1.1 15 0 6)) = 0) → S_X11_copies 0 4 h1 (fun h5 => AW M_X11_valley (.inl K) 93 [some (aR 15 0), none, none, some (aI (l3 + (nI 1))), some (aI ((iI (-1000)) - (h1.1 15 0 6))), none, none, none] [] (wI h5 15 0 6 (nI 0)) 0 0)) ∧ (¬ (¬ ((iI (-1000)) - (h1.1 15 0 6)) = 0) → (((h1.1 15 0 6) < (h1.1 15 0 8)) → AW M_X11_valley (.inl K) 41 [some (aR 15 0), none, none, some (aI (l3 + (nI 1))), some (aI ((iI (-1000)) - (h1.1 15 0 6))), none, none, none] [] h1 0 0) ∧ (¬ ((h1.1 15 0 6) < (h1.1 15 0 8)) → S_X11_copies 0 4 h1 (fun h6 => AW M_X11_valley (.inl K) 93 [some (aR 15 0), none, none, some (aI (l3 + (nI 1))), some (aI ((iI (-1000)) - (h1.1 15 0 6))), none, none, none] [] (wI h6 15 0 6 (nI 0)) 0 0)))))) : AW M_X11_valley (.inl K) 41 [some (aR 15 0), none, none, some (aI l3), some (aI l4), none, none, none] [] h 0 0 := AW_go (cuts := [(41, [true, false, false, true, true, false, false, false]), (93, [true, false, false, true, true, false, false, false])]) ok_X11_valley 400 H
set_option maxRecDepth 100000 in
theorem vc_X11_valley_93 {K : Int32 → AH → Prop} {h : AH}  (l3 : Int32) (l4 : Int32) (H : ((¬ l4 = 0) → ((¬ l4 = 0) → K l4 h) ∧ (¬ (¬ l4 = 0) → K l3 h)) ∧ (¬ (¬ l4 = 0) → (((h.1 15 0 8) ≤ (h.1 15 0 6)) → ((¬ l4 = 0) → K l4 h) ∧ (¬ (¬ l4 = 0) → K l3 h)) ∧ (¬ ((h.1 15 0 8) ≤ (h.1 15 0 6)) → S_X11_here h (fun x2 h1 => S_X11_readsStatement h1 (fun x4 h3 => S_X11_isDone x2 h3 (fun x6 h5 => ((x6 = 0) → S_X11_copies 4 0 h5 (fun h7 => AW M_X11_valley (.inl K) 93 [some (aR 15 0), none, none, some (aI l3), some (aI ((iI (-2000)) - (h.1 15 0 6))), none, none, none] [] h7 0 0)) ∧ (¬ (x6 = 0) → AW M_X11_valley (.inl K) 93 [some (aR 15 0), none, none, some (aI l3), some (aI l4), none, none, none] [] h5 0 0))))))) : AW M_X11_valley (.inl K) 93 [some (aR 15 0), none, none, some (aI l3), some (aI l4), none, none, none] [] h 0 0 := AW_go (cuts := [(41, [true, false, false, true, true, false, false, false]), (93, [true, false, false, true, true, false, false, false])]) ok_X11_valley 400 H

theorem flt0 {p : Nat} (hp : p ≤ 200) : ¬ iI (-1000) - nI p = 0 ∧ ¬ iI (-2000) - nI p = 0 := by
  rw [nI_iI, i_sub, i_sub, i_0, i_eq (by omega) (by omega) (by omega) (by omega), i_eq (by omega) (by omega) (by omega) (by omega)]
  omega
theorem lp2_X11_valley {E : Nat → Int32} {sz a n0 : Nat} {V0 : Vm} {h0 : AH} {K : Int32 → AH → Prop} (hv0 : WF V0) (hn : n0 ≤ 101) (k : ∀ h', keepV h0 h' → RV (h'.1 16 0) V0 → ∀ p, rn (hb E sz) sz 101 0 V0 = .inr p → K (iI (-2000) - nI p) h') (k2 : ∀ h' U, keepV h0 h' → RV (h'.1 16 0) U → rn (hb E sz) sz 101 0 V0 = .inl U → K (nI n0) h') : ∀ f p V h, p + f ≥ 101 → p ≤ 110 → (p < sz → ∃ m n, sc (hb E sz) sz f p m = .inl n) → rn (hb E sz) sz 101 0 V0 = rn (hb E sz) sz f p V → keepV h0 h → txt h E sz p a → RV (h.1 16 0) V → WF V → RV (h.1 16 4) V0 → AW M_X11_valley (.inl K) 93 [some (aR 15 0), none, none, some (aI (nI n0)), some (aI (nI 0)), none, none, none] [] h 0 0 := by
  intro f
  induction f with
  | zero =>
    intro p V h hp hp2 hs hr kv ht rv wv r4
    refine vc_X11_valley_93 (nI n0) (nI 0) ⟨fun q => absurd rfl q, fun _ => ?_⟩
    rw [ht.1, ht.2.2.1, n_le (by have := ht.2.2.2.2.1; omega) (by omega)]
    refine ⟨fun _ => ⟨fun q => absurd rfl q, fun _ => ?_⟩, fun q => by have := ht.2.2.2.2.1; omega⟩
    exact k2 h V kv rv (by rw [hr]; rfl)
  | succ f ih =>
    intro p V h hp hp2 hs hr kv ht rv wv r4
    refine vc_X11_valley_93 (nI n0) (nI 0) ⟨fun q => absurd rfl q, fun _ => ?_⟩
    rw [ht.1, ht.2.2.1, n_le (by have := ht.2.2.2.2.1; omega) (by omega)]
    rw [rn_s (f := f) (p := p) (V := V)] at hr
    refine ⟨fun q => ⟨fun q => absurd rfl q, fun _ => ?_⟩, fun q => ⟨E, sz, p, a, ht, ?_⟩⟩
    · rw [if_neg (by omega)] at hr
      exact k2 h V kv rv hr
    · have q : p < sz := by omega
      rw [if_pos q] at hr
      obtain ⟨m, n, es⟩ := hs q
      rw [sc_s (f := f) (p := p) (n := m)] at es
      by_cases ok : (rdS (hb E sz) p).1 = true
      case neg => rw [if_neg ok] at es; cases es
      rw [if_pos ok] at es
      obtain ⟨p1, p2, p3⟩ := rdS_p (hb E sz) p
      obtain ⟨l1, l2, l3⟩ := rdS_l ok
      have hz : sz ≤ 100 := ht.2.2.2.2.1
      refine ⟨E, sz, p, a, ht, by omega, fun h1 n1 t1 e1 => ?_⟩
      rw [if_pos ok]
      have e1 := e1 ok
      have k1 : keepV h h1 := keepV_M (keepN_M n1)
      have r1 : RV (h1.1 16 0) V := by
        have : h1.1 16 0 = h.1 16 0 := funext fun i => n1.2 16 0 i (by omega)
        rw [this]; exact rv
      have r41 : RV (h1.1 16 4) V0 := by
        have : h1.1 16 4 = h.1 16 4 := funext fun i => n1.2 16 4 i (by omega)
        rw [this]; exact r4
      refine ⟨V, fun j => (rdS (hb E sz) p).2.2.getD j 0, r1, wv, l1, l3, fun j hj => e1 j (by omega), fun h2 o2 => ⟨fun U eU rU => ⟨fun z => absurd z (by decide), fun _ => ?_⟩, fun eN => ⟨fun _ => ?_, fun z => absurd (by decide) z⟩⟩⟩
      · have hr2 : rn (hb E sz) sz 101 0 V0 = rn (hb E sz) sz f (rdS (hb E sz) p).2.1 U := by
          rw [hr]
          have : stO (hb E sz) V p = some U := eU
          rw [this]
        refine ih (rdS (hb E sz) p).2.1 U h2 (by have := p3 ok; omega) (by omega) (fun z => ?_) hr2 (keepV_tr kv (keepV_tr k1 (keepV_o (by omega) o2))) (txt_o o2 t1) rU (WF_isD wv l1 l3 eU) ?_
        · rw [if_pos z] at es
          exact ⟨_, _, es⟩
        · rw [o2.2 16 4 (by omega)]; exact r41
      · have hr2 : rn (hb E sz) sz 101 0 V0 = .inr p := by
          rw [hr]
          have : stO (hb E sz) V p = none := eN
          rw [this]
        refine ⟨by decide, fun h3 o3 c3 => ?_⟩
        have r43 : RV (h3.1 16 0) V0 := by
          refine RV_cp hv0 (r := h2.1 16 4) ?_ c3
          rw [o2.2 16 4 (by omega)]; exact r41
        have kv3 := keepV_tr kv (keepV_tr k1 (keepV_tr (keepV_o (by omega) o2) (keepV_o (by omega) o3)))
        have f0 := (flt0 (p := p) (by omega)).2
        exact vc_X11_valley_93 (nI n0) (iI (-2000) - nI p) ⟨fun _ => ⟨fun _ => k h3 kv3 r43 p hr2, fun z => absurd f0 z⟩, fun z => absurd f0 z⟩
theorem lp1_X11_valley {S : Sm} {E : Nat → Int32} {sz a : Nat} {V : Vm} {h0 : AH} {K : Int32 → AH → Prop} (hv : WF V) (k : ∀ h', keepV h0 h' → RV (h'.1 16 0) (M_text (hb E sz) sz V).2 → K (M_text (hb E sz) sz V).1 h') : ∀ f p n h, p + f ≥ 101 → (p = 0 ∨ p < sz) → n + f ≤ 101 → sc (hb E sz) sz 101 0 0 = sc (hb E sz) sz f p n → keepV h0 h → txt h E sz p a → RV (h.1 16 0) V → AW M_X11_valley (.inl K) 41 [some (aR 15 0), none, none, some (aI (nI n)), some (aI (nI 0)), none, none, none] [] h 0 0 := by
  intro f
  induction f with
  | zero =>
    intro p n h hp hp2 hn hs kv ht rv
    have hz : sz ≤ 100 := ht.2.2.2.2.1
    omega
  | succ f ih =>
    intro p n h hp hp2 hn hs kv ht rv
    have hz : sz ≤ 100 := ht.2.2.2.2.1
    refine vc_X11_valley_41 (nI n) (nI 0) ⟨E, sz, p, a, ht, by omega, fun h1 n1 t1 _ => ?_⟩
    obtain ⟨p1, p2, p3⟩ := rdS_p (hb E sz) p
    have k1 : keepV h0 h1 := keepV_tr kv (keepV_M (keepN_M n1))
    have r1 : RV (h1.1 16 0) V := by
      have : h1.1 16 0 = h.1 16 0 := funext fun i => n1.2 16 0 i (by omega)
      rw [this]; exact rv
    rw [sc_s (f := f) (p := p) (n := n)] at hs
    by_cases ok : (rdS (hb E sz) p).1 = true
    · rw [if_pos ok] at hs ⊢
      rw [t1.1, t1.2.2.1, n_lt (by omega) (by omega), nI_add]
      refine ⟨fun _ => ⟨fun z => absurd rfl z, fun _ => ⟨fun q => ?_, fun q => ⟨by decide, fun h3 o3 c3 => ?_⟩⟩⟩, fun z => absurd (show ¬ nI 1 = 0 by decide) z⟩
      · rw [if_pos q] at hs
        exact ih (rdS (hb E sz) p).2.1 (n + 1) h1 (by have := p3 ok; omega) (Or.inr q) (by omega) hs k1 t1 r1
      · rw [if_neg q] at hs
        have k3 : keepV h0 (wI h3 15 0 6 (nI 0)) := keepV_tr k1 (keepV_tr (keepV_o (by omega) o3) (keepV_w (by omega)))
        have t3 : txt (wI h3 15 0 6 (nI 0)) E sz 0 a := txt_k keepN_6 (txt_o o3 t1) (wI_at _ _ _ _ _) (by omega)
        have r3 : RV ((wI h3 15 0 6 (nI 0)).1 16 0) V := by
          have : (wI h3 15 0 6 (nI 0)).1 16 0 = h1.1 16 0 := by
            funext i
            rw [wI_nt (by omega), o3.2 16 0 (by omega)]
          rw [this]; exact r1
        have r4 : RV ((wI h3 15 0 6 (nI 0)).1 16 4) V := RV_cp hv r1 (fun i hi => by rw [wI_nt (by omega)]; exact c3 i hi)
        refine lp2_X11_valley (h0 := h0) (V0 := V) hv (by omega) (fun h' q1 q2 p' q3 => ?_) (fun h' U q1 q2 q3 => ?_) 101 0 V _ (by omega) (by omega) (fun _ => ⟨0, n + 1, hs⟩) rfl k3 t3 r3 hv r4
        · have := k h' q1
          unfold M_text at this
          rw [hs] at this
          simp only [q3] at this
          exact this q2
        · have := k h' q1
          unfold M_text at this
          rw [hs] at this
          simp only [q3] at this
          exact this q2
    · rw [if_neg ok] at hs ⊢
      have f0 := (flt0 (p := (rdS (hb E sz) p).2.1) (by omega)).1
      rw [t1.1]
      refine ⟨fun z => absurd (show nI 0 = 0 by decide) z, fun _ => ⟨fun _ => ⟨by decide, fun h3 o3 c3 => ?_⟩, fun z => absurd f0 z⟩⟩
      have k3 : keepV h0 (wI h3 15 0 6 (nI 0)) := keepV_tr k1 (keepV_tr (keepV_o (by omega) o3) (keepV_w (by omega)))
      have r3 : RV ((wI h3 15 0 6 (nI 0)).1 16 0) V := by
        have : (wI h3 15 0 6 (nI 0)).1 16 0 = h1.1 16 0 := by
          funext i
          rw [wI_nt (by omega), o3.2 16 0 (by omega)]
        rw [this]; exact r1
      refine vc_X11_valley_93 _ _ ⟨fun _ => ⟨fun _ => ?_, fun z => absurd f0 z⟩, fun z => absurd f0 z⟩
      have := k _ k3
      unfold M_text at this
      rw [hs] at this
      exact this r3
theorem snd_X11_valley (d : Int32) {h : AH} {K : Int32 → AH → Prop} (k : S_X11_valley d h K) : AW M_X11_valley (.inl K) 0 [some (aR 15 0), some (aI d), none, none, none, none, none, none] [] h 0 0 := by
  obtain ⟨S, V, hs, hw, hr, hv, k⟩ := k
  refine vc_X11_valley d ⟨S, hs, hw, ?_⟩
  unfold M_valley at k
  rcases rwR0_cases hw d with ⟨m, hm, rfl, h2, h3, e⟩ | e
  case inr =>
    rw [if_pos e] at k
    exact ⟨fun q => absurd q e, fun _ => k h (keepV_rfl h) hr⟩
  refine ⟨fun _ => ?_, fun q => absurd e q⟩
  rw [if_neg (fun z => z e)] at k
  unfold nN at k
  rw [n_cl (show m < 2147483648 by omega)] at k
  obtain ⟨a, b, c⟩ := hs m hm
  obtain ⟨c1, c2, c3⟩ := c h2
  have hw3 := (hw m hm).2.2 h2
  simp (disch := omega) only [n_inT, n_cl, true_and, pk_mul]
  rw [uI_nt (show (21 : Nat) ≠ 15 by decide), c2]
  refine lp1_X11_valley (S := S) (h0 := h) (E := S.2 m) (sz := S.1 4 m) (a := 100 * m) hv k 101 0 0 _ (by omega) (Or.inl rfl) (by omega) rfl (keepV_tr (keepV_w (by omega)) (keepV_tr (keepV_w (by omega)) (keepV_w (by omega)))) ?_ ?_
  · refine ⟨wI_at _ _ _ _ _, ?_, ?_, by omega, by omega, by omega, fun i hi => ?_⟩
    · rw [wI_ni (by omega), wI_ni (by omega), wI_at]
    · rw [wI_ni (by omega), wI_at]
    · rw [wI_nt (by omega), wI_nt (by omega), wI_nt (by omega), c3 i (by omega)]
  · have : (wI (wI (wI h 15 0 7 (nI (100 * m))) 15 0 8 (nI (S.1 4 m))) 15 0 6 (nI 0)).1 16 0 = h.1 16 0 := by
      funext i
      rw [wI_nt (by omega), wI_nt (by omega), wI_nt (by omega)]
    rw [this]; exact hr
theorem tr_X11_valley : ∀ (as : List AV) (h : AH) (K : Int32 → AH → Prop), T_X11_valley as h K → ∃ (q : Nat) (r : List AV), as = aR 15 q :: r := by
  intro as h K hk
  match as, hk with
  | [.inr (.inr (.inl q0)), .inl q1], hk =>
    obtain ⟨hb, hk⟩ := tif_inv hk
    simp only [Bool.and_eq_true] at hb
    obtain ⟨e0, e1⟩ := hb
    obtain ⟨a0, b0⟩ := q0
    have f0 : a0 = 15 := Nat.eq_of_beq_eq_true e0
    subst f0
    have f1 : b0 = 0 := Nat.eq_of_beq_eq_true e1
    subst f1
    exact ⟨_, _, rfl⟩
theorem tw_X11_valley : ∀ (as : List AV) (h : AH) (K : Int32 → AH → Prop), T_X11_valley as h K → (ini as).length ≤ mNL M_X11_valley ∧ AW M_X11_valley (.inl K) 0 (initL (mNL M_X11_valley) as) [] h 0 0 := by
  intro as h K hk
  match as, hk with
  | [.inr (.inr (.inl q0)), .inl q1], hk =>
    obtain ⟨hb, hk⟩ := tif_inv hk
    simp only [Bool.and_eq_true] at hb
    obtain ⟨e0, e1⟩ := hb
    obtain ⟨a0, b0⟩ := q0
    have f0 : a0 = 15 := Nat.eq_of_beq_eq_true e0
    subst f0
    have f1 : b0 = 0 := Nat.eq_of_beq_eq_true e1
    subst f1
    exact ⟨Nat.le_of_ble_eq_true rfl, snd_X11_valley q1 hk⟩


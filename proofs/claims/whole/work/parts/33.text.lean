/-! ===== the reference: reading a text ===== -/
/-- the byte at a place of a text, or -1 behind its end -/
def hb (E : Nat → Int32) (sz p : Nat) : Int32 := if p < sz then E p &&& nI 255 else iI (-1)
abbrev dgt (x : Int32) : Prop := nI 48 ≤ x ∧ x ≤ nI 57
theorem in_d {x : Int32} : dgt x ↔ ∃ k, k ≤ 9 ∧ x = nI (48 + k) := by
  constructor
  · intro ⟨h1, h2⟩
    obtain ⟨k, hk, rfl⟩ := n_of (n := 57) (by omega) (Int32.le_trans (show nI 0 ≤ nI 48 by decide) h1) h2
    have := (n_le (by omega) (by omega)).mp h1
    exact ⟨k - 48, by omega, by congr 1; omega⟩
  · rintro ⟨k, hk, rfl⟩
    exact ⟨(n_le (by omega) (by omega)).mpr (by omega), (n_le (by omega) (by omega)).mpr (by omega)⟩
/-- digits read: whether all were there, the place behind, the number -/
def rd (H : Nat → Int32) : Nat → Nat → Nat → Bool × Nat × Nat
  | 0, p, v => (true, p, v)
  | n + 1, p, v => if dgt (H p) then rd H n (p + 1) (10 * v + (nN (H p) - 48)) else (false, p, v)
theorem rd_p {H : Nat → Int32} : ∀ n p v, p ≤ (rd H n p v).2.1 ∧ (rd H n p v).2.1 ≤ p + n
  | 0, p, v => ⟨Nat.le_refl _, Nat.le_refl _⟩
  | n + 1, p, v => by
    unfold rd
    split
    · have := rd_p (H := H) n (p + 1) (10 * v + (nN (H p) - 48))
      omega
    · exact ⟨Nat.le_refl _, Nat.le_add_right _ _⟩
def txt (h : AH) (E : Nat → Int32) (sz p a : Nat) : Prop := h.1 15 0 6 = nI p ∧ h.1 15 0 7 = nI a ∧ h.1 15 0 8 = nI sz ∧ p ≤ 200 ∧ sz ≤ 100 ∧ a ≤ 700 ∧ ∀ i, i < sz → h.1 22 0 (a + i) = E i
/-- only the numbers read and the place have changed -/
def keepN (h h' : AH) : Prop := h'.2 = h.2 ∧ ∀ t p i, ¬ (t = 19 ∨ (t = 15 ∧ i = 6)) → h'.1 t p i = h.1 t p i
theorem keepN_rfl (h : AH) : keepN h h := ⟨rfl, fun _ _ _ _ => rfl⟩
theorem keepN_tr {h h1 h2 : AH} (a : keepN h h1) (b : keepN h1 h2) : keepN h h2 := ⟨b.1.trans a.1, fun x y i q => (b.2 x y i q).trans (a.2 x y i q)⟩
theorem keepN_6 {h : AH} {x : Int32} : keepN h (wI h 15 0 6 x) := ⟨rfl, fun a b j q => by rw [wI_get, if_neg (fun e => q (Or.inr ⟨e.1, e.2.2⟩))]⟩
theorem keepN_19 {h : AH} {i : Nat} {x : Int32} : keepN h (wI h 19 0 i x) := ⟨rfl, fun a b j q => by rw [wI_get, if_neg (fun e => q (Or.inl e.1))]⟩
theorem keepN_M {h h1 : AH} (a : keepN h h1) : keepM h h1 := ⟨a.1, fun x y i q => a.2 x y i (fun e => q (by omega))⟩
theorem txt_k {h h' : AH} {E : Nat → Int32} {sz p q a : Nat} (k : keepN h h') (t : txt h E sz p a) (e : h'.1 15 0 6 = nI q) (hq : q ≤ 200) : txt h' E sz q a := by
  obtain ⟨t1, t2, t3, t4, t5, t6, t7⟩ := t
  exact ⟨e, by rw [k.2 _ _ _ (by omega)]; exact t2, by rw [k.2 _ _ _ (by omega)]; exact t3, hq, t5, t6, fun i hi => by rw [k.2 _ _ _ (by omega)]; exact t7 i hi⟩
def S_X11_here (h : AH) (K : Int32 → AH → Prop) : Prop := ∃ E sz p a, txt h E sz p a ∧ K (hb E sz p) h
def T_X11_here : List AV → AH → (Int32 → AH → Prop) → Prop := fun as h K => match as with
  | [.inr (.inr (.inl q0))] => tif (Nat.beq q0.1 15 && Nat.beq q0.2 0) (S_X11_here h K)
  | _ => False

def M_X11_here : MI := (RX11, cX11_here, 1, [(0, .aload_n 0, []), (1, .getfield 102, []), (4, .aload_n 0, []), (5, .getfield 106, []), (8, .if_icmp .ge 24, [32]), (11, .aload_n 0, []), (12, .getfield 50, []), (15, .aload_n 0, []), (16, .getfield 109, []), (19, .aload_n 0, []), (20, .getfield 102, []), (23, .iadd, []), (24, .iaload, []), (25, .sipush 255, []), (28, .iand, []), (29, .goto 4, [33]), (32, .iconst (-1), []), (33, .ireturn, [])], [(102, (15, 6, 0, 0, 0)), (106, (15, 8, 0, 0, 0)), (50, (15, 21, 1, 22, 0)), (109, (15, 7, 0, 0, 0))], [], [], [], 0, 0, 0, 0)
theorem ok_X11_here : MOK M_X11_here := ⟨by decide +kernel, List.forall_mem_cons.mpr ⟨fl_RX11_102, List.forall_mem_cons.mpr ⟨fl_RX11_106, List.forall_mem_cons.mpr ⟨fl_RX11_50, List.forall_mem_cons.mpr ⟨fl_RX11_109, fun _ h => absurd h List.not_mem_nil⟩⟩⟩⟩, fun _ h => absurd h List.not_mem_nil, fun _ h => absurd h List.not_mem_nil, fun _ h => absurd h List.not_mem_nil⟩
set_option maxRecDepth 100000 in
theorem vc_X11_here {K : Int32 → AH → Prop} {h : AH}  (H : (((h.1 15 0 8) ≤ (h.1 15 0 6)) → K (iI (-1)) h) ∧ (¬ ((h.1 15 0 8) ≤ (h.1 15 0 6)) → inR ((h.1 15 0 7) + (h.1 15 0 6)) 800 ∧ K ((h.1 22 0 ((h.1 15 0 7) + (h.1 15 0 6)).toNatClampNeg) &&& (nI 255)) h)) : AW M_X11_here (.inl K) 0 [some (aR 15 0)] [] h 0 0 := AW_go (cuts := []) ok_X11_here 400 H

theorem snd_X11_here {h : AH} {K : Int32 → AH → Prop} (k : S_X11_here h K) : AW M_X11_here (.inl K) 0 [some (aR 15 0)] [] h 0 0 := by
  obtain ⟨E, sz, p, a, ⟨t1, t2, t3, t4, t5, t6, t7⟩, k⟩ := k
  refine vc_X11_here ?_
  unfold hb at k
  rw [t1, t2, t3, n_le (by omega) (by omega)]
  refine ⟨fun q => ?_, fun q => ?_⟩
  · rw [if_neg (by omega)] at k; exact k
  · rw [if_pos (by omega)] at k
    simp (disch := omega) only [nI_add, n_inT, n_cl, true_and]
    rw [t7 p (by omega)]
    exact k
theorem tr_X11_here : ∀ (as : List AV) (h : AH) (K : Int32 → AH → Prop), T_X11_here as h K → ∃ (q : Nat) (r : List AV), as = aR 15 q :: r := by
  intro as h K hk
  match as, hk with
  | [.inr (.inr (.inl q0))], hk =>
    obtain ⟨hb, hk⟩ := tif_inv hk
    simp only [Bool.and_eq_true] at hb
    obtain ⟨e0, e1⟩ := hb
    obtain ⟨a0, b0⟩ := q0
    have f0 : a0 = 15 := Nat.eq_of_beq_eq_true e0
    subst f0
    have f1 : b0 = 0 := Nat.eq_of_beq_eq_true e1
    subst f1
    exact ⟨_, _, rfl⟩
theorem tw_X11_here : ∀ (as : List AV) (h : AH) (K : Int32 → AH → Prop), T_X11_here as h K → (ini as).length ≤ mNL M_X11_here ∧ AW M_X11_here (.inl K) 0 (initL (mNL M_X11_here) as) [] h 0 0 := by
  intro as h K hk
  match as, hk with
  | [.inr (.inr (.inl q0))], hk =>
    obtain ⟨hb, hk⟩ := tif_inv hk
    simp only [Bool.and_eq_true] at hb
    obtain ⟨e0, e1⟩ := hb
    obtain ⟨a0, b0⟩ := q0
    have f0 : a0 = 15 := Nat.eq_of_beq_eq_true e0
    subst f0
    have f1 : b0 = 0 := Nat.eq_of_beq_eq_true e1
    subst f1
    exact ⟨Nat.le_of_ble_eq_true rfl, snd_X11_here  hk⟩
theorem cr_RX11_336 : CR RX11 (kIns 336) (1, 1, 20, 0, 0, .inl T_X11_here) := crV_i (t := 15) (M := M_X11_here) (by decide) rfl (by decide) rfl (inG (i := 1008) (w := Cond.methodLink RX11 112 yX11_here) (by decide +kernel) rfl) (inG (i := 1010) (w := Cond.instanceMethod yX11_here) (by decide +kernel) rfl) (inG (i := 40) (w := Cond.initialized RX11) (by decide +kernel) rfl) (inG (i := 17) (w := Cond.selects RX11 yX11_here yX11_here) (by decide +kernel) rfl) (inG (i := 1011) (w := Cond.code yX11_here cX11_here 1 (some .int)) (by decide +kernel) rfl) ⟨by decide +kernel, by decide +kernel, by decide +kernel⟩ tr_X11_here tw_X11_here

def S_X11_readsNumber (k n : Int32) (h : AH) (K : Int32 → AH → Prop) : Prop := ∃ E sz p a k0 n0, txt h E sz p a ∧ p ≤ 150 ∧ k0 < 4 ∧ k = nI k0 ∧ n0 ≤ 2 ∧ n = nI n0 ∧ ∀ h', keepN h h' → txt h' E sz (rd (hb E sz) n0 p 0).2.1 a → h'.1 19 0 k0 = nI (rd (hb E sz) n0 p 0).2.2 → (∀ j, j ≠ k0 → h'.1 19 0 j = h.1 19 0 j) → K (if (rd (hb E sz) n0 p 0).1 = true then nI 1 else nI 0) h'
def T_X11_readsNumber : List AV → AH → (Int32 → AH → Prop) → Prop := fun as h K => match as with
  | [.inr (.inr (.inl q0)), .inl q1, .inl q2] => tif (Nat.beq q0.1 15 && Nat.beq q0.2 0) (S_X11_readsNumber q1 q2 h K)
  | _ => False

def M_X11_readsNumber : MI := (RX11, cX11_readsNumber, 4, [(0, .aload_n 0, []), (1, .getfield 25, []), (4, .iload_n 1, []), (5, .iconst 0, []), (6, .iastore, []), (7, .iconst 0, []), (8, .istore_n 3, []), (9, .iload_n 3, []), (10, .iload_n 2, []), (11, .if_icmp .ge 58, [69]), (14, .aload_n 0, []), (15, .invokevirtual 112, []), (18, .bipush 48, []), (20, .bipush 57, []), (22, .invokestatic 53, []), (25, .ifCond .ne 5, [30]), (28, .iconst 0, []), (29, .ireturn, []), (30, .aload_n 0, []), (31, .getfield 25, []), (34, .iload_n 1, []), (35, .bipush 10, []), (37, .aload_n 0, []), (38, .getfield 25, []), (41, .iload_n 1, []), (42, .iaload, []), (43, .imul, []), (44, .aload_n 0, []), (45, .invokevirtual 112, []), (48, .iadd, []), (49, .bipush 48, []), (51, .isub, []), (52, .iastore, []), (53, .aload_n 0, []), (54, .dup, []), (55, .getfield 102, []), (58, .iconst 1, []), (59, .iadd, []), (60, .putfield 102, []), (63, .iinc 3 1, []), (66, .goto (-57), [9]), (69, .iconst 1, []), (70, .ireturn, [])], [(25, (15, 9, 1, 19, 0)), (102, (15, 6, 0, 0, 0))], [], [], [(336, (1, 1, 20, 0, 0, .inl T_X11_here)), (160, (3, 1, 22, 0, 0, .inl T_X11_isIn))], 1, 22, 0, 0)
theorem ok_X11_readsNumber : MOK M_X11_readsNumber := ⟨by decide +kernel, List.forall_mem_cons.mpr ⟨fl_RX11_25, List.forall_mem_cons.mpr ⟨fl_RX11_102, fun _ h => absurd h List.not_mem_nil⟩⟩, fun _ h => absurd h List.not_mem_nil, fun _ h => absurd h List.not_mem_nil, List.forall_mem_cons.mpr ⟨⟨Nat.le_of_ble_eq_true rfl, Nat.le_of_ble_eq_true rfl, cr_RX11_336⟩, List.forall_mem_cons.mpr ⟨⟨Nat.le_of_ble_eq_true rfl, Nat.le_of_ble_eq_true rfl, cr_RX11_160⟩, fun _ h => absurd h List.not_mem_nil⟩⟩⟩
set_option maxRecDepth 100000 in
theorem vc_X11_readsNumber {K : Int32 → AH → Prop} {h : AH} (p1 : Int32) (p2 : Int32) (H : inR p1 4 ∧ AW M_X11_readsNumber (.inl (fun x u => (x = 0 ∨ x = 1) ∧ K x u)) 9 [some (aR 15 0), some (aI p1), some (aI p2), some (aI (nI 0))] [] (wI h 19 0 p1.toNatClampNeg (nI 0)) 0 0) : AW M_X11_readsNumber (.inl (fun x u => (x = 0 ∨ x = 1) ∧ K x u)) 0 [some (aR 15 0), some (aI p1), some (aI p2), none] [] h 0 0 := AW_go (cuts := [(9, [true, true, true, true])]) ok_X11_readsNumber 400 H
set_option maxRecDepth 100000 in
theorem vc_X11_readsNumber_9 {K : Int32 → AH → Prop} {h : AH}  (l1 : Int32) (l2 : Int32) (l3 : Int32) (H : ((l2 ≤ l3) → (((nI 1) = 0 ∨ (nI 1) = 1) ∧ K (nI 1) h)) ∧ (¬ (l2 ≤ l3) → S_X11_here h (fun x2 h1 => S_X11_isIn x2 (nI 48) (nI 57) h1 (fun x4 h3 => ((¬ x4 = 0) → inR l1 4 ∧ S_X11_here h3 (fun x6 h5 => inR l1 4 ∧ AW M_X11_readsNumber (.inl (fun x u => (x = 0 ∨ x = 1) ∧ K x u)) 9 [some (aR 15 0), some (aI l1), some (aI l2), some (aI (l3 + (nI 1)))] [] (wI (wI h5 19 0 l1.toNatClampNeg ((((nI 10) * (h3.1 19 0 l1.toNatClampNeg)) + x6) - (nI 48))) 15 0 6 (((wI h5 19 0 l1.toNatClampNeg ((((nI 10) * (h3.1 19 0 l1.toNatClampNeg)) + x6) - (nI 48))).1 15 0 6) + (nI 1))) 0 0)) ∧ (¬ (¬ x4 = 0) → (((nI 0) = 0 ∨ (nI 0) = 1) ∧ K (nI 0) h3)))))) : AW M_X11_readsNumber (.inl (fun x u => (x = 0 ∨ x = 1) ∧ K x u)) 9 [some (aR 15 0), some (aI l1), some (aI l2), some (aI l3)] [] h 0 0 := AW_go (cuts := [(9, [true, true, true, true])]) ok_X11_readsNumber 400 H

theorem lp_X11_readsNumber {E : Nat → Int32} {sz a k0 n0 : Nat} {h0 : AH} {K : Int32 → AH → Prop} (hk0 : k0 < 4) (hn : n0 ≤ 2) : ∀ r i p v h, i + r = n0 → p + r ≤ 190 → keepN h0 h → txt h E sz p a → h.1 19 0 k0 = nI v → (∀ j, j ≠ k0 → h.1 19 0 j = h0.1 19 0 j) → (∀ h', keepN h0 h' → txt h' E sz (rd (hb E sz) r p v).2.1 a → h'.1 19 0 k0 = nI (rd (hb E sz) r p v).2.2 → (∀ j, j ≠ k0 → h'.1 19 0 j = h0.1 19 0 j) → K (if (rd (hb E sz) r p v).1 = true then nI 1 else nI 0) h') → AW M_X11_readsNumber (.inl (fun x u => (x = 0 ∨ x = 1) ∧ K x u)) 9 [some (aR 15 0), some (aI (nI k0)), some (aI (nI n0)), some (aI (nI i))] [] h 0 0 := by
  intro r
  induction r with
  | zero =>
    intro i p v h hi hp kn ht e1 e2 k
    have : i = n0 := by omega
    subst this
    refine vc_X11_readsNumber_9 (nI k0) (nI i) (nI i) ⟨fun _ => ⟨Or.inr (by decide), k h kn ht e1 e2⟩, fun q => absurd (Int32.le_refl _) q⟩
  | succ r ih =>
    intro i p v h hi hp kn ht e1 e2 k
    refine vc_X11_readsNumber_9 (nI k0) (nI n0) (nI i) ?_
    rw [n_le (by omega) (by omega)]
    refine ⟨fun q => by omega, fun _ => ⟨E, sz, p, a, ht, ?_⟩⟩
    unfold S_X11_isIn
    dsimp only
    simp only [if10_eq]
    unfold rd at k
    refine ⟨fun q => ?_, fun q => ⟨Or.inl (by decide), ?_⟩⟩
    · have q := Decidable.not_not.mp q
      rw [if_pos q] at k
      obtain ⟨c, hc, e⟩ := in_d.mp q
      have hN : nN (hb E sz p) - 48 = c := by rw [e]; unfold nN; rw [n_cl (by omega)]; omega
      rw [hN] at k
      simp (disch := omega) only [n_inT, true_and]
      refine ⟨E, sz, p, a, ht, ?_⟩
      dsimp only
      rw [e]
      obtain ⟨t1, -⟩ := id ht
      simp (disch := omega) only [n_cl, e1, pk_mul, nI_add, true_and]
      rw [show nI (10 * v + (48 + c)) - nI 48 = nI (10 * v + c) by rw [n_sub (by omega)]; congr 1; omega]
      have kn1 : keepN h (wI (wI h 19 0 k0 (nI (10 * v + c))) 15 0 6 (nI (p + 1))) := keepN_tr keepN_19 keepN_6
      have e6 : (wI h 19 0 k0 (nI (10 * v + c))).1 15 0 6 + nI 1 = nI (p + 1) := by rw [wI_nt (by omega), t1, nI_add]
      rw [e6]
      refine ih (i + 1) (p + 1) (10 * v + c) _ (by omega) (by omega) (keepN_tr kn kn1) (txt_k kn1 ht (wI_at _ _ _ _ _) (by omega)) ?_ ?_ k
      · rw [wI_nt (by omega), wI_at]
      · intro j hj
        rw [wI_nt (by omega), wI_ni hj]
        exact e2 j hj
    · have q : ¬ dgt (hb E sz p) := fun z => q (fun z2 => z2 z)
      rw [if_neg q] at k
      exact k h kn ht e1 e2
theorem snd_X11_readsNumber (k n : Int32) {h : AH} {K : Int32 → AH → Prop} (kk : S_X11_readsNumber k n h K) : AW M_X11_readsNumber (.inl (fun x u => (x = 0 ∨ x = 1) ∧ K x u)) 0 [some (aR 15 0), some (aI k), some (aI n), none] [] h 0 0 := by
  obtain ⟨E, sz, p, a, k0, n0, ht, hp, hk, rfl, hn, rfl, k⟩ := kk
  refine vc_X11_readsNumber (nI k0) (nI n0) ?_
  simp (disch := omega) only [n_inT, n_cl, true_and]
  refine lp_X11_readsNumber hk hn n0 0 p 0 _ (by omega) (by omega) keepN_19 (txt_k keepN_19 ht ?_ (by omega)) (wI_at _ _ _ _ _) (fun j hj => wI_ni hj) (fun h' k1 k2 k3 k4 => k h' k1 k2 k3 k4)
  rw [wI_nt (by omega)]
  exact ht.1
theorem tr_X11_readsNumber : ∀ (as : List AV) (h : AH) (K : Int32 → AH → Prop), T_X11_readsNumber as h K → ∃ (q : Nat) (r : List AV), as = aR 15 q :: r := by
  intro as h K hk
  match as, hk with
  | [.inr (.inr (.inl q0)), .inl q1, .inl q2], hk =>
    obtain ⟨hb, hk⟩ := tif_inv hk
    simp only [Bool.and_eq_true] at hb
    obtain ⟨e0, e1⟩ := hb
    obtain ⟨a0, b0⟩ := q0
    have f0 : a0 = 15 := Nat.eq_of_beq_eq_true e0
    subst f0
    have f1 : b0 = 0 := Nat.eq_of_beq_eq_true e1
    subst f1
    exact ⟨_, _, rfl⟩
theorem tw_X11_readsNumber : ∀ (as : List AV) (h : AH) (K : Int32 → AH → Prop), T_X11_readsNumber as h K → (ini as).length ≤ mNL M_X11_readsNumber ∧ AW M_X11_readsNumber (.inl (fun x u => (x = 0 ∨ x = 1) ∧ K x u)) 0 (initL (mNL M_X11_readsNumber) as) [] h 0 0 := by
  intro as h K hk
  match as, hk with
  | [.inr (.inr (.inl q0)), .inl q1, .inl q2], hk =>
    obtain ⟨hb, hk⟩ := tif_inv hk
    simp only [Bool.and_eq_true] at hb
    obtain ⟨e0, e1⟩ := hb
    obtain ⟨a0, b0⟩ := q0
    have f0 : a0 = 15 := Nat.eq_of_beq_eq_true e0
    subst f0
    have f1 : b0 = 0 := Nat.eq_of_beq_eq_true e1
    subst f1
    exact ⟨Nat.le_of_ble_eq_true rfl, snd_X11_readsNumber q1 q2 hk⟩
theorem cr_RX11_348 : CR RX11 (kIns 348) (3, 2, 45, 0, 0, .inl T_X11_readsNumber) := crV_z (t := 15) (M := M_X11_readsNumber) (by decide) rfl (by decide) rfl (inG (i := 1012) (w := Cond.methodLink RX11 116 yX11_readsNumber) (by decide +kernel) rfl) (inG (i := 1014) (w := Cond.instanceMethod yX11_readsNumber) (by decide +kernel) rfl) (inG (i := 40) (w := Cond.initialized RX11) (by decide +kernel) rfl) (inG (i := 18) (w := Cond.selects RX11 yX11_readsNumber yX11_readsNumber) (by decide +kernel) rfl) (inG (i := 1015) (w := Cond.code yX11_readsNumber cX11_readsNumber 4 (some .boolean)) (by decide +kernel) rfl) ⟨by decide +kernel, by decide +kernel, by decide +kernel⟩ tr_X11_readsNumber tw_X11_readsNumber


/-! ===== the reference: what came up ===== -/
def tkB (k b : Nat) : Nat := min k b
def tkS (k b s : Nat) : Nat := min (k - min k b) s
def tkV (k b s : Nat) : Nat := 5 * tkB k b + tkS k b s
theorem tk_le (k b s : Nat) : tkB k b ≤ b ∧ tkB k b ≤ k ∧ tkS k b s ≤ s := by unfold tkB tkS; omega
def S_X11_takes (a : Int32) (h : AH) (K : Int32 → AH → Prop) : Prop := ∃ V n b s, rPre 0 a h V n ∧ b ≤ 9 ∧ s ≤ 9 ∧ h.1 15 0 11 = nI b ∧ h.1 15 0 12 = nI s ∧ K (nI (tkV (vSt V n) b s)) (wI (wI h 15 0 11 (nI (b - tkB (vSt V n) b))) 15 0 12 (nI (s - tkS (vSt V n) b s)))
def T_X11_takes : List AV → AH → (Int32 → AH → Prop) → Prop := fun as h K => match as with
  | [.inr (.inr (.inl q0)), .inl q1] => tif (Nat.beq q0.1 15 && Nat.beq q0.2 0) (S_X11_takes q1 h K)
  | _ => False

def M_X11_takes : MI := (RX11, cX11_takes, 4, [(0, .aload_n 0, []), (1, .getfield 9, []), (4, .iload_n 1, []), (5, .invokestatic 95, []), (8, .aload_n 0, []), (9, .getfield 184, []), (12, .invokestatic 85, []), (15, .istore_n 2, []), (16, .aload_n 0, []), (17, .getfield 9, []), (20, .iload_n 1, []), (21, .invokestatic 95, []), (24, .iload_n 2, []), (25, .isub, []), (26, .aload_n 0, []), (27, .getfield 187, []), (30, .invokestatic 85, []), (33, .istore_n 3, []), (34, .aload_n 0, []), (35, .dup, []), (36, .getfield 184, []), (39, .iload_n 2, []), (40, .isub, []), (41, .putfield 184, []), (44, .aload_n 0, []), (45, .dup, []), (46, .getfield 187, []), (49, .iload_n 3, []), (50, .isub, []), (51, .putfield 187, []), (54, .iconst 5, []), (55, .iload_n 2, []), (56, .imul, []), (57, .iload_n 3, []), (58, .iadd, []), (59, .ireturn, [])], [(9, (15, 0, 1, 16, 0)), (184, (15, 11, 0, 0, 0)), (187, (15, 12, 0, 0, 0))], [], [], [(286, (2, 2, 43, 0, 0, .inl T_X11_sticks)), (256, (2, 1, 21, 0, 0, .inl T_X11_least))], 2, 43, 0, 0)
theorem ok_X11_takes : MOK M_X11_takes := ⟨by decide +kernel, List.forall_mem_cons.mpr ⟨fl_RX11_9, List.forall_mem_cons.mpr ⟨fl_RX11_184, List.forall_mem_cons.mpr ⟨fl_RX11_187, fun _ h => absurd h List.not_mem_nil⟩⟩⟩, fun _ h => absurd h List.not_mem_nil, fun _ h => absurd h List.not_mem_nil, List.forall_mem_cons.mpr ⟨⟨Nat.le_of_ble_eq_true rfl, Nat.le_of_ble_eq_true rfl, cr_RX11_286⟩, List.forall_mem_cons.mpr ⟨⟨Nat.le_of_ble_eq_true rfl, Nat.le_of_ble_eq_true rfl, cr_RX11_256⟩, fun _ h => absurd h List.not_mem_nil⟩⟩⟩
set_option maxRecDepth 100000 in
theorem vc_X11_takes {K : Int32 → AH → Prop} {h : AH} (p1 : Int32) (H : S_X11_sticks 0 p1 h (fun x2 h1 => S_X11_least x2 (h1.1 15 0 11) h1 (fun x4 h3 => S_X11_sticks 0 p1 h3 (fun x6 h5 => S_X11_least (x6 - x4) (h5.1 15 0 12) h5 (fun x8 h7 => K (((nI 5) * x4) + x8) (wI (wI h7 15 0 11 ((h7.1 15 0 11) - x4)) 15 0 12 (((wI h7 15 0 11 ((h7.1 15 0 11) - x4)).1 15 0 12) - x8))))))) : AW M_X11_takes (.inl K) 0 [some (aR 15 0), some (aI p1), none, none] [] h 0 0 := AW_go (cuts := []) ok_X11_takes 400 H

theorem snd_X11_takes (a : Int32) {h : AH} {K : Int32 → AH → Prop} (k : S_X11_takes a h K) : AW M_X11_takes (.inl K) 0 [some (aR 15 0), some (aI a), none, none] [] h 0 0 := by
  obtain ⟨V, n, b, s, hp, hb, hs, e1, e2, k⟩ := k
  refine vc_X11_takes a ?_
  have hst : vSt V n ≤ 12 := stk_le (hp.2.1.2.2.2.2.2.2 n hp.2.2.1).2
  have ht := tk_le (vSt V n) b s
  refine ⟨V, n, hp, ?_⟩
  simp (disch := omega) only [S_X11_least, e1, least_n]
  refine ⟨V, n, hp, ?_⟩
  rw [show nI (min (vSt V n) b) = nI (tkB (vSt V n) b) from rfl]
  simp (disch := omega) only [e1, e2, least_n, n_sub, pk_mul, nI_add, uI_ni]
  rw [show min (vSt V n - tkB (vSt V n) b) s = tkS (vSt V n) b s from rfl]
  exact k
theorem tr_X11_takes : ∀ (as : List AV) (h : AH) (K : Int32 → AH → Prop), T_X11_takes as h K → ∃ (q : Nat) (r : List AV), as = aR 15 q :: r := by
  intro as h K hk
  match as, hk with
  | [.inr (.inr (.inl q0)), .inl q1], hk =>
    obtain ⟨hb, hk⟩ := tif_inv hk
    simp only [Bool.and_eq_true] at hb
    obtain ⟨e0, e1⟩ := hb
    obtain ⟨a0, b0⟩ := q0
    have f0 : a0 = 15 := Nat.eq_of_beq_eq_true e0
    subst f0
    have f1 : b0 = 0 := Nat.eq_of_beq_eq_true e1
    subst f1
    exact ⟨_, _, rfl⟩
theorem tw_X11_takes : ∀ (as : List AV) (h : AH) (K : Int32 → AH → Prop), T_X11_takes as h K → (ini as).length ≤ mNL M_X11_takes ∧ AW M_X11_takes (.inl K) 0 (initL (mNL M_X11_takes) as) [] h 0 0 := by
  intro as h K hk
  match as, hk with
  | [.inr (.inr (.inl q0)), .inl q1], hk =>
    obtain ⟨hb, hk⟩ := tif_inv hk
    simp only [Bool.and_eq_true] at hb
    obtain ⟨e0, e1⟩ := hb
    obtain ⟨a0, b0⟩ := q0
    have f0 : a0 = 15 := Nat.eq_of_beq_eq_true e0
    subst f0
    have f1 : b0 = 0 := Nat.eq_of_beq_eq_true e1
    subst f1
    exact ⟨Nat.le_of_ble_eq_true rfl, snd_X11_takes q1 hk⟩
theorem cr_RX11_570 : CR RX11 (kIns 570) (2, 3, 66, 0, 0, .inl T_X11_takes) := crV_i (t := 15) (M := M_X11_takes) (by decide) rfl (by decide) rfl (inG (i := 1211) (w := Cond.methodLink RX11 190 yX11_takes) (by decide +kernel) rfl) (inG (i := 1213) (w := Cond.instanceMethod yX11_takes) (by decide +kernel) rfl) (inG (i := 40) (w := Cond.initialized RX11) (by decide +kernel) rfl) (inG (i := 29) (w := Cond.selects RX11 yX11_takes yX11_takes) (by decide +kernel) rfl) (inG (i := 1214) (w := Cond.code yX11_takes cX11_takes 4 (some .int)) (by decide +kernel) rfl) ⟨by decide +kernel, by decide +kernel, by decide +kernel⟩ tr_X11_takes tw_X11_takes

/-- the first told throw that a pair does not bring, and what is left then -/
def wa (E : Nat → Int32) (k : Nat) : Nat → Nat → Nat → Nat → Nat × Nat × Nat
  | 0, t, b, s => (t, b, s)
  | r + 1, t, b, s => if nI (tkV k b s) = E t then wa E k r (t + 1) (b - tkB k b) (s - tkS k b s) else (t, b - tkB k b, s - tkS k b s)
theorem wa_b {E : Nat → Int32} {k : Nat} : ∀ r t b s, b ≤ 9 → s ≤ 9 → t ≤ (wa E k r t b s).1 ∧ (wa E k r t b s).1 ≤ t + r ∧ (wa E k r t b s).2.1 ≤ 9 ∧ (wa E k r t b s).2.2 ≤ 9
  | 0, t, b, s, hb, hs => ⟨Nat.le_refl _, Nat.le_refl _, hb, hs⟩
  | r + 1, t, b, s, hb, hs => by
    unfold wa
    split
    · have := wa_b (E := E) (k := k) r (t + 1) (b - tkB k b) (s - tkS k b s) (by omega) (by omega)
      omega
    · exact ⟨Nat.le_refl _, by show t ≤ _; omega, by show b - _ ≤ 9; omega, by show s - _ ≤ 9; omega⟩
def waP (E : Nat → Int32) (k sz P : Nat) : Nat × Nat × Nat := wa E k sz 0 (P / 10) (P % 10)
def pPre (h : AH) (S : Sm) (V : Vm) (a d : Int32) (n m : Nat) : Prop := MSh h S ∧ WS S ∧ RV (h.1 16 0) V ∧ WF V ∧ n < V 10 1 ∧ a = nI n ∧ m < 8 ∧ d = nI m ∧ S.1 0 m = 2
theorem pPre_k {h h' : AH} {S : Sm} {V : Vm} {a d : Int32} {n m : Nat} (q : keepM h h') (p : pPre h S V a d n m) : pPre h' S V a d n m := by
  obtain ⟨p1, p2, p3, p4⟩ := p
  exact ⟨MSh_keep q p1, p2, by rw [keepM_r0 q]; exact p3, p4⟩
/-- only what is left of the pair has changed -/
def keepP (h h' : AH) : Prop := h'.2 = h.2 ∧ ∀ t p i, ¬ (t = 15 ∧ p = 0 ∧ (i = 11 ∨ i = 12)) → h'.1 t p i = h.1 t p i
theorem keepP_rfl (h : AH) : keepP h h := ⟨rfl, fun _ _ _ _ => rfl⟩
theorem keepP_tr {h h1 h2 : AH} (a : keepP h h1) (b : keepP h1 h2) : keepP h h2 := ⟨b.1.trans a.1, fun x y i q => (b.2 x y i q).trans (a.2 x y i q)⟩
theorem keepP_w {h : AH} {i : Nat} {x : Int32} (hq : i = 11 ∨ i = 12) : keepP h (wI h 15 0 i x) := ⟨rfl, fun a b j q => by
  rw [wI_get, if_neg (fun e => q ⟨e.1, e.2.1, by omega⟩)]⟩
theorem keepP_M {h h1 : AH} (a : keepP h h1) : keepM h h1 := ⟨a.1, fun x y i q => a.2 x y i (fun e => q (by omega))⟩
def S_X11_wrongAt (a d p : Int32) (h : AH) (K : Int32 → AH → Prop) : Prop := ∃ S V n m P, pPre h S V a d n m ∧ P < 100 ∧ p = nI P ∧ ∀ h', keepP h h' → h'.1 15 0 11 = nI (waP (S.2 m) (vSt V n) (S.1 4 m) P).2.1 → h'.1 15 0 12 = nI (waP (S.2 m) (vSt V n) (S.1 4 m) P).2.2 → K (nI (waP (S.2 m) (vSt V n) (S.1 4 m) P).1) h'
def T_X11_wrongAt : List AV → AH → (Int32 → AH → Prop) → Prop := fun as h K => match as with
  | [.inr (.inr (.inl q0)), .inl q1, .inl q2, .inl q3] => tif (Nat.beq q0.1 15 && Nat.beq q0.2 0) (S_X11_wrongAt q1 q2 q3 h K)
  | _ => False

def M_X11_wrongAt : MI := (RX11, cX11_wrongAt, 5, [(0, .aload_n 0, []), (1, .iload_n 3, []), (2, .bipush 10, []), (4, .idiv, []), (5, .putfield 184, []), (8, .aload_n 0, []), (9, .iload_n 3, []), (10, .bipush 10, []), (12, .irem, []), (13, .putfield 187, []), (16, .iconst 0, []), (17, .istore 4, []), (19, .iload 4, []), (21, .aload_n 0, []), (22, .getfield 47, []), (25, .iload_n 2, []), (26, .iaload, []), (27, .if_icmp .ge 32, [59]), (30, .aload_n 0, []), (31, .iload_n 1, []), (32, .invokevirtual 190, []), (35, .aload_n 0, []), (36, .getfield 50, []), (39, .bipush 100, []), (41, .iload_n 2, []), (42, .imul, []), (43, .iload 4, []), (45, .iadd, []), (46, .iaload, []), (47, .if_icmp .eq 6, [53]), (50, .iload 4, []), (52, .ireturn, []), (53, .iinc 4 1, []), (56, .goto (-37), [19]), (59, .aload_n 0, []), (60, .getfield 47, []), (63, .iload_n 2, []), (64, .iaload, []), (65, .ireturn, [])], [(184, (15, 11, 0, 0, 0)), (187, (15, 12, 0, 0, 0)), (47, (15, 20, 1, 21, 4)), (50, (15, 21, 1, 22, 0))], [], [], [(570, (2, 3, 66, 0, 0, .inl T_X11_takes))], 3, 66, 0, 0)
theorem ok_X11_wrongAt : MOK M_X11_wrongAt := ⟨by decide +kernel, List.forall_mem_cons.mpr ⟨fl_RX11_184, List.forall_mem_cons.mpr ⟨fl_RX11_187, List.forall_mem_cons.mpr ⟨fl_RX11_47, List.forall_mem_cons.mpr ⟨fl_RX11_50, fun _ h => absurd h List.not_mem_nil⟩⟩⟩⟩, fun _ h => absurd h List.not_mem_nil, fun _ h => absurd h List.not_mem_nil, List.forall_mem_cons.mpr ⟨⟨Nat.le_of_ble_eq_true rfl, Nat.le_of_ble_eq_true rfl, cr_RX11_570⟩, fun _ h => absurd h List.not_mem_nil⟩⟩
set_option maxRecDepth 100000 in
theorem vc_X11_wrongAt {K : Int32 → AH → Prop} {h : AH} (p1 : Int32) (p2 : Int32) (p3 : Int32) (H : (¬ (nI 10) = 0) ∧ (¬ (nI 10) = 0) ∧ AW M_X11_wrongAt (.inl K) 19 [some (aR 15 0), some (aI p1), some (aI p2), none, some (aI (nI 0))] [] (wI (wI h 15 0 11 (p3 / (nI 10))) 15 0 12 (p3 - p3 / (nI 10) * (nI 10))) 0 0) : AW M_X11_wrongAt (.inl K) 0 [some (aR 15 0), some (aI p1), some (aI p2), some (aI p3), none] [] h 0 0 := AW_go (cuts := [(19, [true, true, true, false, true])]) ok_X11_wrongAt 400 H
set_option maxRecDepth 100000 in
theorem vc_X11_wrongAt_19 {K : Int32 → AH → Prop} {h : AH}  (l1 : Int32) (l2 : Int32) (l4 : Int32) (H : inR l2 8 ∧ (((h.1 21 4 l2.toNatClampNeg) ≤ l4) → inR l2 8 ∧ K (h.1 21 4 l2.toNatClampNeg) h) ∧ (¬ ((h.1 21 4 l2.toNatClampNeg) ≤ l4) → S_X11_takes l1 h (fun x2 h1 => inR (((nI 100) * l2) + l4) 800 ∧ ((x2 = (h1.1 22 0 (((nI 100) * l2) + l4).toNatClampNeg)) → AW M_X11_wrongAt (.inl K) 19 [some (aR 15 0), some (aI l1), some (aI l2), none, some (aI (l4 + (nI 1)))] [] h1 0 0) ∧ (¬ (x2 = (h1.1 22 0 (((nI 100) * l2) + l4).toNatClampNeg)) → K l4 h1)))) : AW M_X11_wrongAt (.inl K) 19 [some (aR 15 0), some (aI l1), some (aI l2), none, some (aI l4)] [] h 0 0 := AW_go (cuts := [(19, [true, true, true, false, true])]) ok_X11_wrongAt 400 H

theorem lp_X11_wrongAt {S : Sm} {V : Vm} {n m : Nat} {h0 : AH} {K : Int32 → AH → Prop} (hp : pPre h0 S V (nI n) (nI m) n m) : ∀ r t b s h, t + r = S.1 4 m → b ≤ 9 → s ≤ 9 → keepP h0 h → h.1 15 0 11 = nI b → h.1 15 0 12 = nI s → (∀ h', keepP h0 h' → h'.1 15 0 11 = nI (wa (S.2 m) (vSt V n) r t b s).2.1 → h'.1 15 0 12 = nI (wa (S.2 m) (vSt V n) r t b s).2.2 → K (nI (wa (S.2 m) (vSt V n) r t b s).1) h') → AW M_X11_wrongAt (.inl K) 19 [some (aR 15 0), some (aI (nI n)), some (aI (nI m)), none, some (aI (nI t))] [] h 0 0 := by
  intro r
  induction r with
  | zero =>
    intro t b s h ht hb hs hk e1 e2 k
    refine vc_X11_wrongAt_19 (nI n) (nI m) (nI t) ?_
    obtain ⟨p1, p2, p3, p4, p5, -, p7, -, p9⟩ := pPre_k (keepP_M hk) hp
    have hw3 := (p2 m p7).2.2 p9
    obtain ⟨c1, c2, c3⟩ := (p1 m p7).2.2 p9
    simp (disch := omega) only [n_inT, n_cl, true_and, c2, n_le]
    have : t = S.1 4 m := by omega
    rw [← this]
    exact ⟨fun _ => k h hk e1 e2, fun q => absurd (by omega) q⟩
  | succ r ih =>
    intro t b s h ht hb hs hk e1 e2 k
    refine vc_X11_wrongAt_19 (nI n) (nI m) (nI t) ?_
    obtain ⟨p1, p2, p3, p4, p5, -, p7, -, p9⟩ := pPre_k (keepP_M hk) hp
    have hw3 := (p2 m p7).2.2 p9
    obtain ⟨c1, c2, c3⟩ := (p1 m p7).2.2 p9
    have h7 := p4.2.1
    simp (disch := omega) only [n_inT, n_cl, true_and, c2, n_le, pk_mul, nI_add]
    refine ⟨fun q => by omega, fun _ => ⟨V, n, b, s, ⟨p3, p4, p5, rfl⟩, hb, hs, e1, e2, ?_⟩⟩
    have tl := tk_le (vSt V n) b s
    dsimp only
    rw [uI_nt (by omega), uI_nt (by omega), c3 t (by omega)]
    have k1 : keepP h0 (wI (wI h 15 0 11 (nI (b - tkB (vSt V n) b))) 15 0 12 (nI (s - tkS (vSt V n) b s))) := keepP_tr hk (keepP_tr (keepP_w (by omega)) (keepP_w (by omega)))
    have f1 : (wI (wI h 15 0 11 (nI (b - tkB (vSt V n) b))) 15 0 12 (nI (s - tkS (vSt V n) b s))).1 15 0 11 = nI (b - tkB (vSt V n) b) := by
      rw [wI_ni (by omega), wI_at]
    have f2 : (wI (wI h 15 0 11 (nI (b - tkB (vSt V n) b))) 15 0 12 (nI (s - tkS (vSt V n) b s))).1 15 0 12 = nI (s - tkS (vSt V n) b s) := by
      rw [wI_at]
    refine ⟨fun q => ih (t + 1) (b - tkB (vSt V n) b) (s - tkS (vSt V n) b s) _ (by omega) (by omega) (by omega) k1 f1 f2 (fun h' q1 q2 q3 => ?_), fun q => ?_⟩
    · have := k h' q1
      rw [wa, if_pos q] at this
      exact this q2 q3
    · have := k _ k1
      rw [wa, if_neg q] at this
      exact this f1 f2
theorem snd_X11_wrongAt (a d p : Int32) {h : AH} {K : Int32 → AH → Prop} (k : S_X11_wrongAt a d p h K) : AW M_X11_wrongAt (.inl K) 0 [some (aR 15 0), some (aI a), some (aI d), some (aI p), none] [] h 0 0 := by
  obtain ⟨S, V, n, m, P, hp, hP, rfl, k⟩ := k
  obtain ⟨-, -, -, -, -, rfl, -, rfl, -⟩ := id hp
  refine vc_X11_wrongAt (nI n) (nI m) (nI P) ⟨by decide, by decide, ?_⟩
  rw [n_rem (show P < 2147483648 by omega) (by omega) (by omega), n_div (show P < 2147483648 by omega) (by omega) (by omega)]
  refine lp_X11_wrongAt hp (S.1 4 m) 0 (P / 10) (P % 10) _ (by omega) (by omega) (by omega) (keepP_tr (keepP_w (by omega)) (keepP_w (by omega))) ?_ ?_ k
  · first | rw [wI_ni (by omega), wI_at] | rw [uI_ni (by omega), uI_at]
  · first | rw [wI_at] | rw [uI_at]
theorem tr_X11_wrongAt : ∀ (as : List AV) (h : AH) (K : Int32 → AH → Prop), T_X11_wrongAt as h K → ∃ (q : Nat) (r : List AV), as = aR 15 q :: r := by
  intro as h K hk
  match as, hk with
  | [.inr (.inr (.inl q0)), .inl q1, .inl q2, .inl q3], hk =>
    obtain ⟨hb, hk⟩ := tif_inv hk
    simp only [Bool.and_eq_true] at hb
    obtain ⟨e0, e1⟩ := hb
    obtain ⟨a0, b0⟩ := q0
    have f0 : a0 = 15 := Nat.eq_of_beq_eq_true e0
    subst f0
    have f1 : b0 = 0 := Nat.eq_of_beq_eq_true e1
    subst f1
    exact ⟨_, _, rfl⟩
theorem tw_X11_wrongAt : ∀ (as : List AV) (h : AH) (K : Int32 → AH → Prop), T_X11_wrongAt as h K → (ini as).length ≤ mNL M_X11_wrongAt ∧ AW M_X11_wrongAt (.inl K) 0 (initL (mNL M_X11_wrongAt) as) [] h 0 0 := by
  intro as h K hk
  match as, hk with
  | [.inr (.inr (.inl q0)), .inl q1, .inl q2, .inl q3], hk =>
    obtain ⟨hb, hk⟩ := tif_inv hk
    simp only [Bool.and_eq_true] at hb
    obtain ⟨e0, e1⟩ := hb
    obtain ⟨a0, b0⟩ := q0
    have f0 : a0 = 15 := Nat.eq_of_beq_eq_true e0
    subst f0
    have f1 : b0 = 0 := Nat.eq_of_beq_eq_true e1
    subst f1
    exact ⟨Nat.le_of_ble_eq_true rfl, snd_X11_wrongAt q1 q2 q3 hk⟩
theorem cr_RX11_588 : CR RX11 (kIns 588) (4, 4, 90, 0, 0, .inl T_X11_wrongAt) := crV_i (t := 15) (M := M_X11_wrongAt) (by decide) rfl (by decide) rfl (inG (i := 1207) (w := Cond.methodLink RX11 196 yX11_wrongAt) (by decide +kernel) rfl) (inG (i := 1209) (w := Cond.instanceMethod yX11_wrongAt) (by decide +kernel) rfl) (inG (i := 40) (w := Cond.initialized RX11) (by decide +kernel) rfl) (inG (i := 28) (w := Cond.selects RX11 yX11_wrongAt yX11_wrongAt) (by decide +kernel) rfl) (inG (i := 1210) (w := Cond.code yX11_wrongAt cX11_wrongAt 5 (some .int)) (by decide +kernel) rfl) ⟨by decide +kernel, by decide +kernel, by decide +kernel⟩ tr_X11_wrongAt tw_X11_wrongAt

def rsr (S : Sm) (V : Vm) (a d : Int32) : Int32 := if shp V a then rwR S d (iI (-1)) else iI (-1)
def S_X11_wrongSheepRow (a d : Int32) (h : AH) (K : Int32 → AH → Prop) : Prop := ∃ S V, MSh h S ∧ WS S ∧ RV (h.1 16 0) V ∧ WF V ∧ K (rsr S V a d) h
def T_X11_wrongSheepRow : List AV → AH → (Int32 → AH → Prop) → Prop := fun as h K => match as with
  | [.inr (.inr (.inl q0)), .inl q1, .inl q2] => tif (Nat.beq q0.1 15 && Nat.beq q0.2 0) (S_X11_wrongSheepRow q1 q2 h K)
  | _ => False

def M_X11_wrongSheepRow : MI := (RX11, cX11_wrongSheepRow, 3, [(0, .aload_n 0, []), (1, .iload_n 1, []), (2, .invokevirtual 132, []), (5, .ifCond .eq 12, [17]), (8, .aload_n 0, []), (9, .iload_n 2, []), (10, .iconst (-1), []), (11, .invokevirtual 141, []), (14, .goto 4, [18]), (17, .iconst (-1), []), (18, .ireturn, [])], [], [], [], [(396, (2, 2, 43, 0, 0, .inl T_X11_isSheep)), (423, (3, 3, 64, 0, 0, .inl T_X11_wrongRow))], 3, 64, 0, 0)
theorem ok_X11_wrongSheepRow : MOK M_X11_wrongSheepRow := ⟨by decide +kernel, fun _ h => absurd h List.not_mem_nil, fun _ h => absurd h List.not_mem_nil, fun _ h => absurd h List.not_mem_nil, List.forall_mem_cons.mpr ⟨⟨Nat.le_of_ble_eq_true rfl, Nat.le_of_ble_eq_true rfl, cr_RX11_396⟩, List.forall_mem_cons.mpr ⟨⟨Nat.le_of_ble_eq_true rfl, Nat.le_of_ble_eq_true rfl, cr_RX11_423⟩, fun _ h => absurd h List.not_mem_nil⟩⟩⟩
set_option maxRecDepth 100000 in
theorem vc_X11_wrongSheepRow {K : Int32 → AH → Prop} {h : AH} (p1 : Int32) (p2 : Int32) (H : S_X11_isSheep p1 h (fun x2 h1 => ((x2 = 0) → K (iI (-1)) h1) ∧ (¬ (x2 = 0) → S_X11_wrongRow p2 (iI (-1)) h1 (fun x4 h3 => K x4 h3)))) : AW M_X11_wrongSheepRow (.inl K) 0 [some (aR 15 0), some (aI p1), some (aI p2)] [] h 0 0 := AW_go (cuts := []) ok_X11_wrongSheepRow 400 H

theorem snd_X11_wrongSheepRow (a d : Int32) {h : AH} {K : Int32 → AH → Prop} (k : S_X11_wrongSheepRow a d h K) : AW M_X11_wrongSheepRow (.inl K) 0 [some (aR 15 0), some (aI a), some (aI d)] [] h 0 0 := by
  obtain ⟨S, V, hs, hw, hr, hv, k⟩ := k
  refine vc_X11_wrongSheepRow a d ?_
  have e1 := (RVs hr).2.2.2.2.2.2.2.2.2.2.2.1
  unfold S_X11_isSheep
  rw [e1]
  simp only [if10_eq]
  unfold rsr at k
  refine ⟨fun q => ?_, fun q => ⟨S, hs, hw, ?_⟩⟩
  · rw [if_neg q] at k; exact k
  · rw [if_pos (Decidable.not_not.mp q)] at k; exact k
theorem tr_X11_wrongSheepRow : ∀ (as : List AV) (h : AH) (K : Int32 → AH → Prop), T_X11_wrongSheepRow as h K → ∃ (q : Nat) (r : List AV), as = aR 15 q :: r := by
  intro as h K hk
  match as, hk with
  | [.inr (.inr (.inl q0)), .inl q1, .inl q2], hk =>
    obtain ⟨hb, hk⟩ := tif_inv hk
    simp only [Bool.and_eq_true] at hb
    obtain ⟨e0, e1⟩ := hb
    obtain ⟨a0, b0⟩ := q0
    have f0 : a0 = 15 := Nat.eq_of_beq_eq_true e0
    subst f0
    have f1 : b0 = 0 := Nat.eq_of_beq_eq_true e1
    subst f1
    exact ⟨_, _, rfl⟩
theorem tw_X11_wrongSheepRow : ∀ (as : List AV) (h : AH) (K : Int32 → AH → Prop), T_X11_wrongSheepRow as h K → (ini as).length ≤ mNL M_X11_wrongSheepRow ∧ AW M_X11_wrongSheepRow (.inl K) 0 (initL (mNL M_X11_wrongSheepRow) as) [] h 0 0 := by
  intro as h K hk
  match as, hk with
  | [.inr (.inr (.inl q0)), .inl q1, .inl q2], hk =>
    obtain ⟨hb, hk⟩ := tif_inv hk
    simp only [Bool.and_eq_true] at hb
    obtain ⟨e0, e1⟩ := hb
    obtain ⟨a0, b0⟩ := q0
    have f0 : a0 = 15 := Nat.eq_of_beq_eq_true e0
    subst f0
    have f1 : b0 = 0 := Nat.eq_of_beq_eq_true e1
    subst f1
    exact ⟨Nat.le_of_ble_eq_true rfl, snd_X11_wrongSheepRow q1 q2 hk⟩
theorem cr_RX11_579 : CR RX11 (kIns 579) (3, 4, 86, 0, 0, .inl T_X11_wrongSheepRow) := crV_i (t := 15) (M := M_X11_wrongSheepRow) (by decide) rfl (by decide) rfl (inG (i := 1203) (w := Cond.methodLink RX11 193 yX11_wrongSheepRow) (by decide +kernel) rfl) (inG (i := 1205) (w := Cond.instanceMethod yX11_wrongSheepRow) (by decide +kernel) rfl) (inG (i := 40) (w := Cond.initialized RX11) (by decide +kernel) rfl) (inG (i := 27) (w := Cond.selects RX11 yX11_wrongSheepRow yX11_wrongSheepRow) (by decide +kernel) rfl) (inG (i := 1206) (w := Cond.code yX11_wrongSheepRow cX11_wrongSheepRow 3 (some .int)) (by decide +kernel) rfl) ⟨by decide +kernel, by decide +kernel, by decide +kernel⟩ tr_X11_wrongSheepRow tw_X11_wrongSheepRow

theorem rsr_cases {h : AH} {S : Sm} {V : Vm} (hs : MSh h S) (hw : WS S) (hr : RV (h.1 16 0) V) (hv : WF V) (a d : Int32) : (∃ n m, pPre h S V a d n m ∧ rsr S V a d = nI 0) ∨ rsr S V a d ≠ nI 0 := by
  have h7 := hv.2.1
  unfold rsr
  by_cases ha : shp V a
  · rw [if_pos ha]
    obtain ⟨n, hn, rfl⟩ := (in_iff (by omega)).mp ha
    rcases rwR_cases hw d with ⟨m, hm, rfl, h2, e⟩ | e
    · exact Or.inl ⟨n, m, ⟨hs, hw, hr, hv, hn, rfl, hm, rfl, h2⟩, e⟩
    · exact Or.inr e
  · rw [if_neg ha]; exact Or.inr (by decide)
/-- what a pair leaves behind all told throws, if it fits -/
def fitO (E : Nat → Int32) (k sz P : Nat) : Option Nat := if (waP E k sz P).1 = sz then some (10 * (waP E k sz P).2.1 + (waP E k sz P).2.2) else none
/-- pairs from the greatest down: how many fit, the least, what it leaves -/
def stl (f : Nat → Option Nat) : Nat → Nat × Int × Int
  | 0 => (0, -4, -4)
  | r + 1 => match f (99 - r) with
    | none => stl f r
    | some x => ((stl f r).1 + 1, ((99 - r : Nat) : Int), ((5 * (x / 10) + x % 10 : Nat) : Int))
def R_still (S : Sm) (V : Vm) (a d w : Int32) : Int32 := if ¬ (nI 0 ≤ w ∧ w ≤ nI 2) then iI (-1) else if rsr S V a d ≠ nI 0 then rsr S V a d else if w = 0 then nI (stl (fitO (S.2 (nN d)) (vSt V (nN a)) (S.1 4 (nN d))) 100).1 else if w = nI 1 then iI (stl (fitO (S.2 (nN d)) (vSt V (nN a)) (S.1 4 (nN d))) 100).2.1 else iI (stl (fitO (S.2 (nN d)) (vSt V (nN a)) (S.1 4 (nN d))) 100).2.2
def S_X11_still (a d w : Int32) (h : AH) (K : Int32 → AH → Prop) : Prop := ∃ S V, MSh h S ∧ WS S ∧ RV (h.1 16 0) V ∧ WF V ∧ ∀ h', keepM h h' → K (R_still S V a d w) h'
def T_X11_still : List AV → AH → (Int32 → AH → Prop) → Prop := fun as h K => match as with
  | [.inr (.inr (.inl q0)), .inl q1, .inl q2, .inl q3] => tif (Nat.beq q0.1 15 && Nat.beq q0.2 0) (S_X11_still q1 q2 q3 h K)
  | _ => False

def M_X11_still : MI := (RX11, cX11_still, 9, [(0, .iload_n 3, []), (1, .iconst 0, []), (2, .iconst 2, []), (3, .invokestatic 53, []), (6, .ifCond .eq 12, [18]), (9, .aload_n 0, []), (10, .iload_n 1, []), (11, .iload_n 2, []), (12, .invokevirtual 193, []), (15, .goto 4, [19]), (18, .iconst (-1), []), (19, .istore 4, []), (21, .iload 4, []), (23, .ifCond .eq 6, [29]), (26, .iload 4, []), (28, .ireturn, []), (29, .iconst 0, []), (30, .istore 5, []), (32, .bipush (-4), []), (34, .istore 6, []), (36, .bipush (-4), []), (38, .istore 7, []), (40, .bipush 99, []), (42, .istore 8, []), (44, .iload 8, []), (46, .ifCond .lt 49, [95]), (49, .aload_n 0, []), (50, .iload_n 1, []), (51, .iload_n 2, []), (52, .iload 8, []), (54, .invokevirtual 196, []), (57, .aload_n 0, []), (58, .getfield 47, []), (61, .iload_n 2, []), (62, .iaload, []), (63, .if_icmp .ge 6, [69]), (66, .goto 23, [89]), (69, .iinc 5 1, []), (72, .iload 8, []), (74, .istore 6, []), (76, .iconst 5, []), (77, .aload_n 0, []), (78, .getfield 184, []), (81, .imul, []), (82, .aload_n 0, []), (83, .getfield 187, []), (86, .iadd, []), (87, .istore 7, []), (89, .iinc 8 (-1), []), (92, .goto (-48), [44]), (95, .iload_n 3, []), (96, .ifCond .ne 8, [104]), (99, .iload 5, []), (101, .goto 15, [116]), (104, .iload_n 3, []), (105, .iconst 1, []), (106, .if_icmp .ne 8, [114]), (109, .iload 6, []), (111, .goto 5, [116]), (114, .iload 7, []), (116, .ireturn, [])], [(47, (15, 20, 1, 21, 4)), (184, (15, 11, 0, 0, 0)), (187, (15, 12, 0, 0, 0))], [], [], [(160, (3, 1, 22, 0, 0, .inl T_X11_isIn)), (579, (3, 4, 86, 0, 0, .inl T_X11_wrongSheepRow)), (588, (4, 4, 90, 0, 0, .inl T_X11_wrongAt))], 4, 90, 0, 0)
theorem ok_X11_still : MOK M_X11_still := ⟨by decide +kernel, List.forall_mem_cons.mpr ⟨fl_RX11_47, List.forall_mem_cons.mpr ⟨fl_RX11_184, List.forall_mem_cons.mpr ⟨fl_RX11_187, fun _ h => absurd h List.not_mem_nil⟩⟩⟩, fun _ h => absurd h List.not_mem_nil, fun _ h => absurd h List.not_mem_nil, List.forall_mem_cons.mpr ⟨⟨Nat.le_of_ble_eq_true rfl, Nat.le_of_ble_eq_true rfl, cr_RX11_160⟩, List.forall_mem_cons.mpr ⟨⟨Nat.le_of_ble_eq_true rfl, Nat.le_of_ble_eq_true rfl, cr_RX11_579⟩, List.forall_mem_cons.mpr ⟨⟨Nat.le_of_ble_eq_true rfl, Nat.le_of_ble_eq_true rfl, cr_RX11_588⟩, fun _ h => absurd h List.not_mem_nil⟩⟩⟩⟩
set_option maxRecDepth 100000 in
theorem vc_X11_still {K : Int32 → AH → Prop} {h : AH} (p1 : Int32) (p2 : Int32) (p3 : Int32) (H : S_X11_isIn p3 (nI 0) (nI 2) h (fun x2 h1 => ((x2 = 0) → (((iI (-1)) = 0) → AW M_X11_still (.inl K) 44 [some (aR 15 0), some (aI p1), some (aI p2), some (aI p3), none, some (aI (nI 0)), some (aI (iI (-4))), some (aI (iI (-4))), some (aI (nI 99))] [] h1 0 0) ∧ (¬ ((iI (-1)) = 0) → K (iI (-1)) h1)) ∧ (¬ (x2 = 0) → S_X11_wrongSheepRow p1 p2 h1 (fun x4 h3 => ((x4 = 0) → AW M_X11_still (.inl K) 44 [some (aR 15 0), some (aI p1), some (aI p2), some (aI p3), none, some (aI (nI 0)), some (aI (iI (-4))), some (aI (iI (-4))), some (aI (nI 99))] [] h3 0 0) ∧ (¬ (x4 = 0) → K x4 h3))))) : AW M_X11_still (.inl K) 0 [some (aR 15 0), some (aI p1), some (aI p2), some (aI p3), none, none, none, none, none] [] h 0 0 := AW_go (cuts := [(44, [true, true, true, true, false, true, true, true, true])]) ok_X11_still 400 H
set_option maxRecDepth 100000 in
theorem vc_X11_still_44 {K : Int32 → AH → Prop} {h : AH}  (l1 : Int32) (l2 : Int32) (l3 : Int32) (l5 : Int32) (l6 : Int32) (l7 : Int32) (l8 : Int32) (H : ((l8 < 0) → ((¬ l3 = 0) → ((¬ l3 = (nI 1)) → K l7 h) ∧ (¬ (¬ l3 = (nI 1)) → K l6 h)) ∧ (¬ (¬ l3 = 0) → K l5 h)) ∧ (¬ (l8 < 0) → S_X11_wrongAt l1 l2 l8 h (fun x2 h1 => inR l2 8 ∧ (((h1.1 21 4 l2.toNatClampNeg) ≤ x2) → AW M_X11_still (.inl K) 44 [some (aR 15 0), some (aI l1), some (aI l2), some (aI l3), none, some (aI (l5 + (nI 1))), some (aI l8), some (aI (((nI 5) * (h1.1 15 0 11)) + (h1.1 15 0 12))), some (aI (l8 + (iI (-1))))] [] h1 0 0) ∧ (¬ ((h1.1 21 4 l2.toNatClampNeg) ≤ x2) → AW M_X11_still (.inl K) 44 [some (aR 15 0), some (aI l1), some (aI l2), some (aI l3), none, some (aI l5), some (aI l6), some (aI l7), some (aI (l8 + (iI (-1))))] [] h1 0 0)))) : AW M_X11_still (.inl K) 44 [some (aR 15 0), some (aI l1), some (aI l2), some (aI l3), none, some (aI l5), some (aI l6), some (aI l7), some (aI l8)] [] h 0 0 := AW_go (cuts := [(44, [true, true, true, true, false, true, true, true, true])]) ok_X11_still 400 H

theorem lp_X11_still {S : Sm} {V : Vm} {n m : Nat} {w : Int32} {h0 : AH} {K : Int32 → AH → Prop} (hp : pPre h0 S V (nI n) (nI m) n m) (k : ∀ h', keepM h0 h' → K (if w = 0 then nI (stl (fitO (S.2 m) (vSt V n) (S.1 4 m)) 100).1 else if w = nI 1 then iI (stl (fitO (S.2 m) (vSt V n) (S.1 4 m)) 100).2.1 else iI (stl (fitO (S.2 m) (vSt V n) (S.1 4 m)) 100).2.2) h') : ∀ q r h, q + r = 100 → keepM h0 h → AW M_X11_still (.inl K) 44 [some (aR 15 0), some (aI (nI n)), some (aI (nI m)), some (aI w), none, some (aI (nI (stl (fitO (S.2 m) (vSt V n) (S.1 4 m)) r).1)), some (aI (iI (stl (fitO (S.2 m) (vSt V n) (S.1 4 m)) r).2.1)), some (aI (iI (stl (fitO (S.2 m) (vSt V n) (S.1 4 m)) r).2.2)), some (aI (nI q + iI (-1)))] [] h 0 0 := by
  obtain ⟨-, p2, -, p4, p5, -, p7, -, p9⟩ := id hp
  have hw3 := (p2 m p7).2.2 p9
  have h7 := p4.2.1
  intro q
  induction q with
  | zero =>
    intro r h hr hk
    refine vc_X11_still_44 (nI n) (nI m) w _ _ _ _ ?_
    have : r = 100 := by omega
    subst this
    have := k h hk
    refine ⟨fun _ => ⟨fun q => ⟨fun q2 => ?_, fun q2 => ?_⟩, fun q => ?_⟩, fun q => absurd (by decide) q⟩
    · rw [if_neg q, if_neg q2] at this; exact this
    · rw [if_neg q, if_pos (Decidable.not_not.mp q2)] at this; exact this
    · rw [if_pos (Decidable.not_not.mp q)] at this; exact this
  | succ q ih =>
    intro r h hr hk
    refine vc_X11_still_44 (nI n) (nI m) w _ _ _ _ ?_
    have eq1 : nI (q + 1) + iI (-1) = nI q := by rw [nI_iI, i_add, nI_iI]; congr 1; omega
    rw [eq1]
    simp (disch := omega) only [n_lt0]
    refine ⟨fun z => z.elim, fun _ => ⟨S, V, n, m, q, pPre_k hk hp, by omega, rfl, fun h1 o1 f1 f2 => ?_⟩⟩
    have k1 := keepM_tr hk (keepP_M o1)
    have hb := wa_b (E := S.2 m) (k := vSt V n) (S.1 4 m) 0 (q / 10) (q % 10) (by omega) (by omega)
    have hb : 0 ≤ (waP (S.2 m) (vSt V n) (S.1 4 m) q).1 ∧ (waP (S.2 m) (vSt V n) (S.1 4 m) q).1 ≤ 0 + S.1 4 m ∧ (waP (S.2 m) (vSt V n) (S.1 4 m) q).2.1 ≤ 9 ∧ (waP (S.2 m) (vSt V n) (S.1 4 m) q).2.2 ≤ 9 := hb
    obtain ⟨c1, c2, c3⟩ := ((pPre_k k1 hp).1 m p7).2.2 p9
    have ih := ih (r + 1) h1 (by omega) k1
    rw [stl, show 99 - r = q by omega] at ih
    unfold fitO at ih
    simp (disch := omega) only [n_inT, n_cl, true_and, c2, f1, f2, pk_mul, nI_add, n_le]
    refine ⟨fun z => ?_, fun z => ?_⟩
    · rw [if_pos (by omega)] at ih
      simp only at ih
      rw [show (10 * (waP (S.2 m) (vSt V n) (S.1 4 m) q).2.1 + (waP (S.2 m) (vSt V n) (S.1 4 m) q).2.2) / 10 = (waP (S.2 m) (vSt V n) (S.1 4 m) q).2.1 by omega, show (10 * (waP (S.2 m) (vSt V n) (S.1 4 m) q).2.1 + (waP (S.2 m) (vSt V n) (S.1 4 m) q).2.2) % 10 = (waP (S.2 m) (vSt V n) (S.1 4 m) q).2.2 by omega, ← nI_iI, ← nI_iI] at ih
      exact ih
    · rw [if_neg (by omega)] at ih
      exact ih
theorem snd_X11_still (a d w : Int32) {h : AH} {K : Int32 → AH → Prop} (k : S_X11_still a d w h K) : AW M_X11_still (.inl K) 0 [some (aR 15 0), some (aI a), some (aI d), some (aI w), none, none, none, none, none] [] h 0 0 := by
  obtain ⟨S, V, hs, hw, hr, hv, k⟩ := k
  refine vc_X11_still a d w ?_
  unfold S_X11_isIn
  simp only [if10_eq]
  unfold R_still at k
  refine ⟨fun q => ⟨fun z => absurd z (by decide), fun _ => ?_⟩, fun q => ⟨S, V, hs, hw, hr, hv, ?_⟩⟩
  · rw [if_pos q] at k; exact k h (keepM_rfl h)
  · rw [if_neg q] at k
    rcases rsr_cases hs hw hr hv a d with ⟨n, m, hp, e⟩ | e
    case inr =>
      rw [if_pos e] at k
      exact ⟨fun z => absurd z e, fun _ => k h (keepM_rfl h)⟩
    rw [if_neg (fun z => z e)] at k
    obtain ⟨-, -, -, p4, p5, rfl, p7, rfl, p9⟩ := id hp
    have h7 := p4.2.1
    unfold nN at k
    rw [n_cl (show m < 2147483648 by omega), n_cl (show n < 2147483648 by omega)] at k
    exact ⟨fun _ => lp_X11_still hp k 100 0 h (by omega) (keepM_rfl h), fun z => absurd e z⟩
theorem tr_X11_still : ∀ (as : List AV) (h : AH) (K : Int32 → AH → Prop), T_X11_still as h K → ∃ (q : Nat) (r : List AV), as = aR 15 q :: r := by
  intro as h K hk
  match as, hk with
  | [.inr (.inr (.inl q0)), .inl q1, .inl q2, .inl q3], hk =>
    obtain ⟨hb, hk⟩ := tif_inv hk
    simp only [Bool.and_eq_true] at hb
    obtain ⟨e0, e1⟩ := hb
    obtain ⟨a0, b0⟩ := q0
    have f0 : a0 = 15 := Nat.eq_of_beq_eq_true e0
    subst f0
    have f1 : b0 = 0 := Nat.eq_of_beq_eq_true e1
    subst f1
    exact ⟨_, _, rfl⟩
theorem tw_X11_still : ∀ (as : List AV) (h : AH) (K : Int32 → AH → Prop), T_X11_still as h K → (ini as).length ≤ mNL M_X11_still ∧ AW M_X11_still (.inl K) 0 (initL (mNL M_X11_still) as) [] h 0 0 := by
  intro as h K hk
  match as, hk with
  | [.inr (.inr (.inl q0)), .inl q1, .inl q2, .inl q3], hk =>
    obtain ⟨hb, hk⟩ := tif_inv hk
    simp only [Bool.and_eq_true] at hb
    obtain ⟨e0, e1⟩ := hb
    obtain ⟨a0, b0⟩ := q0
    have f0 : a0 = 15 := Nat.eq_of_beq_eq_true e0
    subst f0
    have f1 : b0 = 0 := Nat.eq_of_beq_eq_true e1
    subst f1
    exact ⟨Nat.le_of_ble_eq_true rfl, snd_X11_still q1 q2 q3 hk⟩

def frg (E : Nat → Int32) (k sz : Nat) : Nat → Nat
  | 0 => 0
  | P + 1 => max (frg E k sz P) (waP E k sz P).1
theorem frg_le {E : Nat → Int32} {k sz : Nat} : ∀ P, P ≤ 100 → frg E k sz P ≤ sz
  | 0, _ => Nat.zero_le _
  | P + 1, h => by
    have := frg_le (E := E) (k := k) (sz := sz) P (by omega)
    have hb := wa_b (E := E) (k := k) sz 0 (P / 10) (P % 10) (by omega) (by omega)
    have hb : 0 ≤ (waP E k sz P).1 ∧ (waP E k sz P).1 ≤ 0 + sz ∧ (waP E k sz P).2.1 ≤ 9 ∧ (waP E k sz P).2.2 ≤ 9 := hb
    unfold frg
    omega
def R_forged (S : Sm) (V : Vm) (a d : Int32) : Int32 := if rsr S V a d ≠ nI 0 then rsr S V a d else if frg (S.2 (nN d)) (vSt V (nN a)) (S.1 4 (nN d)) 100 = S.1 4 (nN d) then iI (-4) else nI (frg (S.2 (nN d)) (vSt V (nN a)) (S.1 4 (nN d)) 100)
def S_X11_forged (a d : Int32) (h : AH) (K : Int32 → AH → Prop) : Prop := ∃ S V, MSh h S ∧ WS S ∧ RV (h.1 16 0) V ∧ WF V ∧ ∀ h', keepM h h' → K (R_forged S V a d) h'
def T_X11_forged : List AV → AH → (Int32 → AH → Prop) → Prop := fun as h K => match as with
  | [.inr (.inr (.inl q0)), .inl q1, .inl q2] => tif (Nat.beq q0.1 15 && Nat.beq q0.2 0) (S_X11_forged q1 q2 h K)
  | _ => False

def M_X11_forged : MI := (RX11, cX11_forged, 6, [(0, .aload_n 0, []), (1, .iload_n 1, []), (2, .iload_n 2, []), (3, .invokevirtual 193, []), (6, .istore_n 3, []), (7, .iload_n 3, []), (8, .ifCond .eq 5, [13]), (11, .iload_n 3, []), (12, .ireturn, []), (13, .iconst 0, []), (14, .istore 4, []), (16, .iconst 0, []), (17, .istore 5, []), (19, .iload 5, []), (21, .bipush 100, []), (23, .if_icmp .ge 24, [47]), (26, .iload 4, []), (28, .aload_n 0, []), (29, .iload_n 1, []), (30, .iload_n 2, []), (31, .iload 5, []), (33, .invokevirtual 196, []), (36, .invokestatic 88, []), (39, .istore 4, []), (41, .iinc 5 1, []), (44, .goto (-25), [19]), (47, .iload 4, []), (49, .aload_n 0, []), (50, .getfield 47, []), (53, .iload_n 2, []), (54, .iaload, []), (55, .if_icmp .ne 8, [63]), (58, .bipush (-4), []), (60, .goto 5, [65]), (63, .iload 4, []), (65, .ireturn, [])], [(47, (15, 20, 1, 21, 4))], [], [], [(579, (3, 4, 86, 0, 0, .inl T_X11_wrongSheepRow)), (588, (4, 4, 90, 0, 0, .inl T_X11_wrongAt)), (265, (2, 1, 21, 0, 0, .inl T_X11_most))], 4, 90, 0, 0)
theorem ok_X11_forged : MOK M_X11_forged := ⟨by decide +kernel, List.forall_mem_cons.mpr ⟨fl_RX11_47, fun _ h => absurd h List.not_mem_nil⟩, fun _ h => absurd h List.not_mem_nil, fun _ h => absurd h List.not_mem_nil, List.forall_mem_cons.mpr ⟨⟨Nat.le_of_ble_eq_true rfl, Nat.le_of_ble_eq_true rfl, cr_RX11_579⟩, List.forall_mem_cons.mpr ⟨⟨Nat.le_of_ble_eq_true rfl, Nat.le_of_ble_eq_true rfl, cr_RX11_588⟩, List.forall_mem_cons.mpr ⟨⟨Nat.le_of_ble_eq_true rfl, Nat.le_of_ble_eq_true rfl, cr_RX11_265⟩, fun _ h => absurd h List.not_mem_nil⟩⟩⟩⟩
set_option maxRecDepth 100000 in
theorem vc_X11_forged {K : Int32 → AH → Prop} {h : AH} (p1 : Int32) (p2 : Int32) (H : S_X11_wrongSheepRow p1 p2 h (fun x2 h1 => ((x2 = 0) → AW M_X11_forged (.inl K) 19 [some (aR 15 0), some (aI p1), some (aI p2), none, some (aI (nI 0)), some (aI (nI 0))] [] h1 0 0) ∧ (¬ (x2 = 0) → K x2 h1))) : AW M_X11_forged (.inl K) 0 [some (aR 15 0), some (aI p1), some (aI p2), none, none, none] [] h 0 0 := AW_go (cuts := [(19, [true, true, true, false, true, true])]) ok_X11_forged 400 H
set_option maxRecDepth 100000 in
theorem vc_X11_forged_19 {K : Int32 → AH → Prop} {h : AH}  (l1 : Int32) (l2 : Int32) (l4 : Int32) (l5 : Int32) (H : (((nI 100) ≤ l5) → inR l2 8 ∧ ((¬ l4 = (h.1 21 4 l2.toNatClampNeg)) → K l4 h) ∧ (¬ (¬ l4 = (h.1 21 4 l2.toNatClampNeg)) → K (iI (-4)) h)) ∧ (¬ ((nI 100) ≤ l5) → S_X11_wrongAt l1 l2 l5 h (fun x2 h1 => S_X11_most l4 x2 h1 (fun x4 h3 => AW M_X11_forged (.inl K) 19 [some (aR 15 0), some (aI l1), some (aI l2), none, some (aI x4), some (aI (l5 + (nI 1)))] [] h3 0 0)))) : AW M_X11_forged (.inl K) 19 [some (aR 15 0), some (aI l1), some (aI l2), none, some (aI l4), some (aI l5)] [] h 0 0 := AW_go (cuts := [(19, [true, true, true, false, true, true])]) ok_X11_forged 400 H

theorem lp_X11_forged {S : Sm} {V : Vm} {n m : Nat} {h0 : AH} {K : Int32 → AH → Prop} (hp : pPre h0 S V (nI n) (nI m) n m) (k : ∀ h', keepM h0 h' → K (if frg (S.2 m) (vSt V n) (S.1 4 m) 100 = S.1 4 m then iI (-4) else nI (frg (S.2 m) (vSt V n) (S.1 4 m) 100)) h') : ∀ r P h, P + r = 100 → keepM h0 h → AW M_X11_forged (.inl K) 19 [some (aR 15 0), some (aI (nI n)), some (aI (nI m)), none, some (aI (nI (frg (S.2 m) (vSt V n) (S.1 4 m) P))), some (aI (nI P))] [] h 0 0 := by
  obtain ⟨-, p2, -, p4, p5, -, p7, -, p9⟩ := id hp
  have hw3 := (p2 m p7).2.2 p9
  intro r
  induction r with
  | zero =>
    intro P h hP hk
    refine vc_X11_forged_19 (nI n) (nI m) _ (nI P) ?_
    have : P = 100 := by omega
    subst this
    obtain ⟨c1, c2, c3⟩ := ((pPre_k hk hp).1 m p7).2.2 p9
    have hf := frg_le (E := S.2 m) (k := vSt V n) (sz := S.1 4 m) 100 (by omega)
    simp (disch := omega) only [n_inT, n_cl, true_and, c2, n_le, n_eq]
    have := k h hk
    refine ⟨fun _ => ⟨fun q => ?_, fun q => ?_⟩, fun q => absurd (by omega) q⟩
    · rw [if_neg q] at this; exact this
    · rw [if_pos (Decidable.not_not.mp q)] at this; exact this
  | succ r ih =>
    intro P h hP hk
    refine vc_X11_forged_19 (nI n) (nI m) _ (nI P) ?_
    simp (disch := omega) only [n_le, nI_add]
    refine ⟨fun q => by omega, fun _ => ⟨S, V, n, m, P, pPre_k hk hp, by omega, rfl, fun h1 o1 _ _ => ?_⟩⟩
    have hf := frg_le (E := S.2 m) (k := vSt V n) (sz := S.1 4 m) P (by omega)
    have hb := wa_b (E := S.2 m) (k := vSt V n) (S.1 4 m) 0 (P / 10) (P % 10) (by omega) (by omega)
    have hb : 0 ≤ (waP (S.2 m) (vSt V n) (S.1 4 m) P).1 ∧ (waP (S.2 m) (vSt V n) (S.1 4 m) P).1 ≤ 0 + S.1 4 m ∧ (waP (S.2 m) (vSt V n) (S.1 4 m) P).2.1 ≤ 9 ∧ (waP (S.2 m) (vSt V n) (S.1 4 m) P).2.2 ≤ 9 := hb
    have := ih (P + 1) h1 (by omega) (keepM_tr hk (keepP_M o1))
    rw [frg] at this
    unfold S_X11_most
    dsimp only
    by_cases hlt : (waP (S.2 m) (vSt V n) (S.1 4 m) P).1 < frg (S.2 m) (vSt V n) (S.1 4 m) P
    · rw [if_pos ((n_lt (by omega) (by omega)).mpr hlt)]
      rw [Nat.max_eq_left (by omega)] at this
      exact this
    · rw [if_neg (fun z => hlt ((n_lt (by omega) (by omega)).mp z))]
      rw [Nat.max_eq_right (by omega)] at this
      exact this
theorem snd_X11_forged (a d : Int32) {h : AH} {K : Int32 → AH → Prop} (k : S_X11_forged a d h K) : AW M_X11_forged (.inl K) 0 [some (aR 15 0), some (aI a), some (aI d), none, none, none] [] h 0 0 := by
  obtain ⟨S, V, hs, hw, hr, hv, k⟩ := k
  refine vc_X11_forged a d ⟨S, V, hs, hw, hr, hv, ?_⟩
  unfold R_forged at k
  rcases rsr_cases hs hw hr hv a d with ⟨n, m, hp, e⟩ | e
  case inr =>
    rw [if_pos e] at k
    exact ⟨fun z => absurd z e, fun _ => k h (keepM_rfl h)⟩
  rw [if_neg (fun z => z e)] at k
  obtain ⟨-, -, -, p4, p5, rfl, p7, rfl, p9⟩ := id hp
  have h7 := p4.2.1
  unfold nN at k
  rw [n_cl (show m < 2147483648 by omega), n_cl (show n < 2147483648 by omega)] at k
  exact ⟨fun _ => lp_X11_forged hp k 100 0 h (by omega) (keepM_rfl h), fun z => absurd e z⟩
theorem tr_X11_forged : ∀ (as : List AV) (h : AH) (K : Int32 → AH → Prop), T_X11_forged as h K → ∃ (q : Nat) (r : List AV), as = aR 15 q :: r := by
  intro as h K hk
  match as, hk with
  | [.inr (.inr (.inl q0)), .inl q1, .inl q2], hk =>
    obtain ⟨hb, hk⟩ := tif_inv hk
    simp only [Bool.and_eq_true] at hb
    obtain ⟨e0, e1⟩ := hb
    obtain ⟨a0, b0⟩ := q0
    have f0 : a0 = 15 := Nat.eq_of_beq_eq_true e0
    subst f0
    have f1 : b0 = 0 := Nat.eq_of_beq_eq_true e1
    subst f1
    exact ⟨_, _, rfl⟩
theorem tw_X11_forged : ∀ (as : List AV) (h : AH) (K : Int32 → AH → Prop), T_X11_forged as h K → (ini as).length ≤ mNL M_X11_forged ∧ AW M_X11_forged (.inl K) 0 (initL (mNL M_X11_forged) as) [] h 0 0 := by
  intro as h K hk
  match as, hk with
  | [.inr (.inr (.inl q0)), .inl q1, .inl q2], hk =>
    obtain ⟨hb, hk⟩ := tif_inv hk
    simp only [Bool.and_eq_true] at hb
    obtain ⟨e0, e1⟩ := hb
    obtain ⟨a0, b0⟩ := q0
    have f0 : a0 = 15 := Nat.eq_of_beq_eq_true e0
    subst f0
    have f1 : b0 = 0 := Nat.eq_of_beq_eq_true e1
    subst f1
    exact ⟨Nat.le_of_ble_eq_true rfl, snd_X11_forged q1 q2 hk⟩


/-! ===== the component: sheep kept, rows copied ===== -/
/-- only shelves (and new sheep) have changed -/
def keepK (h h' : AH) : Prop := (∀ t u i, t ≠ 12 → t ≠ 13 → t ≠ 18 → h'.1 t u i = h.1 t u i) ∧ (∀ t u i, t ≠ 12 → h'.2.1 t u i = h.2.1 t u i) ∧ ∀ t u i a, h.2.1 t u i = some a → ∀ j, h'.1 18 a j = h.1 18 a j
theorem keepK_rfl (h : AH) : keepK h h := ⟨fun _ _ _ _ _ _ => rfl, fun _ _ _ _ => rfl, fun _ _ _ _ _ _ => rfl⟩
theorem SHP_new {h h' : AH} {a : Nat} {t u i k f : Nat} (q : newS h h' a) (s : SHP h (h.2.1 t u i) k f) : SHP h' (h.2.1 t u i) k f := by
  obtain ⟨b, s0, s1, s2, s3, s4, s5, s6, s7⟩ := s
  have e : ∀ j, h'.1 18 b j = h.1 18 b j := fun j => q.2.2.1 18 b j (fun z => q.2.2.2 t u i (by rw [s0, z.2]))
  exact ⟨b, s0, by rw [e, s1], by rw [e, s2], by rw [e, s3], by rw [e, s4], by rw [e, s5], by rw [e, s6], by rw [e, s7]⟩
/-- a shelf gets nothing or a sheep -/
theorem CSh_hold {h g : AH} {S : Sm} {m i kk ff : Nat} {o : Option Nat} (c : CSh h S) (hm : m < 8) (hi : i ≤ 1) (e1 : ∀ t u j, t ≠ 18 → g.1 t u j = h.1 t u j) (e2 : g.2.1 = h.2.1) (e3 : ∀ t u j k f, SHP h (h.2.1 t u j) k f → SHP g (h.2.1 t u j) k f) (h0 : i = 0 → o = none) (h1 : i = 1 → SHP g o kk ff) : CSh (wI (wI (wR g 12 m 0 o) 12 m 1 (nI 0)) 12 m 3 (nI 0)) (uS (uS (uS S 0 m i) 1 m kk) 2 m ff) := by
  intro d hd
  obtain ⟨c0, c1, c2⟩ := c d hd
  have s18 : ∀ a j, (wI (wI (wR g 12 m 0 o) 12 m 1 (nI 0)) 12 m 3 (nI 0)).1 18 a j = g.1 18 a j := fun a j => by rw [wI_nt (by omega), wI_nt (by omega)]
  have r0 : (wI (wI (wR g 12 m 0 o) 12 m 1 (nI 0)) 12 m 3 (nI 0)).2.1 12 d 0 = if d = m then o else h.2.1 12 d 0 := by
    show (wR g 12 m 0 o).2.1 12 d 0 = _
    rw [wR_get, e2]
    by_cases z : d = m
    · rw [if_pos ⟨rfl, z, rfl⟩, if_pos z]
    · rw [if_neg (fun y => z y.2.1), if_neg z]
  unfold uS
  by_cases z : d = m
  · subst z
    rw [r0, if_pos rfl]
    have r1 : (wI (wI (wR g 12 d 0 o) 12 d 1 (nI 0)) 12 d 3 (nI 0)).1 12 d 1 = nI 0 := by rw [wI_ni (by omega), wI_at]
    rw [r1]
    simp only [uV]
    simp
    refine ⟨fun y => h0 y, fun y => SHP_e s18 (h1 y), fun y => by omega⟩
  · have r1 : ∀ j, (wI (wI (wR g 12 m 0 o) 12 m 1 (nI 0)) 12 m 3 (nI 0)).1 12 d j = h.1 12 d j := fun j => by
      rw [wI_np z, wI_np z]
      exact e1 12 d j (by omega)
    have r2 : ∀ j, (wI (wI (wR g 12 m 0 o) 12 m 1 (nI 0)) 12 m 3 (nI 0)).1 13 d j = h.1 13 d j := fun j => by
      rw [wI_nt (by omega), wI_nt (by omega)]
      exact e1 13 d j (by omega)
    rw [r0, if_neg z, r1, r1, r1]
    simp only [uV]
    simp [z]
    exact ⟨c0, fun y => ⟨SHP_e s18 (e3 _ _ _ _ _ (c1 y).1), (c1 y).2⟩, fun y => ⟨(c2 y).1, (c2 y).2.1, (c2 y).2.2.1, (c2 y).2.2.2.1, fun j hj => (r2 j).trans ((c2 y).2.2.2.2 j hj)⟩⟩
def S_X10_keep (d w k f : Int32) (h : AH) (K : Int32 → AH → Prop) : Prop := ∃ S, CSh h S ∧ WS S ∧ ∀ h', keepK h h' → CSh h' (M_keep S d w k f).2 → K (M_keep S d w k f).1 h'
def T_X10_keep : List AV → AH → (Int32 → AH → Prop) → Prop := fun as h K => match as with
  | [.inr (.inr (.inl q0)), .inl q1, .inl q2, .inl q3, .inl q4] => tif (Nat.beq q0.1 0 && Nat.beq q0.2 0) (S_X10_keep q1 q2 q3 q4 h K)
  | _ => False

def M_X10_keep : MI := (RX10, cX10_keep, 6, [(0, .iload_n 1, []), (1, .iconst 0, []), (2, .bipush 7, []), (4, .invokestatic 59, []), (7, .ifCond .eq 12, [19]), (10, .iload_n 2, []), (11, .iconst 0, []), (12, .iconst 1, []), (13, .invokestatic 59, []), (16, .ifCond .ne 5, [21]), (19, .iconst (-1), []), (20, .ireturn, []), (21, .iload_n 2, []), (22, .iconst 1, []), (23, .if_icmp .ne 12, [35]), (26, .iload_n 3, []), (27, .iload 4, []), (29, .invokestatic 234, []), (32, .goto 4, [36]), (35, .aconst_null, []), (36, .astore 5, []), (38, .iload_n 2, []), (39, .iconst 1, []), (40, .if_icmp .ne 10, [50]), (43, .aload 5, []), (45, .ifnonnull 5, [50]), (48, .iconst (-1), []), (49, .ireturn, []), (50, .aload_n 0, []), (51, .getfield 24, []), (54, .iload_n 1, []), (55, .aaload, []), (56, .aload 5, []), (58, .invokevirtual 238, []), (61, .iconst 0, []), (62, .ireturn, [])], [(24, (0, 4, 1, 11, 0))], [], [], [(178, (3, 1, 22, 0, 0, .inl T_X10_within)), (703, (2, 5, 99, 1, 7, .inr (.inr (.inr T_X10_newSheep)))), (714, (2, 1, 21, 0, 0, .inr (.inl T_X5_holdSheep)))], 5, 99, 1, 7)
theorem ok_X10_keep : MOK M_X10_keep := ⟨by decide +kernel, List.forall_mem_cons.mpr ⟨fl_RX10_24, fun _ h => absurd h List.not_mem_nil⟩, fun _ h => absurd h List.not_mem_nil, fun _ h => absurd h List.not_mem_nil, List.forall_mem_cons.mpr ⟨⟨Nat.le_of_ble_eq_true rfl, Nat.le_of_ble_eq_true rfl, cr_RX10_178⟩, List.forall_mem_cons.mpr ⟨⟨Nat.le_of_ble_eq_true rfl, Nat.le_of_ble_eq_true rfl, cr_RX10_703⟩, List.forall_mem_cons.mpr ⟨⟨Nat.le_of_ble_eq_true rfl, Nat.le_of_ble_eq_true rfl, cr_RX10_714⟩, fun _ h => absurd h List.not_mem_nil⟩⟩⟩⟩
set_option maxRecDepth 100000 in
theorem vc_X10_keep {K : Int32 → AH → Prop} {h : AH} (p1 : Int32) (p2 : Int32) (p3 : Int32) (p4 : Int32) (H : S_X10_within p1 (nI 0) (nI 7) h (fun x2 h1 => ((x2 = 0) → K (iI (-1)) h1) ∧ (¬ (x2 = 0) → S_X10_within p2 (nI 0) (nI 1) h1 (fun x4 h3 => ((¬ x4 = 0) → ((¬ p2 = (nI 1)) → ((¬ p2 = (nI 1)) → inR p1 8 ∧ S_X5_holdSheep p1.toNatClampNeg none h3 (fun h5 => K (nI 0) h5)) ∧ (¬ (¬ p2 = (nI 1)) → (((none : Option Nat) = none) → K (iI (-1)) h3) ∧ (¬ ((none : Option Nat) = none) → inR p1 8 ∧ S_X5_holdSheep p1.toNatClampNeg none h3 (fun h6 => K (nI 0) h6)))) ∧ (¬ (¬ p2 = (nI 1)) → (0 + 1 ≤ 1 ∧ 0 + 7 ≤ 7) ∧ S_X10_newSheep p3 p4 h3 (fun x8 h7 => ((¬ p2 = (nI 1)) → inR p1 8 ∧ S_X5_holdSheep p1.toNatClampNeg x8 h7 (fun h9 => K (nI 0) h9)) ∧ (¬ (¬ p2 = (nI 1)) → (((x8 : Option Nat) = none) → K (iI (-1)) h7) ∧ (¬ ((x8 : Option Nat) = none) → inR p1 8 ∧ S_X5_holdSheep p1.toNatClampNeg x8 h7 (fun h10 => K (nI 0) h10)))))) ∧ (¬ (¬ x4 = 0) → K (iI (-1)) h3))))) : AW M_X10_keep (.inl K) 0 [some (aR 0 0), some (aI p1), some (aI p2), some (aI p3), some (aI p4), none] [] h 0 0 := AW_go (cuts := []) ok_X10_keep 400 H

theorem snd_X10_keep (d w k f : Int32) {h : AH} {K : Int32 → AH → Prop} (kk : S_X10_keep d w k f h K) : AW M_X10_keep (.inl K) 0 [some (aR 0 0), some (aI d), some (aI w), some (aI k), some (aI f), none] [] h 0 0 := by
  obtain ⟨S, c, ws, kk⟩ := kk
  unfold M_keep at kk
  have no : ¬ (cel d ∧ w01 w ∧ (w = nI 1 → (nI 0 ≤ k ∧ k ≤ nI 7) ∧ (nI 0 ≤ f ∧ f ≤ nI 9))) → ∀ h', keepK h h' → CSh h' S → K (iI (-1)) h' := fun z h' q c' => by
    have := kk h' q
    rw [if_neg z] at this
    exact this c'
  refine vc_X10_keep d w k f (w_if (fun q => w_ni (fun q2 => ?_) (fun q2 => no (fun z => q2 z.2.1) h (keepK_rfl h) c)) (fun q2 => no (fun z => q2 z.1) h (keepK_rfl h) c))
  obtain ⟨m, hm, rfl⟩ := in8_iff.mp q
  obtain ⟨i, hi, rfl⟩ := (in_n (by omega)).mp q2
  rw [n_cl (show m < 2147483648 by omega), n_eq (by omega) (by omega)]
  refine ⟨fun q3 => ⟨fun _ => ⟨n_in hm (by omega), ?_⟩, fun z => absurd q3 z⟩, fun q3 => ⟨⟨by omega, by omega⟩, fun hno => ?_, fun i' j' a h1 hi' hj' ei ej ns sp => ⟨fun z => absurd z q3, fun _ => ⟨fun z => (by cases z), fun _ => ⟨n_in hm (by omega), ?_⟩⟩⟩⟩⟩
  · have i0 : i = 0 := by omega
    subst i0
    show K (nI 0) _
    have := kk (wI (wI (wR h 12 m 0 none) 12 m 1 (nI 0)) 12 m 3 (nI 0)) ⟨fun t u j a1 a2 a3 => by rw [wI_nt a1, wI_nt a1], fun t u j a1 => by show (wR h 12 m 0 none).2.1 t u j = _; rw [wR_get, if_neg (fun y => a1 y.1)], fun t u j a e l => by rw [wI_nt (by omega), wI_nt (by omega)]⟩
    rw [if_pos ⟨q, q2, fun z => absurd z (by decide)⟩, nN_n (show m < 2147483648 by omega), nN_n (show 0 < 2147483648 by omega)] at this
    exact this (CSh_hold c hm (by omega) (fun _ _ _ _ => rfl) rfl (fun _ _ _ _ _ s => s) (fun _ => rfl) (fun z => by omega))
  · have i1 : i = 1 := by omega
    subst i1
    refine ⟨fun z => absurd z q3, fun _ => ⟨fun _ => ?_, fun z => absurd rfl z⟩⟩
    refine no (fun z => hno ?_) h (keepK_rfl h) c
    obtain ⟨y1, y2⟩ := z.2.2 rfl
    obtain ⟨k', hk', rfl⟩ := (in_n (by omega)).mp y1
    obtain ⟨f', hf', rfl⟩ := (in_n (by omega)).mp y2
    exact ⟨k', f', hk', hf', rfl, rfl⟩
  · have i1 : i = 1 := by omega
    subst i1
    subst ei
    subst ej
    show K (nI 0) _
    have := kk (wI (wI (wR h1 12 m 0 (some a)) 12 m 1 (nI 0)) 12 m 3 (nI 0)) ⟨fun t u j a1 a2 a3 => by rw [wI_nt a1, wI_nt a1]; exact ns.2.2.1 t u j (fun y => a3 y.1), fun t u j a1 => by show (wR h1 12 m 0 (some a)).2.1 t u j = _; rw [wR_get, if_neg (fun y => a1 y.1), ns.1], fun t u j b e l => by rw [wI_nt (by omega), wI_nt (by omega)]; exact ns.2.2.1 18 b l (fun y => ns.2.2.2 t u j (by rw [e, y.2]))⟩
    rw [if_pos ⟨q, q2, fun _ => ⟨(in_n (by omega)).mpr ⟨i', hi', rfl⟩, (in_n (by omega)).mpr ⟨j', hj', rfl⟩⟩⟩, nN_n (show m < 2147483648 by omega), nN_n (show 1 < 2147483648 by omega), nN_n (show i' < 2147483648 by omega), nN_n (show j' < 2147483648 by omega)] at this
    exact this (CSh_hold c hm (by omega) (fun t u j a1 => ns.2.2.1 t u j (fun y => a1 y.1)) ns.1 (fun t u j k f s => SHP_new ns s) (fun z => by omega) (fun _ => sp))
theorem tr_X10_keep : ∀ (as : List AV) (h : AH) (K : Int32 → AH → Prop), T_X10_keep as h K → ∃ (q : Nat) (r : List AV), as = aR 0 q :: r := by
  intro as h K hk
  match as, hk with
  | [.inr (.inr (.inl q0)), .inl q1, .inl q2, .inl q3, .inl q4], hk =>
    obtain ⟨hb, hk⟩ := tif_inv hk
    simp only [Bool.and_eq_true] at hb
    obtain ⟨e0, e1⟩ := hb
    obtain ⟨a0, b0⟩ := q0
    have f0 : a0 = 0 := Nat.eq_of_beq_eq_true e0
    subst f0
    have f1 : b0 = 0 := Nat.eq_of_beq_eq_true e1
    subst f1
    exact ⟨_, _, rfl⟩
theorem tw_X10_keep : ∀ (as : List AV) (h : AH) (K : Int32 → AH → Prop), T_X10_keep as h K → (ini as).length ≤ mNL M_X10_keep ∧ AW M_X10_keep (.inl K) 0 (initL (mNL M_X10_keep) as) [] h 0 0 := by
  intro as h K hk
  match as, hk with
  | [.inr (.inr (.inl q0)), .inl q1, .inl q2, .inl q3, .inl q4], hk =>
    obtain ⟨hb, hk⟩ := tif_inv hk
    simp only [Bool.and_eq_true] at hb
    obtain ⟨e0, e1⟩ := hb
    obtain ⟨a0, b0⟩ := q0
    have f0 : a0 = 0 := Nat.eq_of_beq_eq_true e0
    subst f0
    have f1 : b0 = 0 := Nat.eq_of_beq_eq_true e1
    subst f1
    exact ⟨Nat.le_of_ble_eq_true rfl, snd_X10_keep q1 q2 q3 q4 hk⟩

def S_X10_copy (d i e j n : Int32) (h : AH) (K : Int32 → AH → Prop) : Prop := ∃ S, CSh h S ∧ WS S ∧ ∀ h', onlyZ h h' → CSh h' (M_copy S d i e j n).2 → K (M_copy S d i e j n).1 h'
def T_X10_copy : List AV → AH → (Int32 → AH → Prop) → Prop := fun as h K => match as with
  | [.inr (.inr (.inl q0)), .inl q1, .inl q2, .inl q3, .inl q4, .inl q5] => tif (Nat.beq q0.1 0 && Nat.beq q0.2 0) (S_X10_copy q1 q2 q3 q4 q5 h K)
  | _ => False

def M_X10_copy : MI := (RX10, cX10_copy, 8, [(0, .iload_n 1, []), (1, .iconst 0, []), (2, .bipush 7, []), (4, .invokestatic 59, []), (7, .ifCond .eq 13, [20]), (10, .iload_n 3, []), (11, .iconst 0, []), (12, .bipush 7, []), (14, .invokestatic 59, []), (17, .ifCond .ne 5, [22]), (20, .iconst (-1), []), (21, .ireturn, []), (22, .aload_n 0, []), (23, .getfield 24, []), (26, .iload_n 1, []), (27, .aaload, []), (28, .astore 6, []), (30, .aload_n 0, []), (31, .getfield 24, []), (34, .iload_n 3, []), (35, .aaload, []), (36, .astore 7, []), (38, .aload 6, []), (40, .invokevirtual 264, []), (43, .ifCond .ne 11, [54]), (46, .aload 7, []), (48, .invokevirtual 264, []), (51, .ifCond .eq 6, [57]), (54, .bipush (-11), []), (56, .ireturn, []), (57, .aload 6, []), (59, .getfield 256, []), (62, .ifCond .eq 24, [86]), (65, .aload 7, []), (67, .getfield 256, []), (70, .ifCond .eq 16, [86]), (73, .aload 6, []), (75, .getfield 267, []), (78, .aload 7, []), (80, .getfield 267, []), (83, .if_icmp .eq 6, [89]), (86, .bipush (-12), []), (88, .ireturn, []), (89, .iload 5, []), (91, .ifCond .lt 36, [127]), (94, .iload_n 2, []), (95, .iconst 0, []), (96, .aload 6, []), (98, .getfield 45, []), (101, .iload 5, []), (103, .isub, []), (104, .invokestatic 59, []), (107, .ifCond .eq 20, [127]), (110, .iload 4, []), (112, .iconst 0, []), (113, .aload 7, []), (115, .getfield 45, []), (118, .iload 5, []), (120, .isub, []), (121, .invokestatic 59, []), (124, .ifCond .ne 6, [130]), (127, .bipush (-13), []), (129, .ireturn, []), (130, .aload 6, []), (132, .getfield 49, []), (135, .iload_n 2, []), (136, .aload 7, []), (138, .getfield 49, []), (141, .iload 4, []), (143, .iload 5, []), (145, .invokestatic 270, []), (148, .iload 5, []), (150, .ireturn, [])], [(24, (0, 4, 1, 11, 0)), (256, (12, 1, 3, 0, 0)), (267, (12, 2, 0, 0, 0)), (45, (12, 3, 0, 0, 0)), (49, (12, 4, 1, 13, 0))], [], [], [(178, (3, 1, 22, 0, 0, .inl T_X10_within)), (792, (1, 1, 20, 0, 0, .inl T_X5_isEmpty)), (811, (5, 1, 26, 0, 0, .inr (.inl T_acopy)))], 1, 26, 0, 0)
theorem ok_X10_copy : MOK M_X10_copy := ⟨by decide +kernel, List.forall_mem_cons.mpr ⟨fl_RX10_24, List.forall_mem_cons.mpr ⟨fl_RX10_256, List.forall_mem_cons.mpr ⟨fl_RX10_267, List.forall_mem_cons.mpr ⟨fl_RX10_45, List.forall_mem_cons.mpr ⟨fl_RX10_49, fun _ h => absurd h List.not_mem_nil⟩⟩⟩⟩⟩, fun _ h => absurd h List.not_mem_nil, fun _ h => absurd h List.not_mem_nil, List.forall_mem_cons.mpr ⟨⟨Nat.le_of_ble_eq_true rfl, Nat.le_of_ble_eq_true rfl, cr_RX10_178⟩, List.forall_mem_cons.mpr ⟨⟨Nat.le_of_ble_eq_true rfl, Nat.le_of_ble_eq_true rfl, cr_RX10_792⟩, List.forall_mem_cons.mpr ⟨⟨Nat.le_of_ble_eq_true rfl, Nat.le_of_ble_eq_true rfl, cr_RX10_811⟩, fun _ h => absurd h List.not_mem_nil⟩⟩⟩⟩
set_option maxRecDepth 100000 in
theorem vc_X10_copy {K : Int32 → AH → Prop} {h : AH} (p1 : Int32) (p2 : Int32) (p3 : Int32) (p4 : Int32) (p5 : Int32) (H : S_X10_within p1 (nI 0) (nI 7) h (fun x2 h1 => ((x2 = 0) → K (iI (-1)) h1) ∧ (¬ (x2 = 0) → S_X10_within p3 (nI 0) (nI 7) h1 (fun x4 h3 => ((¬ x4 = 0) → inR p1 8 ∧ inR p3 8 ∧ S_X5_isEmpty p1.toNatClampNeg h3 (fun x6 h5 => ((¬ x6 = 0) → K (iI (-11)) h5) ∧ (¬ (¬ x6 = 0) → S_X5_isEmpty p3.toNatClampNeg h5 (fun x8 h7 => ((x8 = 0) → (((h7.1 12 p1.toNatClampNeg 1) = 0) → K (iI (-12)) h7) ∧ (¬ ((h7.1 12 p1.toNatClampNeg 1) = 0) → (((h7.1 12 p3.toNatClampNeg 1) = 0) → K (iI (-12)) h7) ∧ (¬ ((h7.1 12 p3.toNatClampNeg 1) = 0) → (((h7.1 12 p1.toNatClampNeg 2) = (h7.1 12 p3.toNatClampNeg 2)) → ((p5 < 0) → K (iI (-13)) h7) ∧ (¬ (p5 < 0) → S_X10_within p2 (nI 0) ((h7.1 12 p1.toNatClampNeg 3) - p5) h7 (fun x10 h9 => ((x10 = 0) → K (iI (-13)) h9) ∧ (¬ (x10 = 0) → S_X10_within p4 (nI 0) ((h9.1 12 p3.toNatClampNeg 3) - p5) h9 (fun x12 h11 => ((¬ x12 = 0) → akin 13 = 0 ∧ akin 13 = 0 ∧ (¬ p2 < 0) ∧ (¬ p4 < 0) ∧ (¬ p5 < 0) ∧ p2.toNatClampNeg + p5.toNatClampNeg ≤ alen 13 ∧ p4.toNatClampNeg + p5.toNatClampNeg ≤ alen 13 ∧ K p5 (cA h11 13 p1.toNatClampNeg p2.toNatClampNeg 13 p3.toNatClampNeg p4.toNatClampNeg p5.toNatClampNeg)) ∧ (¬ (¬ x12 = 0) → K (iI (-13)) h11)))))) ∧ (¬ ((h7.1 12 p1.toNatClampNeg 2) = (h7.1 12 p3.toNatClampNeg 2)) → K (iI (-12)) h7)))) ∧ (¬ (x8 = 0) → K (iI (-11)) h7))))) ∧ (¬ (¬ x4 = 0) → K (iI (-1)) h3))))) : AW M_X10_copy (.inl K) 0 [some (aR 0 0), some (aI p1), some (aI p2), some (aI p3), some (aI p4), some (aI p5), none, none] [] h 0 0 := AW_go (cuts := []) ok_X10_copy 400 H

theorem CSh_cp {h : AH} {S : Sm} {d i e j n : Nat} (c : CSh h S) (hd : d < 8) (h2 : S.1 0 d = 2) (hi : i + n ≤ 100) : CSh (cA h 13 d i 13 e j n) (cpS S d i e j n) := by
  have g : ∀ a b t, (cA h 13 d i 13 e j n).1 a b t = if a = 13 ∧ b = e ∧ j ≤ t ∧ t < j + n then h.1 13 d (i + (t - j)) else h.1 a b t := fun a b t => rfl
  intro x hx
  obtain ⟨c0, c1, c2⟩ := c x hx
  have r1 : ∀ t, (cA h 13 d i 13 e j n).1 12 x t = h.1 12 x t := fun t => by rw [g, if_neg (by omega)]
  have r3 : ∀ a t, (cA h 13 d i 13 e j n).1 18 a t = h.1 18 a t := fun a t => by rw [g, if_neg (by omega)]
  rw [r1, r1, r1]
  refine ⟨c0, fun q => ⟨SHP_e r3 (c1 q).1, (c1 q).2⟩, fun q => ⟨(c2 q).1, (c2 q).2.1, (c2 q).2.2.1, (c2 q).2.2.2.1, fun t ht => ?_⟩⟩
  rw [g]
  show _ = if x = e ∧ j ≤ t ∧ t < j + n then S.2 d (i + (t - j)) else S.2 x t
  by_cases z : x = e ∧ j ≤ t ∧ t < j + n
  · rw [if_pos ⟨rfl, z⟩, if_pos z]
    exact ((c d hd).2.2 h2).2.2.2.2 _ (by omega)
  · rw [if_neg (fun y => z y.2), if_neg z]
    exact (c2 q).2.2.2.2 t ht
theorem cp_le {s : Nat} {i n : Int32} (hs : s ≤ 100) (hn : ¬ n < 0) : (nI 0 ≤ i ∧ i ≤ nI s - n) ↔ (¬ i < 0 ∧ ¬ nI s - i < n) := by
  obtain ⟨n', hn', rfl⟩ := nI_of hn
  rw [show nI 0 ≤ i ↔ ¬ i < 0 from (not_lt_i (a := i) (b := nI 0)).symm]
  constructor
  · rintro ⟨a, b⟩
    refine ⟨a, ?_⟩
    obtain ⟨i', hi', rfl⟩ := nI_of a
    rw [n_subI] at b ⊢
    rw [nI_iI i', i_le (by omega) (by omega) (by omega) (by omega)] at b
    rw [nI_iI n', i_lt (by omega) (by omega) (by omega) (by omega)]
    omega
  · rintro ⟨a, b⟩
    refine ⟨a, ?_⟩
    obtain ⟨i', hi', rfl⟩ := nI_of a
    rw [n_subI] at b ⊢
    rw [nI_iI n', i_lt (by omega) (by omega) (by omega) (by omega)] at b
    rw [nI_iI i', i_le (by omega) (by omega) (by omega) (by omega)]
    omega
theorem snd_X10_copy (d i e j n : Int32) {h : AH} {K : Int32 → AH → Prop} (k : S_X10_copy d i e j n h K) : AW M_X10_copy (.inl K) 0 [some (aR 0 0), some (aI d), some (aI i), some (aI e), some (aI j), some (aI n), none, none] [] h 0 0 := by
  obtain ⟨S, c, ws, k⟩ := k
  unfold M_copy at k
  have k0 : (¬ cel d ∨ ¬ cel e) → K (iI (-1)) h := fun z => by
    rw [if_pos z] at k
    exact k h (onlyZ_rfl h) c
  refine vc_X10_copy d i e j n (w_if (fun q => w_ni (fun q2 => ?_) (fun q2 => k0 (Or.inr q2))) (fun q2 => k0 (Or.inl q2)))
  rw [if_neg (by rintro (z | z); exact z q; exact z q2)] at k
  clear k0
  obtain ⟨x, hx, rfl⟩ := in8_iff.mp q
  obtain ⟨y, hy, rfl⟩ := in8_iff.mp q2
  rw [nN_n (show x < 2147483648 by omega), nN_n (show y < 2147483648 by omega)] at k
  rw [n_cl (show x < 2147483648 by omega), n_cl (show y < 2147483648 by omega)]
  have k1 : (S.1 0 x = 0 ∨ S.1 0 y = 0) → K (iI (-11)) h := fun z => by
    rw [if_pos z] at k
    exact k h (onlyZ_rfl h) c
  refine ⟨n_in hx (by omega), n_in hy (by omega), S, c, ws, hx, w_ni (fun z => k1 (Or.inl z)) (fun z1 => ⟨S, c, ws, hy, w_if (fun z => k1 (Or.inr z)) (fun z2 => ?_)⟩)⟩
  rw [if_neg (by rintro (z | z); exact z1 z; exact z2 z)] at k
  clear k1
  have wx := (ws x hx).1
  have wy := (ws y hy).1
  have k2 : (S.1 0 x ≠ 2 ∨ S.1 0 y ≠ 2 ∨ S.1 3 x ≠ S.1 3 y) → K (iI (-12)) h := fun z => by
    rw [if_pos z] at k
    exact k h (onlyZ_rfl h) c
  have cx := c x hx
  have cy := c y hy
  by_cases x2 : S.1 0 x = 2
  case neg =>
    rw [(cx.2.1 (by omega)).2]
    exact ⟨fun _ => k2 (Or.inl x2), fun z => absurd (show nI 0 = 0 by decide) z⟩
  by_cases y2 : S.1 0 y = 2
  case neg =>
    rw [(cx.2.2 x2).2.1, (cy.2.1 (by omega)).2]
    exact ⟨fun z => absurd z (by decide), fun _ => ⟨fun _ => k2 (Or.inr (Or.inl y2)), fun z => absurd (show nI 0 = 0 by decide) z⟩⟩
  obtain ⟨-, ex1, ex2, ex3, -, lx1, lx2⟩ := rowPs ⟨c, ws, hx, x2⟩
  obtain ⟨-, ey1, ey2, ey3, -, ly1, ly2⟩ := rowPs ⟨c, ws, hy, y2⟩
  rw [ex1, ey1, ex2, ey2, n_eq (by omega) (by omega)]
  refine ⟨fun z => absurd z (by decide), fun _ => ⟨fun z => absurd z (by decide), fun _ => ⟨fun z3 => ?_, fun z3 => k2 (Or.inr (Or.inr z3))⟩⟩⟩
  rw [if_neg (by rintro (z | z | z); exact z x2; exact z y2; exact z z3)] at k
  clear k2
  have k3 : (n < 0 ∨ i < 0 ∨ j < 0 ∨ nI (S.1 4 x) - i < n ∨ ¬ n ≤ nI (S.1 4 y) - j) → K (iI (-13)) h := fun z => by
    rw [if_pos z] at k
    exact k h (onlyZ_rfl h) c
  refine ⟨fun z => k3 (Or.inl z), fun hn => ?_⟩
  (try dsimp only)
  rw [ex3]
  refine w_if (fun z4 => ?_) (fun z4 => ?_)
  rw [ey3]
  refine w_ni (fun z5 => ?_) (fun z5 => ?_)
  · have a4 := (cp_le lx2 hn).mp z4
    have a5 := (cp_le ly2 hn).mp z5
    rw [if_neg (by rintro (z | z | z | z | z); exact hn z; exact a4.1 z; exact a5.1 z; exact a4.2 z; exact z (not_lt_i.mp a5.2))] at k
    obtain ⟨n', hn', rfl⟩ := nI_of hn
    obtain ⟨i', hi', rfl⟩ := nI_of a4.1
    obtain ⟨j', hj', rfl⟩ := nI_of a5.1
    have b4 := a4.2
    have b5 := a5.2
    rw [n_subI, nI_iI n', i_lt (by omega) (by omega) (by omega) (by omega)] at b4 b5
    rw [nN_n hi', nN_n hj', nN_n hn'] at k
    rw [n_cl hi', n_cl hj', n_cl hn']
    exact ⟨rfl, rfl, a4.1, a5.1, hn, by show i' + n' ≤ 100; omega, by show j' + n' ≤ 100; omega, k _ ⟨rfl, fun a b t u1 u2 => by show uC h.1 13 x i' 13 y j' n' a b t = _; unfold uC; rw [if_neg (fun z => u2 z.1)], fun _ _ _ _ => rfl⟩ (CSh_cp c hx x2 (by omega))⟩
  · refine k3 ?_
    by_cases a1 : j < 0
    · exact Or.inr (Or.inr (Or.inl a1))
    · exact Or.inr (Or.inr (Or.inr (Or.inr (fun z => z5 ((cp_le ly2 hn).mpr ⟨a1, not_lt_i.mpr z⟩)))))
  · refine k3 ?_
    by_cases a1 : i < 0
    · exact Or.inr (Or.inl a1)
    · refine Or.inr (Or.inr (Or.inr (Or.inl ?_)))
      exact Decidable.not_not.mp (fun z => z4 ((cp_le lx2 hn).mpr ⟨a1, z⟩))
theorem tr_X10_copy : ∀ (as : List AV) (h : AH) (K : Int32 → AH → Prop), T_X10_copy as h K → ∃ (q : Nat) (r : List AV), as = aR 0 q :: r := by
  intro as h K hk
  match as, hk with
  | [.inr (.inr (.inl q0)), .inl q1, .inl q2, .inl q3, .inl q4, .inl q5], hk =>
    obtain ⟨hb, hk⟩ := tif_inv hk
    simp only [Bool.and_eq_true] at hb
    obtain ⟨e0, e1⟩ := hb
    obtain ⟨a0, b0⟩ := q0
    have f0 : a0 = 0 := Nat.eq_of_beq_eq_true e0
    subst f0
    have f1 : b0 = 0 := Nat.eq_of_beq_eq_true e1
    subst f1
    exact ⟨_, _, rfl⟩
theorem tw_X10_copy : ∀ (as : List AV) (h : AH) (K : Int32 → AH → Prop), T_X10_copy as h K → (ini as).length ≤ mNL M_X10_copy ∧ AW M_X10_copy (.inl K) 0 (initL (mNL M_X10_copy) as) [] h 0 0 := by
  intro as h K hk
  match as, hk with
  | [.inr (.inr (.inl q0)), .inl q1, .inl q2, .inl q3, .inl q4, .inl q5], hk =>
    obtain ⟨hb, hk⟩ := tif_inv hk
    simp only [Bool.and_eq_true] at hb
    obtain ⟨e0, e1⟩ := hb
    obtain ⟨a0, b0⟩ := q0
    have f0 : a0 = 0 := Nat.eq_of_beq_eq_true e0
    subst f0
    have f1 : b0 = 0 := Nat.eq_of_beq_eq_true e1
    subst f1
    exact ⟨Nat.le_of_ble_eq_true rfl, snd_X10_copy q1 q2 q3 q4 q5 hk⟩


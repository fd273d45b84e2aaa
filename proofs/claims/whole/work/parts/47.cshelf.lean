/-! ===== the component's shelves ===== -/
def CSh (h : AH) (S : Sm) : Prop := ∀ d, d < 8 → (S.1 0 d = 0 → h.2.1 12 d 0 = none ∧ h.1 12 d 1 = nI 0) ∧ (S.1 0 d = 1 → SHP h (h.2.1 12 d 0) (S.1 1 d) (S.1 2 d) ∧ h.1 12 d 1 = nI 0) ∧ (S.1 0 d = 2 → h.2.1 12 d 0 = none ∧ h.1 12 d 1 = nI 1 ∧ h.1 12 d 2 = nI (S.1 3 d) ∧ h.1 12 d 3 = nI (S.1 4 d) ∧ ∀ i, i < 100 → h.1 13 d i = S.2 d i)
theorem CSh_e {h h' : AH} {S : Sm} (e1 : ∀ t u i, t = 12 ∨ t = 13 → h'.1 t u i = h.1 t u i) (e2 : ∀ u i, h'.2.1 12 u i = h.2.1 12 u i) (e3 : ∀ a i, h'.1 18 a i = h.1 18 a i) (c : CSh h S) : CSh h' S := by
  intro d hd
  obtain ⟨c0, c1, c2⟩ := c d hd
  refine ⟨fun q => ?_, fun q => ?_, fun q => ?_⟩
  · rw [e2, e1 _ _ _ (Or.inl rfl)]; exact c0 q
  · rw [e2, e1 _ _ _ (Or.inl rfl)]; exact ⟨SHP_e e3 (c1 q).1, (c1 q).2⟩
  · rw [e2, e1 _ _ _ (Or.inl rfl), e1 _ _ _ (Or.inl rfl), e1 _ _ _ (Or.inl rfl)]
    exact ⟨(c2 q).1, (c2 q).2.1, (c2 q).2.2.1, (c2 q).2.2.2.1, fun i hi => by rw [e1 _ _ _ (Or.inr rfl)]; exact (c2 q).2.2.2.2 i hi⟩
theorem CSh_V {v : Nat} {h h' : AH} {S : Sm} (q : onlyV v h h') (c : CSh h S) : CSh h' S := CSh_e (fun t u i z => q.2.1 t u i (by omega)) (fun u i => q.2.2 12 u i (by omega)) (fun a i => q.2.1 18 a i (by omega)) c
theorem CSh_K {h h' : AH} {S : Sm} (q : keepC h h') (c : CSh h S) : CSh h' S := CSh_e (fun t u i z => q.2.1 t u i (by omega)) (fun u i => q.2.2 12 u i (by omega)) (fun a i => q.2.1 18 a i (by omega)) c
/-- what is read of a shelf that holds a row -/
def rowP (h : AH) (S : Sm) (d : Nat) : Prop := CSh h S ∧ WS S ∧ d < 8 ∧ S.1 0 d = 2
theorem rowPs {h : AH} {S : Sm} {d : Nat} (p : rowP h S d) : h.2.1 12 d 0 = none ∧ h.1 12 d 1 = nI 1 ∧ h.1 12 d 2 = nI (S.1 3 d) ∧ h.1 12 d 3 = nI (S.1 4 d) ∧ (∀ i, i < 100 → h.1 13 d i = S.2 d i) ∧ S.1 3 d ≤ 2 ∧ S.1 4 d ≤ 100 := by
  obtain ⟨p1, p2, p3, p4⟩ := p
  obtain ⟨a, b, c, e, f⟩ := (p1 d p3).2.2 p4
  exact ⟨a, b, c, e, f, ((p2 d p3).2.2 p4).1, ((p2 d p3).2.2 p4).2⟩
def S_X5_isEmpty (d : Nat) (h : AH) (K : Int32 → AH → Prop) : Prop := ∃ S, CSh h S ∧ WS S ∧ d < 8 ∧ K (if S.1 0 d = 0 then nI 1 else nI 0) h
def T_X5_isEmpty : List AV → AH → (Int32 → AH → Prop) → Prop := fun as h K => match as with
  | [.inr (.inr (.inl q0))] => tif (Nat.beq q0.1 12) (S_X5_isEmpty q0.2 h K)
  | _ => False

def M_X5_isEmpty : MI := (RX5, cX5_isEmpty, 1, [(0, .aload_n 0, []), (1, .getfield 15, []), (4, .ifnonnull 14, [18]), (7, .aload_n 0, []), (8, .getfield 19, []), (11, .ifCond .ne 7, [18]), (14, .iconst 1, []), (15, .goto 4, [19]), (18, .iconst 0, []), (19, .ireturn, [])], [(15, (12, 0, 2, 0, 0)), (19, (12, 1, 3, 0, 0))], [], [], [], 0, 0, 0, 0)
theorem ok_X5_isEmpty : MOK M_X5_isEmpty := ⟨by decide +kernel, List.forall_mem_cons.mpr ⟨fl_RX5_15, List.forall_mem_cons.mpr ⟨fl_RX5_19, fun _ h => absurd h List.not_mem_nil⟩⟩, fun _ h => absurd h List.not_mem_nil, fun _ h => absurd h List.not_mem_nil, fun _ h => absurd h List.not_mem_nil⟩
set_option maxRecDepth 100000 in
theorem vc_X5_isEmpty {K : Int32 → AH → Prop} {h : AH} (p0 : Nat) (H : (((h.2.1 12 p0 0 : Option Nat) = none) → ((¬ (h.1 12 p0 1) = 0) → (((nI 0) = 0 ∨ (nI 0) = 1) ∧ K (nI 0) h)) ∧ (¬ (¬ (h.1 12 p0 1) = 0) → (((nI 1) = 0 ∨ (nI 1) = 1) ∧ K (nI 1) h))) ∧ (¬ ((h.2.1 12 p0 0 : Option Nat) = none) → (((nI 0) = 0 ∨ (nI 0) = 1) ∧ K (nI 0) h))) : AW M_X5_isEmpty (.inl (fun x u => (x = 0 ∨ x = 1) ∧ K x u)) 0 [some (aR 12 p0)] [] h 0 0 := AW_go (cuts := []) ok_X5_isEmpty 400 H

theorem snd_X5_isEmpty (d : Nat) {h : AH} {K : Int32 → AH → Prop} (k : S_X5_isEmpty d h K) : AW M_X5_isEmpty (.inl (fun x u => (x = 0 ∨ x = 1) ∧ K x u)) 0 [some (aR 12 d)] [] h 0 0 := by
  obtain ⟨S, c, w, hd, k⟩ := k
  obtain ⟨c0, c1, c2⟩ := c d hd
  have w0 := (w d hd).1
  refine vc_X5_isEmpty d ?_
  have hk : S.1 0 d = 0 ∨ S.1 0 d = 1 ∨ S.1 0 d = 2 := by omega
  rcases hk with e | e | e
  · rw [(c0 e).1, (c0 e).2]
    rw [if_pos e] at k
    exact ⟨fun _ => ⟨fun z => absurd (show nI 0 = 0 by decide) z, fun _ => ⟨Or.inr (by decide), k⟩⟩, fun z => absurd rfl z⟩
  · obtain ⟨a, ea, -⟩ := (c1 e).1
    rw [ea]
    rw [if_neg (by omega)] at k
    exact ⟨fun z => (by cases z), fun _ => ⟨Or.inl (by decide), k⟩⟩
  · rw [(c2 e).1, (c2 e).2.1]
    rw [if_neg (by omega)] at k
    exact ⟨fun _ => ⟨fun _ => ⟨Or.inl (by decide), k⟩, fun z => absurd (show ¬ nI 1 = 0 by decide) z⟩, fun z => absurd rfl z⟩
theorem tr_X5_isEmpty : ∀ (as : List AV) (h : AH) (K : Int32 → AH → Prop), T_X5_isEmpty as h K → ∃ (q : Nat) (r : List AV), as = aR 12 q :: r := by
  intro as h K hk
  match as, hk with
  | [.inr (.inr (.inl q0))], hk =>
    obtain ⟨hb, hk⟩ := tif_inv hk
    have e0 := hb
    obtain ⟨a0, b0⟩ := q0
    have f0 : a0 = 12 := Nat.eq_of_beq_eq_true e0
    subst f0
    exact ⟨_, _, rfl⟩
theorem tw_X5_isEmpty : ∀ (as : List AV) (h : AH) (K : Int32 → AH → Prop), T_X5_isEmpty as h K → (ini as).length ≤ mNL M_X5_isEmpty ∧ AW M_X5_isEmpty (.inl (fun x u => (x = 0 ∨ x = 1) ∧ K x u)) 0 (initL (mNL M_X5_isEmpty) as) [] h 0 0 := by
  intro as h K hk
  match as, hk with
  | [.inr (.inr (.inl q0))], hk =>
    obtain ⟨hb, hk⟩ := tif_inv hk
    have e0 := hb
    obtain ⟨a0, b0⟩ := q0
    have f0 : a0 = 12 := Nat.eq_of_beq_eq_true e0
    subst f0
    exact ⟨Nat.le_of_ble_eq_true rfl, snd_X5_isEmpty b0 hk⟩
theorem cr_RX10_792 : CR RX10 (kIns 792) (1, 1, 20, 0, 0, .inl T_X5_isEmpty) := crV_z (t := 12) (M := M_X5_isEmpty) (by decide) rfl (by decide) rfl (inG (i := 194) (w := Cond.methodLink RX10 264 yX5_isEmpty) (by decide +kernel) rfl) (inG (i := 195) (w := Cond.instanceMethod yX5_isEmpty) (by decide +kernel) rfl) (inG (i := 39) (w := Cond.initialized RX5) (by decide +kernel) rfl) (inG (i := 196) (w := Cond.selects RX5 yX5_isEmpty yX5_isEmpty) (by decide +kernel) rfl) (inG (i := 197) (w := Cond.code yX5_isEmpty cX5_isEmpty 1 (some .boolean)) (by decide +kernel) rfl) ⟨by decide +kernel, by decide +kernel, by decide +kernel⟩ tr_X5_isEmpty tw_X5_isEmpty

def S_X5_holdSheep (d : Nat) (o : Option Nat) (h : AH) (K : AH → Prop) : Prop := K (wI (wI (wR h 12 d 0 o) 12 d 1 (nI 0)) 12 d 3 (nI 0))
def T_X5_holdSheep : List AV → AH → (AH → Prop) → Prop := fun as h K => match as with
  | [.inr (.inr (.inl q0)), .inr (.inr (.inr q1))] => tif (Nat.beq q0.1 12) (S_X5_holdSheep q0.2 q1 h K)
  | _ => False

def M_X5_holdSheep : MI := (RX5, cX5_holdSheep, 2, [(0, .aload_n 0, []), (1, .aload_n 1, []), (2, .putfield 15, []), (5, .aload_n 0, []), (6, .iconst 0, []), (7, .putfield 19, []), (10, .aload_n 0, []), (11, .iconst 0, []), (12, .putfield 23, []), (15, .return_, [])], [(15, (12, 0, 2, 0, 0)), (19, (12, 1, 3, 0, 0)), (23, (12, 3, 0, 0, 0))], [], [], [], 0, 0, 0, 0)
theorem ok_X5_holdSheep : MOK M_X5_holdSheep := ⟨by decide +kernel, List.forall_mem_cons.mpr ⟨fl_RX5_15, List.forall_mem_cons.mpr ⟨fl_RX5_19, List.forall_mem_cons.mpr ⟨fl_RX5_23, fun _ h => absurd h List.not_mem_nil⟩⟩⟩, fun _ h => absurd h List.not_mem_nil, fun _ h => absurd h List.not_mem_nil, fun _ h => absurd h List.not_mem_nil⟩
set_option maxRecDepth 100000 in
theorem vc_X5_holdSheep {K : AH → Prop} {h : AH} (p0 : Nat) (p1 : Option Nat) (H : ((nI 0) = 0 ∨ (nI 0) = 1) ∧ K (wI (wI (wR h 12 p0 0 p1) 12 p0 1 (nI 0)) 12 p0 3 (nI 0))) : AW M_X5_holdSheep (.inr (.inl K)) 0 [some (aR 12 p0), some (aS p1)] [] h 0 0 := AW_go (cuts := []) ok_X5_holdSheep 400 H

theorem snd_X5_holdSheep (d : Nat) (o : Option Nat) {h : AH} {K : AH → Prop} (k : S_X5_holdSheep d o h K) : AW M_X5_holdSheep (.inr (.inl K)) 0 [some (aR 12 d), some (aS o)] [] h 0 0 := vc_X5_holdSheep d o ⟨Or.inl (by decide), k⟩
theorem tr_X5_holdSheep : ∀ (as : List AV) (h : AH) (K : AH → Prop), T_X5_holdSheep as h K → ∃ (q : Nat) (r : List AV), as = aR 12 q :: r := by
  intro as h K hk
  match as, hk with
  | [.inr (.inr (.inl q0)), .inr (.inr (.inr q1))], hk =>
    obtain ⟨hb, hk⟩ := tif_inv hk
    have e0 := hb
    obtain ⟨a0, b0⟩ := q0
    have f0 : a0 = 12 := Nat.eq_of_beq_eq_true e0
    subst f0
    exact ⟨_, _, rfl⟩
theorem tw_X5_holdSheep : ∀ (as : List AV) (h : AH) (K : AH → Prop), T_X5_holdSheep as h K → (ini as).length ≤ mNL M_X5_holdSheep ∧ AW M_X5_holdSheep (.inr (.inl K)) 0 (initL (mNL M_X5_holdSheep) as) [] h 0 0 := by
  intro as h K hk
  match as, hk with
  | [.inr (.inr (.inl q0)), .inr (.inr (.inr q1))], hk =>
    obtain ⟨hb, hk⟩ := tif_inv hk
    have e0 := hb
    obtain ⟨a0, b0⟩ := q0
    have f0 : a0 = 12 := Nat.eq_of_beq_eq_true e0
    subst f0
    exact ⟨Nat.le_of_ble_eq_true rfl, snd_X5_holdSheep b0 q1 hk⟩
theorem cr_RX10_714 : CR RX10 (kIns 714) (2, 1, 21, 0, 0, .inr (.inl T_X5_holdSheep)) := crV_v (t := 12) (M := M_X5_holdSheep) (by decide) rfl (by decide) rfl (inG (i := 743) (w := Cond.methodLink RX10 238 yX5_holdSheep) (by decide +kernel) rfl) (inG (i := 744) (w := Cond.instanceMethod yX5_holdSheep) (by decide +kernel) rfl) (inG (i := 39) (w := Cond.initialized RX5) (by decide +kernel) rfl) (inG (i := 745) (w := Cond.selects RX5 yX5_holdSheep yX5_holdSheep) (by decide +kernel) rfl) (inG (i := 746) (w := Cond.code yX5_holdSheep cX5_holdSheep 2 (none)) (by decide +kernel) rfl) ⟨by decide +kernel, by decide +kernel, by decide +kernel⟩ tr_X5_holdSheep tw_X5_holdSheep

def S_X5_holdRow (d : Nat) (s n : Int32) (h : AH) (K : AH → Prop) : Prop := ∀ h', h'.2 = (wR h 12 d 0 none).2 → (∀ a b i, ¬ (a = 12 ∧ b = d) → ¬ (a = 13 ∧ b = d) → h'.1 a b i = h.1 a b i) → h'.1 12 d 1 = nI 1 → h'.1 12 d 2 = s → h'.1 12 d 3 = n → (∀ i, i < 100 → h'.1 13 d i = nI 0) → K h'
def T_X5_holdRow : List AV → AH → (AH → Prop) → Prop := fun as h K => match as with
  | [.inr (.inr (.inl q0)), .inl q1, .inl q2] => tif (Nat.beq q0.1 12) (S_X5_holdRow q0.2 q1 q2 h K)
  | _ => False

def M_X5_holdRow : MI := (RX5, cX5_holdRow, 4, [(0, .aload_n 0, []), (1, .aconst_null, []), (2, .putfield 15, []), (5, .aload_n 0, []), (6, .iconst 1, []), (7, .putfield 19, []), (10, .aload_n 0, []), (11, .iload_n 1, []), (12, .putfield 27, []), (15, .aload_n 0, []), (16, .iload_n 2, []), (17, .putfield 23, []), (20, .iconst 0, []), (21, .istore_n 3, []), (22, .iload_n 3, []), (23, .bipush 100, []), (25, .if_icmp .ge 16, [41]), (28, .aload_n 0, []), (29, .getfield 9, []), (32, .iload_n 3, []), (33, .iconst 0, []), (34, .iastore, []), (35, .iinc 3 1, []), (38, .goto (-16), [22]), (41, .return_, [])], [(15, (12, 0, 2, 0, 0)), (19, (12, 1, 3, 0, 0)), (27, (12, 2, 0, 0, 0)), (23, (12, 3, 0, 0, 0)), (9, (12, 4, 1, 13, 0))], [], [], [], 0, 0, 0, 0)
theorem ok_X5_holdRow : MOK M_X5_holdRow := ⟨by decide +kernel, List.forall_mem_cons.mpr ⟨fl_RX5_15, List.forall_mem_cons.mpr ⟨fl_RX5_19, List.forall_mem_cons.mpr ⟨fl_RX5_27, List.forall_mem_cons.mpr ⟨fl_RX5_23, List.forall_mem_cons.mpr ⟨fl_RX5_9, fun _ h => absurd h List.not_mem_nil⟩⟩⟩⟩⟩, fun _ h => absurd h List.not_mem_nil, fun _ h => absurd h List.not_mem_nil, fun _ h => absurd h List.not_mem_nil⟩
set_option maxRecDepth 100000 in
theorem vc_X5_holdRow {K : AH → Prop} {h : AH} (p0 : Nat) (p1 : Int32) (p2 : Int32) (H : ((nI 1) = 0 ∨ (nI 1) = 1) ∧ AW M_X5_holdRow (.inr (.inl K)) 22 [some (aR 12 p0), none, none, some (aI (nI 0))] [] (wI (wI (wI (wR h 12 p0 0 none) 12 p0 1 (nI 1)) 12 p0 2 p1) 12 p0 3 p2) 0 0) : AW M_X5_holdRow (.inr (.inl K)) 0 [some (aR 12 p0), some (aI p1), some (aI p2), none] [] h 0 0 := AW_go (cuts := [(22, [true, false, false, true])]) ok_X5_holdRow 400 H
set_option maxRecDepth 100000 in
theorem vc_X5_holdRow_22 {K : AH → Prop} {h : AH}  (l0 : Nat) (l3 : Int32) (H : (((nI 100) ≤ l3) → K h) ∧ (¬ ((nI 100) ≤ l3) → inR l3 100 ∧ AW M_X5_holdRow (.inr (.inl K)) 22 [some (aR 12 l0), none, none, some (aI (l3 + (nI 1)))] [] (wI h 13 l0 l3.toNatClampNeg (nI 0)) 0 0)) : AW M_X5_holdRow (.inr (.inl K)) 22 [some (aR 12 l0), none, none, some (aI l3)] [] h 0 0 := AW_go (cuts := [(22, [true, false, false, true])]) ok_X5_holdRow 400 H

theorem lp_X5_holdRow {d : Nat} {h0 : AH} {K : AH → Prop} (k : ∀ h', h'.2 = h0.2 → (∀ a b i, ¬ (a = 13 ∧ b = d) → h'.1 a b i = h0.1 a b i) → (∀ i, i < 100 → h'.1 13 d i = nI 0) → K h') : ∀ r e h, e + r = 100 → h.2 = h0.2 → (∀ a b i, ¬ (a = 13 ∧ b = d) → h.1 a b i = h0.1 a b i) → (∀ i, i < e → h.1 13 d i = nI 0) → AW M_X5_holdRow (.inr (.inl K)) 22 [some (aR 12 d), none, none, some (aI (nI e))] [] h 0 0 := by
  intro r
  induction r with
  | zero =>
    intro e h he h1 h2 h3
    have : e = 100 := by omega
    subst this
    exact vc_X5_holdRow_22 d (nI 100) ⟨fun _ => k h h1 h2 h3, fun q => absurd (Int32.le_refl _) q⟩
  | succ r ih =>
    intro e h he h1 h2 h3
    refine vc_X5_holdRow_22 d (nI e) ?_
    simp (disch := omega) only [n_le, n_inT, n_cl, true_and, nI_add]
    refine ⟨fun q => by omega, fun _ => ih (e + 1) _ (by omega) h1 (fun a b i q => ?_) (fun i hi => ?_)⟩
    · rw [wI_get, if_neg (fun z => q ⟨z.1, z.2.1⟩)]; exact h2 a b i q
    · by_cases z : i = e
      · subst z; exact wI_at ..
      · rw [wI_ni z]; exact h3 i (by omega)
theorem snd_X5_holdRow (d : Nat) (s n : Int32) {h : AH} {K : AH → Prop} (k : S_X5_holdRow d s n h K) : AW M_X5_holdRow (.inr (.inl K)) 0 [some (aR 12 d), some (aI s), some (aI n), none] [] h 0 0 := by
  refine vc_X5_holdRow d s n ⟨Or.inr (by decide), ?_⟩
  refine lp_X5_holdRow (h0 := wI (wI (wI (wR h 12 d 0 none) 12 d 1 (nI 1)) 12 d 2 s) 12 d 3 n) (fun h' e1 e2 e3 => k h' e1 (fun a b i q1 q2 => ?_) ?_ ?_ ?_ e3) 100 0 _ (by omega) rfl (fun _ _ _ _ => rfl) (fun i hi => absurd hi (Nat.not_lt_zero i))
  · rw [e2 a b i q2, wI_get, if_neg (fun z => q1 ⟨z.1, z.2.1⟩), wI_get, if_neg (fun z => q1 ⟨z.1, z.2.1⟩), wI_get, if_neg (fun z => q1 ⟨z.1, z.2.1⟩)]
  · rw [e2 12 d 1 (by omega), wI_ni (by omega), wI_ni (by omega), wI_at]
  · rw [e2 12 d 2 (by omega), wI_ni (by omega), wI_at]
  · rw [e2 12 d 3 (by omega), wI_at]
theorem tr_X5_holdRow : ∀ (as : List AV) (h : AH) (K : AH → Prop), T_X5_holdRow as h K → ∃ (q : Nat) (r : List AV), as = aR 12 q :: r := by
  intro as h K hk
  match as, hk with
  | [.inr (.inr (.inl q0)), .inl q1, .inl q2], hk =>
    obtain ⟨hb, hk⟩ := tif_inv hk
    have e0 := hb
    obtain ⟨a0, b0⟩ := q0
    have f0 : a0 = 12 := Nat.eq_of_beq_eq_true e0
    subst f0
    exact ⟨_, _, rfl⟩
theorem tw_X5_holdRow : ∀ (as : List AV) (h : AH) (K : AH → Prop), T_X5_holdRow as h K → (ini as).length ≤ mNL M_X5_holdRow ∧ AW M_X5_holdRow (.inr (.inl K)) 0 (initL (mNL M_X5_holdRow) as) [] h 0 0 := by
  intro as h K hk
  match as, hk with
  | [.inr (.inr (.inl q0)), .inl q1, .inl q2], hk =>
    obtain ⟨hb, hk⟩ := tif_inv hk
    have e0 := hb
    obtain ⟨a0, b0⟩ := q0
    have f0 : a0 = 12 := Nat.eq_of_beq_eq_true e0
    subst f0
    exact ⟨Nat.le_of_ble_eq_true rfl, snd_X5_holdRow b0 q1 q2 hk⟩
theorem cr_RX10_726 : CR RX10 (kIns 726) (3, 1, 23, 0, 0, .inr (.inl T_X5_holdRow)) := crV_v (t := 12) (M := M_X5_holdRow) (by decide) rfl (by decide) rfl (inG (i := 751) (w := Cond.methodLink RX10 242 yX5_holdRow) (by decide +kernel) rfl) (inG (i := 752) (w := Cond.instanceMethod yX5_holdRow) (by decide +kernel) rfl) (inG (i := 39) (w := Cond.initialized RX5) (by decide +kernel) rfl) (inG (i := 753) (w := Cond.selects RX5 yX5_holdRow yX5_holdRow) (by decide +kernel) rfl) (inG (i := 754) (w := Cond.code yX5_holdRow cX5_holdRow 4 (none)) (by decide +kernel) rfl) ⟨by decide +kernel, by decide +kernel, by decide +kernel⟩ tr_X5_holdRow tw_X5_holdRow

def S_X5_cutToSort (d : Nat) (v : Int32) (h : AH) (K : Int32 → AH → Prop) : Prop := ∃ S, rowP h S d ∧ K (cutS (S.1 3 d) v) h
def T_X5_cutToSort : List AV → AH → (Int32 → AH → Prop) → Prop := fun as h K => match as with
  | [.inr (.inr (.inl q0)), .inl q1] => tif (Nat.beq q0.1 12) (S_X5_cutToSort q0.2 q1 h K)
  | _ => False

def M_X5_cutToSort : MI := (RX5, cX5_cutToSort, 2, [(0, .aload_n 0, []), (1, .getfield 27, []), (4, .ifCond .ne 6, [10]), (7, .iload_n 1, []), (8, .i2b, []), (9, .ireturn, []), (10, .aload_n 0, []), (11, .getfield 27, []), (14, .iconst 1, []), (15, .if_icmp .ne 8, [23]), (18, .iload_n 1, []), (19, .i2s, []), (20, .goto 4, [24]), (23, .iload_n 1, []), (24, .ireturn, [])], [(27, (12, 2, 0, 0, 0))], [], [], [], 0, 0, 0, 0)
theorem ok_X5_cutToSort : MOK M_X5_cutToSort := ⟨by decide +kernel, List.forall_mem_cons.mpr ⟨fl_RX5_27, fun _ h => absurd h List.not_mem_nil⟩, fun _ h => absurd h List.not_mem_nil, fun _ h => absurd h List.not_mem_nil, fun _ h => absurd h List.not_mem_nil⟩
set_option maxRecDepth 100000 in
theorem vc_X5_cutToSort {K : Int32 → AH → Prop} {h : AH} (p0 : Nat) (p1 : Int32) (H : ((¬ (h.1 12 p0 2) = 0) → ((¬ (h.1 12 p0 2) = (nI 1)) → K p1 h) ∧ (¬ (¬ (h.1 12 p0 2) = (nI 1)) → K p1.toInt16.toInt32 h)) ∧ (¬ (¬ (h.1 12 p0 2) = 0) → K p1.toInt8.toInt32 h)) : AW M_X5_cutToSort (.inl K) 0 [some (aR 12 p0), some (aI p1)] [] h 0 0 := AW_go (cuts := []) ok_X5_cutToSort 400 H

theorem snd_X5_cutToSort (d : Nat) (v : Int32) {h : AH} {K : Int32 → AH → Prop} (k : S_X5_cutToSort d v h K) : AW M_X5_cutToSort (.inl K) 0 [some (aR 12 d), some (aI v)] [] h 0 0 := by
  obtain ⟨S, p, k⟩ := k
  obtain ⟨-, -, e2, -, -, l1, -⟩ := rowPs p
  refine vc_X5_cutToSort d v ?_
  unfold cutS at k
  rw [e2, n_eq0 (by omega), n_eq (by omega) (by omega)]
  refine ⟨fun q => ⟨fun q2 => ?_, fun q2 => ?_⟩, fun q => ?_⟩
  · rw [if_neg q, if_neg q2] at k; exact k
  · rw [if_neg q, if_pos (Decidable.not_not.mp q2)] at k; exact k
  · rw [if_pos (Decidable.not_not.mp q)] at k; exact k
theorem tr_X5_cutToSort : ∀ (as : List AV) (h : AH) (K : Int32 → AH → Prop), T_X5_cutToSort as h K → ∃ (q : Nat) (r : List AV), as = aR 12 q :: r := by
  intro as h K hk
  match as, hk with
  | [.inr (.inr (.inl q0)), .inl q1], hk =>
    obtain ⟨hb, hk⟩ := tif_inv hk
    have e0 := hb
    obtain ⟨a0, b0⟩ := q0
    have f0 : a0 = 12 := Nat.eq_of_beq_eq_true e0
    subst f0
    exact ⟨_, _, rfl⟩
theorem tw_X5_cutToSort : ∀ (as : List AV) (h : AH) (K : Int32 → AH → Prop), T_X5_cutToSort as h K → (ini as).length ≤ mNL M_X5_cutToSort ∧ AW M_X5_cutToSort (.inl K) 0 (initL (mNL M_X5_cutToSort) as) [] h 0 0 := by
  intro as h K hk
  match as, hk with
  | [.inr (.inr (.inl q0)), .inl q1], hk =>
    obtain ⟨hb, hk⟩ := tif_inv hk
    have e0 := hb
    obtain ⟨a0, b0⟩ := q0
    have f0 : a0 = 12 := Nat.eq_of_beq_eq_true e0
    subst f0
    exact ⟨Nat.le_of_ble_eq_true rfl, snd_X5_cutToSort b0 q1 hk⟩
theorem cr_RX10_738 : CR RX10 (kIns 738) (2, 1, 21, 0, 0, .inl T_X5_cutToSort) := crV_i (t := 12) (M := M_X5_cutToSort) (by decide) rfl (by decide) rfl (inG (i := 759) (w := Cond.methodLink RX10 246 yX5_cutToSort) (by decide +kernel) rfl) (inG (i := 760) (w := Cond.instanceMethod yX5_cutToSort) (by decide +kernel) rfl) (inG (i := 39) (w := Cond.initialized RX5) (by decide +kernel) rfl) (inG (i := 761) (w := Cond.selects RX5 yX5_cutToSort yX5_cutToSort) (by decide +kernel) rfl) (inG (i := 762) (w := Cond.code yX5_cutToSort cX5_cutToSort 2 (some .int)) (by decide +kernel) rfl) ⟨by decide +kernel, by decide +kernel, by decide +kernel⟩ tr_X5_cutToSort tw_X5_cutToSort

def S_X5_leastNumber (d : Nat) (h : AH) (K : Int32 → AH → Prop) : Prop := ∃ S, rowP h S d ∧ K (lstO (S.1 3 d)) h
def T_X5_leastNumber : List AV → AH → (Int32 → AH → Prop) → Prop := fun as h K => match as with
  | [.inr (.inr (.inl q0))] => tif (Nat.beq q0.1 12) (S_X5_leastNumber q0.2 h K)
  | _ => False

def M_X5_leastNumber : MI := (RX5, cX5_leastNumber, 1, [(0, .aload_n 0, []), (1, .getfield 27, []), (4, .ifCond .ne 6, [10]), (7, .bipush (-128), []), (9, .ireturn, []), (10, .aload_n 0, []), (11, .getfield 27, []), (14, .iconst 1, []), (15, .if_icmp .ne 9, [24]), (18, .sipush (-32768), []), (21, .goto 5, [26]), (24, .ldc 30, []), (26, .ireturn, [])], [(27, (12, 2, 0, 0, 0))], [(30, (-2147483648))], [], [], 0, 0, 0, 0)
theorem ok_X5_leastNumber : MOK M_X5_leastNumber := ⟨by decide +kernel, List.forall_mem_cons.mpr ⟨fl_RX5_27, fun _ h => absurd h List.not_mem_nil⟩, List.forall_mem_cons.mpr ⟨(inG (i := 712) (w := Cond.constant RX5 30 (-2147483648)) (by decide +kernel) rfl), fun _ h => absurd h List.not_mem_nil⟩, fun _ h => absurd h List.not_mem_nil, fun _ h => absurd h List.not_mem_nil⟩
set_option maxRecDepth 100000 in
theorem vc_X5_leastNumber {K : Int32 → AH → Prop} {h : AH} (p0 : Nat) (H : ((¬ (h.1 12 p0 2) = 0) → ((¬ (h.1 12 p0 2) = (nI 1)) → K (-2147483648 : Int32) h) ∧ (¬ (¬ (h.1 12 p0 2) = (nI 1)) → K (iI (-32768)) h)) ∧ (¬ (¬ (h.1 12 p0 2) = 0) → K (iI (-128)) h)) : AW M_X5_leastNumber (.inl K) 0 [some (aR 12 p0)] [] h 0 0 := AW_go (cuts := []) ok_X5_leastNumber 400 H

theorem snd_X5_leastNumber (d : Nat) {h : AH} {K : Int32 → AH → Prop} (k : S_X5_leastNumber d h K) : AW M_X5_leastNumber (.inl K) 0 [some (aR 12 d)] [] h 0 0 := by
  obtain ⟨S, p, k⟩ := k
  obtain ⟨-, -, e2, -, -, l1, -⟩ := rowPs p
  refine vc_X5_leastNumber d ?_
  unfold lstO at k
  rw [e2, n_eq0 (by omega), n_eq (by omega) (by omega)]
  refine ⟨fun q => ⟨fun q2 => ?_, fun q2 => ?_⟩, fun q => ?_⟩
  · rw [if_neg q, if_neg q2] at k; exact k
  · rw [if_neg q, if_pos (Decidable.not_not.mp q2)] at k; exact k
  · rw [if_pos (Decidable.not_not.mp q)] at k; exact k
theorem tr_X5_leastNumber : ∀ (as : List AV) (h : AH) (K : Int32 → AH → Prop), T_X5_leastNumber as h K → ∃ (q : Nat) (r : List AV), as = aR 12 q :: r := by
  intro as h K hk
  match as, hk with
  | [.inr (.inr (.inl q0))], hk =>
    obtain ⟨hb, hk⟩ := tif_inv hk
    have e0 := hb
    obtain ⟨a0, b0⟩ := q0
    have f0 : a0 = 12 := Nat.eq_of_beq_eq_true e0
    subst f0
    exact ⟨_, _, rfl⟩
theorem tw_X5_leastNumber : ∀ (as : List AV) (h : AH) (K : Int32 → AH → Prop), T_X5_leastNumber as h K → (ini as).length ≤ mNL M_X5_leastNumber ∧ AW M_X5_leastNumber (.inl K) 0 (initL (mNL M_X5_leastNumber) as) [] h 0 0 := by
  intro as h K hk
  match as, hk with
  | [.inr (.inr (.inl q0))], hk =>
    obtain ⟨hb, hk⟩ := tif_inv hk
    have e0 := hb
    obtain ⟨a0, b0⟩ := q0
    have f0 : a0 = 12 := Nat.eq_of_beq_eq_true e0
    subst f0
    exact ⟨Nat.le_of_ble_eq_true rfl, snd_X5_leastNumber b0 hk⟩
theorem cr_RX10_651 : CR RX10 (kIns 651) (1, 1, 20, 0, 0, .inl T_X5_leastNumber) := crV_i (t := 12) (M := M_X5_leastNumber) (by decide) rfl (by decide) rfl (inG (i := 708) (w := Cond.methodLink RX10 217 yX5_leastNumber) (by decide +kernel) rfl) (inG (i := 709) (w := Cond.instanceMethod yX5_leastNumber) (by decide +kernel) rfl) (inG (i := 39) (w := Cond.initialized RX5) (by decide +kernel) rfl) (inG (i := 710) (w := Cond.selects RX5 yX5_leastNumber yX5_leastNumber) (by decide +kernel) rfl) (inG (i := 711) (w := Cond.code yX5_leastNumber cX5_leastNumber 1 (some .int)) (by decide +kernel) rfl) ⟨by decide +kernel, by decide +kernel, by decide +kernel⟩ tr_X5_leastNumber tw_X5_leastNumber

def rhd (S : Sm) (d : Int32) : Int32 := if ¬ cel d then iI (-1) else if S.1 0 (nN d) = 0 then iI (-11) else nI 0
def S_X10_refusedHeld (d : Int32) (h : AH) (K : Int32 → AH → Prop) : Prop := ∃ S, CSh h S ∧ WS S ∧ K (rhd S d) h
def T_X10_refusedHeld : List AV → AH → (Int32 → AH → Prop) → Prop := fun as h K => match as with
  | [.inr (.inr (.inl q0)), .inl q1] => tif (Nat.beq q0.1 0 && Nat.beq q0.2 0) (S_X10_refusedHeld q1 h K)
  | _ => False

def M_X10_refusedHeld : MI := (RX10, cX10_refusedHeld, 2, [(0, .iload_n 1, []), (1, .iconst 0, []), (2, .bipush 7, []), (4, .invokestatic 59, []), (7, .ifCond .ne 5, [12]), (10, .iconst (-1), []), (11, .ireturn, []), (12, .aload_n 0, []), (13, .getfield 24, []), (16, .iload_n 1, []), (17, .aaload, []), (18, .invokevirtual 264, []), (21, .ifCond .eq 8, [29]), (24, .bipush (-11), []), (26, .goto 4, [30]), (29, .iconst 0, []), (30, .ireturn, [])], [(24, (0, 4, 1, 11, 0))], [], [], [(178, (3, 1, 22, 0, 0, .inl T_X10_within)), (792, (1, 1, 20, 0, 0, .inl T_X5_isEmpty))], 1, 22, 0, 0)
theorem ok_X10_refusedHeld : MOK M_X10_refusedHeld := ⟨by decide +kernel, List.forall_mem_cons.mpr ⟨fl_RX10_24, fun _ h => absurd h List.not_mem_nil⟩, fun _ h => absurd h List.not_mem_nil, fun _ h => absurd h List.not_mem_nil, List.forall_mem_cons.mpr ⟨⟨Nat.le_of_ble_eq_true rfl, Nat.le_of_ble_eq_true rfl, cr_RX10_178⟩, List.forall_mem_cons.mpr ⟨⟨Nat.le_of_ble_eq_true rfl, Nat.le_of_ble_eq_true rfl, cr_RX10_792⟩, fun _ h => absurd h List.not_mem_nil⟩⟩⟩
set_option maxRecDepth 100000 in
theorem vc_X10_refusedHeld {K : Int32 → AH → Prop} {h : AH} (p1 : Int32) (H : S_X10_within p1 (nI 0) (nI 7) h (fun x2 h1 => ((¬ x2 = 0) → inR p1 8 ∧ S_X5_isEmpty p1.toNatClampNeg h1 (fun x4 h3 => ((x4 = 0) → K (nI 0) h3) ∧ (¬ (x4 = 0) → K (iI (-11)) h3))) ∧ (¬ (¬ x2 = 0) → K (iI (-1)) h1))) : AW M_X10_refusedHeld (.inl K) 0 [some (aR 0 0), some (aI p1)] [] h 0 0 := AW_go (cuts := []) ok_X10_refusedHeld 400 H

theorem snd_X10_refusedHeld (d : Int32) {h : AH} {K : Int32 → AH → Prop} (k : S_X10_refusedHeld d h K) : AW M_X10_refusedHeld (.inl K) 0 [some (aR 0 0), some (aI d)] [] h 0 0 := by
  obtain ⟨S, c, w, k⟩ := k
  unfold rhd at k
  refine vc_X10_refusedHeld d (w_ni (fun q => ?_) (fun q => ?_))
  · rw [if_neg (fun z => z q)] at k
    obtain ⟨m, hm, rfl⟩ := in8_iff.mp q
    unfold nN at k
    rw [n_cl (show m < 2147483648 by omega)] at k
    refine ⟨n_in hm (by omega), ?_⟩
    rw [n_cl (show m < 2147483648 by omega)]
    refine ⟨S, c, w, hm, w_if (fun z => ?_) (fun z => ?_)⟩
    · rw [if_pos z] at k; exact k
    · rw [if_neg z] at k; exact k
  · rw [if_pos q] at k; exact k
theorem tr_X10_refusedHeld : ∀ (as : List AV) (h : AH) (K : Int32 → AH → Prop), T_X10_refusedHeld as h K → ∃ (q : Nat) (r : List AV), as = aR 0 q :: r := by
  intro as h K hk
  match as, hk with
  | [.inr (.inr (.inl q0)), .inl q1], hk =>
    obtain ⟨hb, hk⟩ := tif_inv hk
    simp only [Bool.and_eq_true] at hb
    obtain ⟨e0, e1⟩ := hb
    obtain ⟨a0, b0⟩ := q0
    have f0 : a0 = 0 := Nat.eq_of_beq_eq_true e0
    subst f0
    have f1 : b0 = 0 := Nat.eq_of_beq_eq_true e1
    subst f1
    exact ⟨_, _, rfl⟩
theorem tw_X10_refusedHeld : ∀ (as : List AV) (h : AH) (K : Int32 → AH → Prop), T_X10_refusedHeld as h K → (ini as).length ≤ mNL M_X10_refusedHeld ∧ AW M_X10_refusedHeld (.inl K) 0 (initL (mNL M_X10_refusedHeld) as) [] h 0 0 := by
  intro as h K hk
  match as, hk with
  | [.inr (.inr (.inl q0)), .inl q1], hk =>
    obtain ⟨hb, hk⟩ := tif_inv hk
    simp only [Bool.and_eq_true] at hb
    obtain ⟨e0, e1⟩ := hb
    obtain ⟨a0, b0⟩ := q0
    have f0 : a0 = 0 := Nat.eq_of_beq_eq_true e0
    subst f0
    have f1 : b0 = 0 := Nat.eq_of_beq_eq_true e1
    subst f1
    exact ⟨Nat.le_of_ble_eq_true rfl, snd_X10_refusedHeld q1 hk⟩
theorem cr_RX10_846 : CR RX10 (kIns 846) (2, 2, 43, 0, 0, .inl T_X10_refusedHeld) := crV_i (t := 0) (M := M_X10_refusedHeld) (by decide) rfl (by decide) rfl (inG (i := 187) (w := Cond.methodLink RX10 282 yX10_refusedHeld) (by decide +kernel) rfl) (inG (i := 189) (w := Cond.instanceMethod yX10_refusedHeld) (by decide +kernel) rfl) (inG (i := 37) (w := Cond.initialized RX10) (by decide +kernel) rfl) (inG (i := 2) (w := Cond.selects RX10 yX10_refusedHeld yX10_refusedHeld) (by decide +kernel) rfl) (inG (i := 190) (w := Cond.code yX10_refusedHeld cX10_refusedHeld 2 (some .int)) (by decide +kernel) rfl) ⟨by decide +kernel, by decide +kernel, by decide +kernel⟩ tr_X10_refusedHeld tw_X10_refusedHeld

theorem rhd_cases {S : Sm} (w : WS S) (d : Int32) : (∃ m, m < 8 ∧ d = nI m ∧ ¬ S.1 0 m = 0 ∧ rhd S d = nI 0) ∨ (rhd S d ≠ nI 0 ∧ rwK S d = rhd S d ∧ rwR S d (iI (-1)) = rhd S d) := by
  unfold rhd rwK rwR
  by_cases h : cel d
  · have hc : (¬ cel d) = False := eq_false (fun z => z h)
    simp only [hc, ↓reduceIte]
    obtain ⟨m, hm, rfl⟩ := in8_iff.mp h
    unfold nN
    rw [n_cl (by omega)]
    by_cases h0 : S.1 0 m = 0
    · have hz : (S.1 0 m = 0) = True := eq_true h0
      simp only [hz, ↓reduceIte]
      exact Or.inr ⟨by decide, by trivial, by trivial⟩
    · rw [if_neg h0]; exact Or.inl ⟨m, hm, rfl, h0, rfl⟩
  · have hc : (¬ cel d) = True := eq_true h
    simp only [hc, ↓reduceIte]
    exact Or.inr ⟨by decide, by trivial, by trivial⟩
theorem nN_n {m : Nat} (h : m < 2147483648) : nN (nI m) = m := n_cl h
def S_X10_refusedSheep (d : Int32) (h : AH) (K : Int32 → AH → Prop) : Prop := ∃ S, CSh h S ∧ WS S ∧ K (rwK S d) h
def T_X10_refusedSheep : List AV → AH → (Int32 → AH → Prop) → Prop := fun as h K => match as with
  | [.inr (.inr (.inl q0)), .inl q1] => tif (Nat.beq q0.1 0 && Nat.beq q0.2 0) (S_X10_refusedSheep q1 h K)
  | _ => False

def M_X10_refusedSheep : MI := (RX10, cX10_refusedSheep, 3, [(0, .aload_n 0, []), (1, .iload_n 1, []), (2, .invokevirtual 282, []), (5, .istore_n 2, []), (6, .iload_n 2, []), (7, .ifCond .eq 5, [12]), (10, .iload_n 2, []), (11, .ireturn, []), (12, .aload_n 0, []), (13, .getfield 24, []), (16, .iload_n 1, []), (17, .aaload, []), (18, .getfield 117, []), (21, .ifnonnull 8, [29]), (24, .bipush (-12), []), (26, .goto 4, [30]), (29, .iconst 0, []), (30, .ireturn, [])], [(24, (0, 4, 1, 11, 0)), (117, (12, 0, 2, 0, 0))], [], [], [(846, (2, 2, 43, 0, 0, .inl T_X10_refusedHeld))], 2, 43, 0, 0)
theorem ok_X10_refusedSheep : MOK M_X10_refusedSheep := ⟨by decide +kernel, List.forall_mem_cons.mpr ⟨fl_RX10_24, List.forall_mem_cons.mpr ⟨fl_RX10_117, fun _ h => absurd h List.not_mem_nil⟩⟩, fun _ h => absurd h List.not_mem_nil, fun _ h => absurd h List.not_mem_nil, List.forall_mem_cons.mpr ⟨⟨Nat.le_of_ble_eq_true rfl, Nat.le_of_ble_eq_true rfl, cr_RX10_846⟩, fun _ h => absurd h List.not_mem_nil⟩⟩
set_option maxRecDepth 100000 in
theorem vc_X10_refusedSheep {K : Int32 → AH → Prop} {h : AH} (p1 : Int32) (H : S_X10_refusedHeld p1 h (fun x2 h1 => ((x2 = 0) → inR p1 8 ∧ (((h1.2.1 12 p1.toNatClampNeg 0 : Option Nat) = none) → K (iI (-12)) h1) ∧ (¬ ((h1.2.1 12 p1.toNatClampNeg 0 : Option Nat) = none) → K (nI 0) h1)) ∧ (¬ (x2 = 0) → K x2 h1))) : AW M_X10_refusedSheep (.inl K) 0 [some (aR 0 0), some (aI p1), none] [] h 0 0 := AW_go (cuts := []) ok_X10_refusedSheep 400 H

theorem snd_X10_refusedSheep (d : Int32) {h : AH} {K : Int32 → AH → Prop} (k : S_X10_refusedSheep d h K) : AW M_X10_refusedSheep (.inl K) 0 [some (aR 0 0), some (aI d), none] [] h 0 0 := by
  obtain ⟨S, c, w, k⟩ := k
  refine vc_X10_refusedSheep d ⟨S, c, w, ?_⟩
  rcases rhd_cases w d with ⟨m, hm, rfl, h0, e⟩ | ⟨e, e2, -⟩
  · rw [e]
    refine ⟨fun _ => ⟨n_in hm (by omega), ?_⟩, fun z => absurd (show nI 0 = 0 by decide) z⟩
    rw [n_cl (show m < 2147483648 by omega)]
    unfold rwK at k
    rw [if_neg (fun z => z (in8_iff.mpr ⟨m, hm, rfl⟩)), nN_n (by omega), if_neg h0] at k
    have w0 := (w m hm).1
    obtain ⟨c0, c1, c2⟩ := c m hm
    by_cases h1 : S.1 0 m = 1
    · obtain ⟨a, ea, -⟩ := (c1 h1).1
      rw [if_neg (by omega)] at k
      rw [ea]
      exact ⟨fun z => (by cases z), fun _ => k⟩
    · have h2 : S.1 0 m = 2 := by omega
      rw [if_pos h2] at k
      rw [(c2 h2).1]
      exact ⟨fun _ => k, fun z => absurd rfl z⟩
  · rw [e2] at k
    exact ⟨fun z => absurd z e, fun _ => k⟩
theorem tr_X10_refusedSheep : ∀ (as : List AV) (h : AH) (K : Int32 → AH → Prop), T_X10_refusedSheep as h K → ∃ (q : Nat) (r : List AV), as = aR 0 q :: r := by
  intro as h K hk
  match as, hk with
  | [.inr (.inr (.inl q0)), .inl q1], hk =>
    obtain ⟨hb, hk⟩ := tif_inv hk
    simp only [Bool.and_eq_true] at hb
    obtain ⟨e0, e1⟩ := hb
    obtain ⟨a0, b0⟩ := q0
    have f0 : a0 = 0 := Nat.eq_of_beq_eq_true e0
    subst f0
    have f1 : b0 = 0 := Nat.eq_of_beq_eq_true e1
    subst f1
    exact ⟨_, _, rfl⟩
theorem tw_X10_refusedSheep : ∀ (as : List AV) (h : AH) (K : Int32 → AH → Prop), T_X10_refusedSheep as h K → (ini as).length ≤ mNL M_X10_refusedSheep ∧ AW M_X10_refusedSheep (.inl K) 0 (initL (mNL M_X10_refusedSheep) as) [] h 0 0 := by
  intro as h K hk
  match as, hk with
  | [.inr (.inr (.inl q0)), .inl q1], hk =>
    obtain ⟨hb, hk⟩ := tif_inv hk
    simp only [Bool.and_eq_true] at hb
    obtain ⟨e0, e1⟩ := hb
    obtain ⟨a0, b0⟩ := q0
    have f0 : a0 = 0 := Nat.eq_of_beq_eq_true e0
    subst f0
    have f1 : b0 = 0 := Nat.eq_of_beq_eq_true e1
    subst f1
    exact ⟨Nat.le_of_ble_eq_true rfl, snd_X10_refusedSheep q1 hk⟩
theorem cr_RX10_342 : CR RX10 (kIns 342) (2, 3, 65, 0, 0, .inl T_X10_refusedSheep) := crV_i (t := 0) (M := M_X10_refusedSheep) (by decide) rfl (by decide) rfl (inG (i := 531) (w := Cond.methodLink RX10 114 yX10_refusedSheep) (by decide +kernel) rfl) (inG (i := 533) (w := Cond.instanceMethod yX10_refusedSheep) (by decide +kernel) rfl) (inG (i := 37) (w := Cond.initialized RX10) (by decide +kernel) rfl) (inG (i := 9) (w := Cond.selects RX10 yX10_refusedSheep yX10_refusedSheep) (by decide +kernel) rfl) (inG (i := 534) (w := Cond.code yX10_refusedSheep cX10_refusedSheep 3 (some .int)) (by decide +kernel) rfl) ⟨by decide +kernel, by decide +kernel, by decide +kernel⟩ tr_X10_refusedSheep tw_X10_refusedSheep

def S_X10_refusedRow (d : Int32) (h : AH) (K : Int32 → AH → Prop) : Prop := ∃ S, CSh h S ∧ WS S ∧ K (rwR S d (iI (-1))) h
def T_X10_refusedRow : List AV → AH → (Int32 → AH → Prop) → Prop := fun as h K => match as with
  | [.inr (.inr (.inl q0)), .inl q1] => tif (Nat.beq q0.1 0 && Nat.beq q0.2 0) (S_X10_refusedRow q1 h K)
  | _ => False

def M_X10_refusedRow : MI := (RX10, cX10_refusedRow, 3, [(0, .aload_n 0, []), (1, .iload_n 1, []), (2, .invokevirtual 282, []), (5, .istore_n 2, []), (6, .iload_n 2, []), (7, .ifCond .eq 5, [12]), (10, .iload_n 2, []), (11, .ireturn, []), (12, .aload_n 0, []), (13, .getfield 24, []), (16, .iload_n 1, []), (17, .aaload, []), (18, .getfield 256, []), (21, .ifCond .eq 7, [28]), (24, .iconst 0, []), (25, .goto 5, [30]), (28, .bipush (-12), []), (30, .ireturn, [])], [(24, (0, 4, 1, 11, 0)), (256, (12, 1, 3, 0, 0))], [], [], [(846, (2, 2, 43, 0, 0, .inl T_X10_refusedHeld))], 2, 43, 0, 0)
theorem ok_X10_refusedRow : MOK M_X10_refusedRow := ⟨by decide +kernel, List.forall_mem_cons.mpr ⟨fl_RX10_24, List.forall_mem_cons.mpr ⟨fl_RX10_256, fun _ h => absurd h List.not_mem_nil⟩⟩, fun _ h => absurd h List.not_mem_nil, fun _ h => absurd h List.not_mem_nil, List.forall_mem_cons.mpr ⟨⟨Nat.le_of_ble_eq_true rfl, Nat.le_of_ble_eq_true rfl, cr_RX10_846⟩, fun _ h => absurd h List.not_mem_nil⟩⟩
set_option maxRecDepth 100000 in
theorem vc_X10_refusedRow {K : Int32 → AH → Prop} {h : AH} (p1 : Int32) (H : S_X10_refusedHeld p1 h (fun x2 h1 => ((x2 = 0) → inR p1 8 ∧ (((h1.1 12 p1.toNatClampNeg 1) = 0) → K (iI (-12)) h1) ∧ (¬ ((h1.1 12 p1.toNatClampNeg 1) = 0) → K (nI 0) h1)) ∧ (¬ (x2 = 0) → K x2 h1))) : AW M_X10_refusedRow (.inl K) 0 [some (aR 0 0), some (aI p1), none] [] h 0 0 := AW_go (cuts := []) ok_X10_refusedRow 400 H

theorem snd_X10_refusedRow (d : Int32) {h : AH} {K : Int32 → AH → Prop} (k : S_X10_refusedRow d h K) : AW M_X10_refusedRow (.inl K) 0 [some (aR 0 0), some (aI d), none] [] h 0 0 := by
  obtain ⟨S, c, w, k⟩ := k
  refine vc_X10_refusedRow d ⟨S, c, w, ?_⟩
  rcases rhd_cases w d with ⟨m, hm, rfl, h0, e⟩ | ⟨e, -, e2⟩
  · rw [e]
    refine ⟨fun _ => ⟨n_in hm (by omega), ?_⟩, fun z => absurd (show nI 0 = 0 by decide) z⟩
    rw [n_cl (show m < 2147483648 by omega)]
    unfold rwR at k
    rw [if_neg (fun z => z (in8_iff.mpr ⟨m, hm, rfl⟩)), nN_n (by omega), if_neg h0] at k
    have w0 := (w m hm).1
    obtain ⟨c0, c1, c2⟩ := c m hm
    by_cases h1 : S.1 0 m = 2
    · rw [if_neg (by rintro (z | z); exact z h1; exact z.1 (by decide))] at k
      rw [(c2 h1).2.1]
      exact ⟨fun z => absurd z (by decide), fun _ => k⟩
    · have h2 : S.1 0 m = 1 := by omega
      rw [if_pos (Or.inl h1)] at k
      rw [(c1 h2).2]
      exact ⟨fun _ => k, fun z => absurd (show nI 0 = 0 by decide) z⟩
  · rw [e2] at k
    exact ⟨fun z => absurd z e, fun _ => k⟩
theorem tr_X10_refusedRow : ∀ (as : List AV) (h : AH) (K : Int32 → AH → Prop), T_X10_refusedRow as h K → ∃ (q : Nat) (r : List AV), as = aR 0 q :: r := by
  intro as h K hk
  match as, hk with
  | [.inr (.inr (.inl q0)), .inl q1], hk =>
    obtain ⟨hb, hk⟩ := tif_inv hk
    simp only [Bool.and_eq_true] at hb
    obtain ⟨e0, e1⟩ := hb
    obtain ⟨a0, b0⟩ := q0
    have f0 : a0 = 0 := Nat.eq_of_beq_eq_true e0
    subst f0
    have f1 : b0 = 0 := Nat.eq_of_beq_eq_true e1
    subst f1
    exact ⟨_, _, rfl⟩
theorem tw_X10_refusedRow : ∀ (as : List AV) (h : AH) (K : Int32 → AH → Prop), T_X10_refusedRow as h K → (ini as).length ≤ mNL M_X10_refusedRow ∧ AW M_X10_refusedRow (.inl K) 0 (initL (mNL M_X10_refusedRow) as) [] h 0 0 := by
  intro as h K hk
  match as, hk with
  | [.inr (.inr (.inl q0)), .inl q1], hk =>
    obtain ⟨hb, hk⟩ := tif_inv hk
    simp only [Bool.and_eq_true] at hb
    obtain ⟨e0, e1⟩ := hb
    obtain ⟨a0, b0⟩ := q0
    have f0 : a0 = 0 := Nat.eq_of_beq_eq_true e0
    subst f0
    have f1 : b0 = 0 := Nat.eq_of_beq_eq_true e1
    subst f1
    exact ⟨Nat.le_of_ble_eq_true rfl, snd_X10_refusedRow q1 hk⟩
theorem cr_RX10_642 : CR RX10 (kIns 642) (2, 3, 65, 0, 0, .inl T_X10_refusedRow) := crV_i (t := 0) (M := M_X10_refusedRow) (by decide) rfl (by decide) rfl (inG (i := 183) (w := Cond.methodLink RX10 214 yX10_refusedRow) (by decide +kernel) rfl) (inG (i := 185) (w := Cond.instanceMethod yX10_refusedRow) (by decide +kernel) rfl) (inG (i := 37) (w := Cond.initialized RX10) (by decide +kernel) rfl) (inG (i := 1) (w := Cond.selects RX10 yX10_refusedRow yX10_refusedRow) (by decide +kernel) rfl) (inG (i := 186) (w := Cond.code yX10_refusedRow cX10_refusedRow 3 (some .int)) (by decide +kernel) rfl) ⟨by decide +kernel, by decide +kernel, by decide +kernel⟩ tr_X10_refusedRow tw_X10_refusedRow

theorem rwR_0 {S : Sm} {d : Int32} (h : rwR S d (iI (-1)) ≠ nI 0) : rwR S d (nI 0) = rwR S d (iI (-1)) := by
  unfold rwR at h ⊢
  by_cases a : cel d
  · have hc : (¬ cel d) = False := eq_false (fun z => z a)
    simp only [hc, ↓reduceIte] at h ⊢
    by_cases b : S.1 0 (nN d) = 0
    · have hz : (S.1 0 (nN d) = 0) = True := eq_true b
      simp only [hz, ↓reduceIte]
    · have hz : (S.1 0 (nN d) = 0) = False := eq_false b
      simp only [hz, ↓reduceIte] at h ⊢
      by_cases e : S.1 0 (nN d) = 2
      · rw [if_neg (by rintro (z | z); exact z e; exact z.1 (by decide))] at h
        exact absurd rfl h
      · rw [if_pos (Or.inl e), if_pos (Or.inl e)]
  · have hc : (¬ cel d) = True := eq_true a
    simp only [hc, ↓reduceIte]
def S_X10_refusedBytes (d : Int32) (h : AH) (K : Int32 → AH → Prop) : Prop := ∃ S, CSh h S ∧ WS S ∧ K (rwR S d (nI 0)) h
def T_X10_refusedBytes : List AV → AH → (Int32 → AH → Prop) → Prop := fun as h K => match as with
  | [.inr (.inr (.inl q0)), .inl q1] => tif (Nat.beq q0.1 0 && Nat.beq q0.2 0) (S_X10_refusedBytes q1 h K)
  | _ => False

def M_X10_refusedBytes : MI := (RX10, cX10_refusedBytes, 3, [(0, .aload_n 0, []), (1, .iload_n 1, []), (2, .invokevirtual 214, []), (5, .istore_n 2, []), (6, .iload_n 2, []), (7, .ifCond .eq 5, [12]), (10, .iload_n 2, []), (11, .ireturn, []), (12, .aload_n 0, []), (13, .getfield 24, []), (16, .iload_n 1, []), (17, .aaload, []), (18, .getfield 267, []), (21, .ifCond .ne 7, [28]), (24, .iconst 0, []), (25, .goto 5, [30]), (28, .bipush (-12), []), (30, .ireturn, [])], [(24, (0, 4, 1, 11, 0)), (267, (12, 2, 0, 0, 0))], [], [], [(642, (2, 3, 65, 0, 0, .inl T_X10_refusedRow))], 3, 65, 0, 0)
theorem ok_X10_refusedBytes : MOK M_X10_refusedBytes := ⟨by decide +kernel, List.forall_mem_cons.mpr ⟨fl_RX10_24, List.forall_mem_cons.mpr ⟨fl_RX10_267, fun _ h => absurd h List.not_mem_nil⟩⟩, fun _ h => absurd h List.not_mem_nil, fun _ h => absurd h List.not_mem_nil, List.forall_mem_cons.mpr ⟨⟨Nat.le_of_ble_eq_true rfl, Nat.le_of_ble_eq_true rfl, cr_RX10_642⟩, fun _ h => absurd h List.not_mem_nil⟩⟩
set_option maxRecDepth 100000 in
theorem vc_X10_refusedBytes {K : Int32 → AH → Prop} {h : AH} (p1 : Int32) (H : S_X10_refusedRow p1 h (fun x2 h1 => ((x2 = 0) → inR p1 8 ∧ ((¬ (h1.1 12 p1.toNatClampNeg 2) = 0) → K (iI (-12)) h1) ∧ (¬ (¬ (h1.1 12 p1.toNatClampNeg 2) = 0) → K (nI 0) h1)) ∧ (¬ (x2 = 0) → K x2 h1))) : AW M_X10_refusedBytes (.inl K) 0 [some (aR 0 0), some (aI p1), none] [] h 0 0 := AW_go (cuts := []) ok_X10_refusedBytes 400 H

theorem snd_X10_refusedBytes (d : Int32) {h : AH} {K : Int32 → AH → Prop} (k : S_X10_refusedBytes d h K) : AW M_X10_refusedBytes (.inl K) 0 [some (aR 0 0), some (aI d), none] [] h 0 0 := by
  obtain ⟨S, c, w, k⟩ := k
  refine vc_X10_refusedBytes d ⟨S, c, w, ?_⟩
  rcases rwR_cases w d with ⟨m, hm, rfl, h2, e⟩ | e
  · rw [e]
    obtain ⟨-, -, e3, -, -, l1, -⟩ := rowPs ⟨c, w, hm, h2⟩
    refine ⟨fun _ => ⟨n_in hm (by omega), ?_⟩, fun z => absurd (show nI 0 = 0 by decide) z⟩
    rw [n_cl (show m < 2147483648 by omega), e3, n_eq0 (by omega)]
    unfold rwR at k
    rw [if_neg (fun z => z (in8_iff.mpr ⟨m, hm, rfl⟩)), nN_n (by omega), if_neg (by omega)] at k
    refine ⟨fun q => ?_, fun q => ?_⟩
    · rw [if_pos (Or.inr ⟨by decide, fun z => q ((n_eq (by omega) (by omega)).mp z)⟩)] at k; exact k
    · rw [if_neg (by rintro (z | z); exact z h2; exact z.2 (by rw [Decidable.not_not.mp q]))] at k; exact k
  · rw [rwR_0 e] at k
    exact ⟨fun z => absurd z e, fun _ => k⟩
theorem tr_X10_refusedBytes : ∀ (as : List AV) (h : AH) (K : Int32 → AH → Prop), T_X10_refusedBytes as h K → ∃ (q : Nat) (r : List AV), as = aR 0 q :: r := by
  intro as h K hk
  match as, hk with
  | [.inr (.inr (.inl q0)), .inl q1], hk =>
    obtain ⟨hb, hk⟩ := tif_inv hk
    simp only [Bool.and_eq_true] at hb
    obtain ⟨e0, e1⟩ := hb
    obtain ⟨a0, b0⟩ := q0
    have f0 : a0 = 0 := Nat.eq_of_beq_eq_true e0
    subst f0
    have f1 : b0 = 0 := Nat.eq_of_beq_eq_true e1
    subst f1
    exact ⟨_, _, rfl⟩
theorem tw_X10_refusedBytes : ∀ (as : List AV) (h : AH) (K : Int32 → AH → Prop), T_X10_refusedBytes as h K → (ini as).length ≤ mNL M_X10_refusedBytes ∧ AW M_X10_refusedBytes (.inl K) 0 (initL (mNL M_X10_refusedBytes) as) [] h 0 0 := by
  intro as h K hk
  match as, hk with
  | [.inr (.inr (.inl q0)), .inl q1], hk =>
    obtain ⟨hb, hk⟩ := tif_inv hk
    simp only [Bool.and_eq_true] at hb
    obtain ⟨e0, e1⟩ := hb
    obtain ⟨a0, b0⟩ := q0
    have f0 : a0 = 0 := Nat.eq_of_beq_eq_true e0
    subst f0
    have f1 : b0 = 0 := Nat.eq_of_beq_eq_true e1
    subst f1
    exact ⟨Nat.le_of_ble_eq_true rfl, snd_X10_refusedBytes q1 hk⟩
theorem cr_RX10_99 : CR RX10 (kIns 99) (2, 4, 87, 0, 0, .inl T_X10_refusedBytes) := crV_i (t := 0) (M := M_X10_refusedBytes) (by decide) rfl (by decide) rfl (inG (i := 179) (w := Cond.methodLink RX10 33 yX10_refusedBytes) (by decide +kernel) rfl) (inG (i := 181) (w := Cond.instanceMethod yX10_refusedBytes) (by decide +kernel) rfl) (inG (i := 37) (w := Cond.initialized RX10) (by decide +kernel) rfl) (inG (i := 0) (w := Cond.selects RX10 yX10_refusedBytes yX10_refusedBytes) (by decide +kernel) rfl) (inG (i := 182) (w := Cond.code yX10_refusedBytes cX10_refusedBytes 3 (some .int)) (by decide +kernel) rfl) ⟨by decide +kernel, by decide +kernel, by decide +kernel⟩ tr_X10_refusedBytes tw_X10_refusedBytes

def S_X10_refusedTold (a d : Int32) (h : AH) (K : Int32 → AH → Prop) : Prop := ∃ S V, CSh h S ∧ WS S ∧ CV h 0 V ∧ WF V ∧ K (rsr S V a d) h
def T_X10_refusedTold : List AV → AH → (Int32 → AH → Prop) → Prop := fun as h K => match as with
  | [.inr (.inr (.inl q0)), .inl q1, .inl q2] => tif (Nat.beq q0.1 0 && Nat.beq q0.2 0) (S_X10_refusedTold q1 q2 h K)
  | _ => False

def M_X10_refusedTold : MI := (RX10, cX10_refusedTold, 3, [(0, .aload_n 0, []), (1, .getfield 10, []), (4, .iload_n 1, []), (5, .invokevirtual 87, []), (8, .ifnonnull 7, [15]), (11, .iconst (-1), []), (12, .goto 8, [20]), (15, .aload_n 0, []), (16, .iload_n 2, []), (17, .invokevirtual 214, []), (20, .ireturn, [])], [(10, (0, 0, 1, 1, 0))], [], [], [(261, (2, 2, 43, 0, 0, .inr (.inr (.inr T_X9_sheepAt)))), (642, (2, 3, 65, 0, 0, .inl T_X10_refusedRow))], 3, 65, 0, 0)
theorem ok_X10_refusedTold : MOK M_X10_refusedTold := ⟨by decide +kernel, List.forall_mem_cons.mpr ⟨fl_RX10_10, fun _ h => absurd h List.not_mem_nil⟩, fun _ h => absurd h List.not_mem_nil, fun _ h => absurd h List.not_mem_nil, List.forall_mem_cons.mpr ⟨⟨Nat.le_of_ble_eq_true rfl, Nat.le_of_ble_eq_true rfl, cr_RX10_261⟩, List.forall_mem_cons.mpr ⟨⟨Nat.le_of_ble_eq_true rfl, Nat.le_of_ble_eq_true rfl, cr_RX10_642⟩, fun _ h => absurd h List.not_mem_nil⟩⟩⟩
set_option maxRecDepth 100000 in
theorem vc_X10_refusedTold {K : Int32 → AH → Prop} {h : AH} (p1 : Int32) (p2 : Int32) (H : S_X9_sheepAt 0 p1 h (fun x2 h1 => (((x2 : Option Nat) = none) → K (iI (-1)) h1) ∧ (¬ ((x2 : Option Nat) = none) → S_X10_refusedRow p2 h1 (fun x4 h3 => K x4 h3)))) : AW M_X10_refusedTold (.inl K) 0 [some (aR 0 0), some (aI p1), some (aI p2)] [] h 0 0 := AW_go (cuts := []) ok_X10_refusedTold 400 H

theorem snd_X10_refusedTold (a d : Int32) {h : AH} {K : Int32 → AH → Prop} (k : S_X10_refusedTold a d h K) : AW M_X10_refusedTold (.inl K) 0 [some (aR 0 0), some (aI a), some (aI d)] [] h 0 0 := by
  obtain ⟨S, V, c, w, cv, hw, k⟩ := k
  have h7 := hw.2.1
  unfold rsr at k
  refine vc_X10_refusedTold a d ⟨V, cv, hw, fun n o hn e1 _ sp => ⟨fun z => ?_, fun _ => ⟨S, c, w, ?_⟩⟩, fun q => ⟨fun _ => ?_, fun z => absurd rfl z⟩⟩
  · obtain ⟨a, e, -⟩ := sp
    rw [z] at e
    cases e
  · rw [if_pos ((in_iff (by omega)).mpr ⟨n, hn, e1⟩)] at k
    exact k
  · rw [if_neg (fun z => q ((in_iff (by omega)).mp z))] at k
    exact k
theorem tr_X10_refusedTold : ∀ (as : List AV) (h : AH) (K : Int32 → AH → Prop), T_X10_refusedTold as h K → ∃ (q : Nat) (r : List AV), as = aR 0 q :: r := by
  intro as h K hk
  match as, hk with
  | [.inr (.inr (.inl q0)), .inl q1, .inl q2], hk =>
    obtain ⟨hb, hk⟩ := tif_inv hk
    simp only [Bool.and_eq_true] at hb
    obtain ⟨e0, e1⟩ := hb
    obtain ⟨a0, b0⟩ := q0
    have f0 : a0 = 0 := Nat.eq_of_beq_eq_true e0
    subst f0
    have f1 : b0 = 0 := Nat.eq_of_beq_eq_true e1
    subst f1
    exact ⟨_, _, rfl⟩
theorem tw_X10_refusedTold : ∀ (as : List AV) (h : AH) (K : Int32 → AH → Prop), T_X10_refusedTold as h K → (ini as).length ≤ mNL M_X10_refusedTold ∧ AW M_X10_refusedTold (.inl K) 0 (initL (mNL M_X10_refusedTold) as) [] h 0 0 := by
  intro as h K hk
  match as, hk with
  | [.inr (.inr (.inl q0)), .inl q1, .inl q2], hk =>
    obtain ⟨hb, hk⟩ := tif_inv hk
    simp only [Bool.and_eq_true] at hb
    obtain ⟨e0, e1⟩ := hb
    obtain ⟨a0, b0⟩ := q0
    have f0 : a0 = 0 := Nat.eq_of_beq_eq_true e0
    subst f0
    have f1 : b0 = 0 := Nat.eq_of_beq_eq_true e1
    subst f1
    exact ⟨Nat.le_of_ble_eq_true rfl, snd_X10_refusedTold q1 q2 hk⟩
theorem cr_RX10_579 : CR RX10 (kIns 579) (3, 4, 87, 0, 0, .inl T_X10_refusedTold) := crV_i (t := 0) (M := M_X10_refusedTold) (by decide) rfl (by decide) rfl (inG (i := 645) (w := Cond.methodLink RX10 193 yX10_refusedTold) (by decide +kernel) rfl) (inG (i := 647) (w := Cond.instanceMethod yX10_refusedTold) (by decide +kernel) rfl) (inG (i := 37) (w := Cond.initialized RX10) (by decide +kernel) rfl) (inG (i := 11) (w := Cond.selects RX10 yX10_refusedTold yX10_refusedTold) (by decide +kernel) rfl) (inG (i := 648) (w := Cond.code yX10_refusedTold cX10_refusedTold 3 (some .int)) (by decide +kernel) rfl) ⟨by decide +kernel, by decide +kernel, by decide +kernel⟩ tr_X10_refusedTold tw_X10_refusedTold

def S_X10_buys (d : Int32) (h : AH) (K : Int32 → AH → Prop) : Prop := ∃ S V, CSh h S ∧ WS S ∧ CV h 0 V ∧ WF V ∧ ∀ h', onlyV 0 h h' → CV h' 0 (M_buys S V d).2 → K (M_buys S V d).1 h'
def T_X10_buys : List AV → AH → (Int32 → AH → Prop) → Prop := fun as h K => match as with
  | [.inr (.inr (.inl q0)), .inl q1] => tif (Nat.beq q0.1 0 && Nat.beq q0.2 0) (S_X10_buys q1 h K)
  | _ => False

def M_X10_buys : MI := (RX10, cX10_buys, 3, [(0, .aload_n 0, []), (1, .iload_n 1, []), (2, .invokevirtual 114, []), (5, .istore_n 2, []), (6, .iload_n 2, []), (7, .ifCond .eq 5, [12]), (10, .iload_n 2, []), (11, .ireturn, []), (12, .aload_n 0, []), (13, .getfield 10, []), (16, .aload_n 0, []), (17, .getfield 24, []), (20, .iload_n 1, []), (21, .aaload, []), (22, .getfield 117, []), (25, .invokevirtual 121, []), (28, .ifCond .eq 15, [43]), (31, .aload_n 0, []), (32, .getfield 10, []), (35, .getfield 125, []), (38, .iconst 1, []), (39, .isub, []), (40, .goto 5, [45]), (43, .bipush (-2), []), (45, .ireturn, [])], [(10, (0, 0, 1, 1, 0)), (24, (0, 4, 1, 11, 0)), (117, (12, 0, 2, 0, 0)), (125, (1, 9, 0, 0, 0))], [], [], [(342, (2, 3, 65, 0, 0, .inl T_X10_refusedSheep)), (363, (2, 1, 21, 0, 0, .inl T_X9_addSheep))], 3, 65, 0, 0)
theorem ok_X10_buys : MOK M_X10_buys := ⟨by decide +kernel, List.forall_mem_cons.mpr ⟨fl_RX10_10, List.forall_mem_cons.mpr ⟨fl_RX10_24, List.forall_mem_cons.mpr ⟨fl_RX10_117, List.forall_mem_cons.mpr ⟨fl_RX10_125, fun _ h => absurd h List.not_mem_nil⟩⟩⟩⟩, fun _ h => absurd h List.not_mem_nil, fun _ h => absurd h List.not_mem_nil, List.forall_mem_cons.mpr ⟨⟨Nat.le_of_ble_eq_true rfl, Nat.le_of_ble_eq_true rfl, cr_RX10_342⟩, List.forall_mem_cons.mpr ⟨⟨Nat.le_of_ble_eq_true rfl, Nat.le_of_ble_eq_true rfl, cr_RX10_363⟩, fun _ h => absurd h List.not_mem_nil⟩⟩⟩
set_option maxRecDepth 100000 in
theorem vc_X10_buys {K : Int32 → AH → Prop} {h : AH} (p1 : Int32) (H : S_X10_refusedSheep p1 h (fun x2 h1 => ((x2 = 0) → inR p1 8 ∧ S_X9_addSheep 0 (h1.2.1 12 p1.toNatClampNeg 0) h1 (fun x4 h3 => ((x4 = 0) → K (iI (-2)) h3) ∧ (¬ (x4 = 0) → K ((h3.1 1 0 9) - (nI 1)) h3))) ∧ (¬ (x2 = 0) → K x2 h1))) : AW M_X10_buys (.inl K) 0 [some (aR 0 0), some (aI p1), none] [] h 0 0 := AW_go (cuts := []) ok_X10_buys 400 H

theorem snd_X10_buys (d : Int32) {h : AH} {K : Int32 → AH → Prop} (k : S_X10_buys d h K) : AW M_X10_buys (.inl K) 0 [some (aR 0 0), some (aI d), none] [] h 0 0 := by
  obtain ⟨S, V, c, w, cv, hw, k⟩ := k
  have h7 := hw.2.1
  unfold M_buys at k
  refine vc_X10_buys d ⟨S, c, w, ?_⟩
  rcases rwK_cases w d with ⟨m, hm, rfl, h1, e⟩ | e
  case inr =>
    rw [if_pos e] at k
    exact ⟨fun z => absurd z e, fun _ => k h (onlyV_rfl 0 h) cv⟩
  rw [if_neg (fun z => z e), nN_n (by omega)] at k
  refine ⟨fun _ => ⟨n_in hm (by omega), ?_⟩, fun z => absurd e z⟩
  rw [n_cl (show m < 2147483648 by omega)]
  refine ⟨V, cv, hw, Or.inr ⟨S.1 1 m, S.1 2 m, ((c m hm).2.1 h1).1, fun q => ⟨fun _ => ?_, fun z => absurd (show nI 0 = 0 by decide) z⟩, fun q h' o c' => ⟨fun z => absurd z (by decide), fun _ => ?_⟩⟩⟩
  · rw [if_pos q] at k
    exact k h (onlyV_rfl 0 h) cv
  · rw [if_neg (by omega)] at k
    have n1 : adS V (S.1 1 m) (S.1 2 m) 10 1 = V 10 1 + 1 := by unfold adS; rw [uV_at]
    rw [(CVs c').2.2.2.2.2.2.2.2.2.1, n1, n_sub (by omega)]
    exact k h' o c'
theorem tr_X10_buys : ∀ (as : List AV) (h : AH) (K : Int32 → AH → Prop), T_X10_buys as h K → ∃ (q : Nat) (r : List AV), as = aR 0 q :: r := by
  intro as h K hk
  match as, hk with
  | [.inr (.inr (.inl q0)), .inl q1], hk =>
    obtain ⟨hb, hk⟩ := tif_inv hk
    simp only [Bool.and_eq_true] at hb
    obtain ⟨e0, e1⟩ := hb
    obtain ⟨a0, b0⟩ := q0
    have f0 : a0 = 0 := Nat.eq_of_beq_eq_true e0
    subst f0
    have f1 : b0 = 0 := Nat.eq_of_beq_eq_true e1
    subst f1
    exact ⟨_, _, rfl⟩
theorem tw_X10_buys : ∀ (as : List AV) (h : AH) (K : Int32 → AH → Prop), T_X10_buys as h K → (ini as).length ≤ mNL M_X10_buys ∧ AW M_X10_buys (.inl K) 0 (initL (mNL M_X10_buys) as) [] h 0 0 := by
  intro as h K hk
  match as, hk with
  | [.inr (.inr (.inl q0)), .inl q1], hk =>
    obtain ⟨hb, hk⟩ := tif_inv hk
    simp only [Bool.and_eq_true] at hb
    obtain ⟨e0, e1⟩ := hb
    obtain ⟨a0, b0⟩ := q0
    have f0 : a0 = 0 := Nat.eq_of_beq_eq_true e0
    subst f0
    have f1 : b0 = 0 := Nat.eq_of_beq_eq_true e1
    subst f1
    exact ⟨Nat.le_of_ble_eq_true rfl, snd_X10_buys q1 hk⟩

/-- only shelves have changed -/
def onlyZ (h h' : AH) : Prop := h'.2.2 = h.2.2 ∧ (∀ a b i, a ≠ 12 → a ≠ 13 → h'.1 a b i = h.1 a b i) ∧ ∀ a b i, a ≠ 12 → h'.2.1 a b i = h.2.1 a b i
theorem onlyZ_rfl (h : AH) : onlyZ h h := ⟨rfl, fun _ _ _ _ _ => rfl, fun _ _ _ _ => rfl⟩
theorem SHP_Z {h h' : AH} {o : Option Nat} {k f : Nat} (q : onlyZ h h') (s : SHP h o k f) : SHP h' o k f := SHP_e (fun a i => q.2.1 18 a i (by omega) (by omega)) s
def S_X10_row (d s n : Int32) (h : AH) (K : Int32 → AH → Prop) : Prop := ∃ S, CSh h S ∧ WS S ∧ ∀ h', onlyZ h h' → CSh h' (M_row S d s n).2 → K (M_row S d s n).1 h'
def T_X10_row : List AV → AH → (Int32 → AH → Prop) → Prop := fun as h K => match as with
  | [.inr (.inr (.inl q0)), .inl q1, .inl q2, .inl q3] => tif (Nat.beq q0.1 0 && Nat.beq q0.2 0) (S_X10_row q1 q2 q3 h K)
  | _ => False

def M_X10_row : MI := (RX10, cX10_row, 4, [(0, .iload_n 1, []), (1, .iconst 0, []), (2, .bipush 7, []), (4, .invokestatic 59, []), (7, .ifCond .eq 18, [25]), (10, .iload_n 2, []), (11, .iconst 0, []), (12, .iconst 2, []), (13, .invokestatic 59, []), (16, .ifCond .eq 9, [25]), (19, .iload_n 3, []), (20, .bipush 100, []), (22, .if_icmp .le 5, [27]), (25, .iconst (-1), []), (26, .ireturn, []), (27, .iload_n 3, []), (28, .ifCond .ge 6, [34]), (31, .bipush (-14), []), (33, .ireturn, []), (34, .aload_n 0, []), (35, .getfield 24, []), (38, .iload_n 1, []), (39, .aaload, []), (40, .iload_n 2, []), (41, .iload_n 3, []), (42, .invokevirtual 242, []), (45, .iconst 0, []), (46, .ireturn, [])], [(24, (0, 4, 1, 11, 0))], [], [], [(178, (3, 1, 22, 0, 0, .inl T_X10_within)), (726, (3, 1, 23, 0, 0, .inr (.inl T_X5_holdRow)))], 1, 23, 0, 0)
theorem ok_X10_row : MOK M_X10_row := ⟨by decide +kernel, List.forall_mem_cons.mpr ⟨fl_RX10_24, fun _ h => absurd h List.not_mem_nil⟩, fun _ h => absurd h List.not_mem_nil, fun _ h => absurd h List.not_mem_nil, List.forall_mem_cons.mpr ⟨⟨Nat.le_of_ble_eq_true rfl, Nat.le_of_ble_eq_true rfl, cr_RX10_178⟩, List.forall_mem_cons.mpr ⟨⟨Nat.le_of_ble_eq_true rfl, Nat.le_of_ble_eq_true rfl, cr_RX10_726⟩, fun _ h => absurd h List.not_mem_nil⟩⟩⟩
set_option maxRecDepth 100000 in
theorem vc_X10_row {K : Int32 → AH → Prop} {h : AH} (p1 : Int32) (p2 : Int32) (p3 : Int32) (H : S_X10_within p1 (nI 0) (nI 7) h (fun x2 h1 => ((x2 = 0) → K (iI (-1)) h1) ∧ (¬ (x2 = 0) → S_X10_within p2 (nI 0) (nI 2) h1 (fun x4 h3 => ((x4 = 0) → K (iI (-1)) h3) ∧ (¬ (x4 = 0) → ((p3 ≤ (nI 100)) → ((0 ≤ p3) → inR p1 8 ∧ S_X5_holdRow p1.toNatClampNeg p2 p3 h3 (fun h5 => K (nI 0) h5)) ∧ (¬ (0 ≤ p3) → K (iI (-14)) h3)) ∧ (¬ (p3 ≤ (nI 100)) → K (iI (-1)) h3)))))) : AW M_X10_row (.inl K) 0 [some (aR 0 0), some (aI p1), some (aI p2), some (aI p3)] [] h 0 0 := AW_go (cuts := []) ok_X10_row 400 H

theorem snd_X10_row (d s n : Int32) {h : AH} {K : Int32 → AH → Prop} (k : S_X10_row d s n h K) : AW M_X10_row (.inl K) 0 [some (aR 0 0), some (aI d), some (aI s), some (aI n)] [] h 0 0 := by
  obtain ⟨S, c, w, k⟩ := k
  unfold M_row at k
  have no : (¬ cel d ∨ ¬ (nI 0 ≤ s ∧ s ≤ nI 2) ∨ ¬ n ≤ nI 100) → K (iI (-1)) h := fun z => by
    rw [if_pos z] at k
    exact k h (onlyZ_rfl h) c
  refine vc_X10_row d s n (w_if (fun q1 => w_if (fun q2 => ⟨fun q3 => ⟨fun q4 => ?_, fun q4 => ?_⟩, fun q3 => no (Or.inr (Or.inr q3))⟩) (fun q => no (Or.inr (Or.inl q)))) (fun q => no (Or.inl q)))
  · rw [if_neg (by rintro (z | z | z); exact z q1; exact z q2; exact z q3), if_neg (fun z => z q4)] at k
    obtain ⟨m, hm, rfl⟩ := in8_iff.mp q1
    obtain ⟨s, hs, rfl⟩ := (in_n (by omega)).mp q2
    obtain ⟨n, hn, rfl⟩ := (in_n (by omega)).mp ⟨q4, q3⟩
    rw [nN_n (show m < 2147483648 by omega), nN_n (show s < 2147483648 by omega), nN_n (show n < 2147483648 by omega)] at k
    refine ⟨n_in hm (by omega), ?_⟩
    rw [n_cl (show m < 2147483648 by omega)]
    refine fun h' e1 e2 e3 e4 e5 e6 => k h' ⟨by rw [e1], fun a b i z1 z2 => e2 a b i (fun z => z1 z.1) (fun z => z2 z.1), fun a b i z => by rw [e1, wR_get, if_neg (fun y => z y.1)]⟩ (fun d hd => ?_)
    obtain ⟨c0, c1, c2⟩ := c d hd
    by_cases z : d = m
    · subst z
      simp only [uV]
      simp
      rw [e1, wR_get, if_pos ⟨rfl, rfl, rfl⟩]
      exact ⟨rfl, e3, e4, e5, e6⟩
    · simp only [uV]
      simp [z]
      have r0 : h'.2.1 12 d 0 = h.2.1 12 d 0 := by rw [e1, wR_get, if_neg (fun y => z y.2.1)]
      have r1 : ∀ i, h'.1 12 d i = h.1 12 d i := fun i => e2 12 d i (fun y => z y.2) (by omega)
      have r2 : ∀ i, h'.1 13 d i = h.1 13 d i := fun i => e2 13 d i (by omega) (fun y => z y.2)
      have r3 : ∀ a i, h'.1 18 a i = h.1 18 a i := fun a i => e2 18 a i (by omega) (by omega)
      rw [r0, r1, r1, r1]
      exact ⟨c0, fun q => ⟨SHP_e r3 (c1 q).1, (c1 q).2⟩, fun q => ⟨(c2 q).1, (c2 q).2.1, (c2 q).2.2.1, (c2 q).2.2.2.1, fun i hi => by rw [r2]; exact (c2 q).2.2.2.2 i hi⟩⟩
  · rw [if_neg (by rintro (z | z | z); exact z q1; exact z q2; exact z q3), if_pos q4] at k
    exact k h (onlyZ_rfl h) c
theorem tr_X10_row : ∀ (as : List AV) (h : AH) (K : Int32 → AH → Prop), T_X10_row as h K → ∃ (q : Nat) (r : List AV), as = aR 0 q :: r := by
  intro as h K hk
  match as, hk with
  | [.inr (.inr (.inl q0)), .inl q1, .inl q2, .inl q3], hk =>
    obtain ⟨hb, hk⟩ := tif_inv hk
    simp only [Bool.and_eq_true] at hb
    obtain ⟨e0, e1⟩ := hb
    obtain ⟨a0, b0⟩ := q0
    have f0 : a0 = 0 := Nat.eq_of_beq_eq_true e0
    subst f0
    have f1 : b0 = 0 := Nat.eq_of_beq_eq_true e1
    subst f1
    exact ⟨_, _, rfl⟩
theorem tw_X10_row : ∀ (as : List AV) (h : AH) (K : Int32 → AH → Prop), T_X10_row as h K → (ini as).length ≤ mNL M_X10_row ∧ AW M_X10_row (.inl K) 0 (initL (mNL M_X10_row) as) [] h 0 0 := by
  intro as h K hk
  match as, hk with
  | [.inr (.inr (.inl q0)), .inl q1, .inl q2, .inl q3], hk =>
    obtain ⟨hb, hk⟩ := tif_inv hk
    simp only [Bool.and_eq_true] at hb
    obtain ⟨e0, e1⟩ := hb
    obtain ⟨a0, b0⟩ := q0
    have f0 : a0 = 0 := Nat.eq_of_beq_eq_true e0
    subst f0
    have f1 : b0 = 0 := Nat.eq_of_beq_eq_true e1
    subst f1
    exact ⟨Nat.le_of_ble_eq_true rfl, snd_X10_row q1 q2 q3 hk⟩

theorem CSh_u {h : AH} {S : Sm} {m i : Nat} {x : Int32} (c : CSh h S) : CSh (wI h 13 m i x) (uE S m i x) := by
  intro d hd
  obtain ⟨c0, c1, c2⟩ := c d hd
  have r1 : ∀ j, (wI h 13 m i x).1 12 d j = h.1 12 d j := fun j => wI_nt (by omega)
  have r3 : ∀ a j, (wI h 13 m i x).1 18 a j = h.1 18 a j := fun a j => wI_nt (by omega)
  rw [r1, r1, r1]
  refine ⟨c0, fun q => ⟨SHP_e r3 (c1 q).1, (c1 q).2⟩, fun q => ⟨(c2 q).1, (c2 q).2.1, (c2 q).2.2.1, (c2 q).2.2.2.1, fun j hj => ?_⟩⟩
  rw [wI_get]
  show _ = if d = m ∧ j = i then x else S.2 d j
  by_cases z : d = m ∧ j = i
  · rw [if_pos z, if_pos ⟨rfl, z⟩]
  · rw [if_neg z, if_neg (fun y => z y.2)]
    exact (c2 q).2.2.2.2 j hj
def S_X10_put (d i v : Int32) (h : AH) (K : Int32 → AH → Prop) : Prop := ∃ S, CSh h S ∧ WS S ∧ ∀ h', onlyZ h h' → CSh h' (M_put S d i v).2 → K (M_put S d i v).1 h'
def T_X10_put : List AV → AH → (Int32 → AH → Prop) → Prop := fun as h K => match as with
  | [.inr (.inr (.inl q0)), .inl q1, .inl q2, .inl q3] => tif (Nat.beq q0.1 0 && Nat.beq q0.2 0) (S_X10_put q1 q2 q3 h K)
  | _ => False

def M_X10_put : MI := (RX10, cX10_put, 5, [(0, .aload_n 0, []), (1, .iload_n 1, []), (2, .invokevirtual 214, []), (5, .istore 4, []), (7, .iload 4, []), (9, .ifCond .eq 6, [15]), (12, .iload 4, []), (14, .ireturn, []), (15, .iload_n 2, []), (16, .iconst 0, []), (17, .aload_n 0, []), (18, .getfield 24, []), (21, .iload_n 1, []), (22, .aaload, []), (23, .getfield 45, []), (26, .iconst 1, []), (27, .isub, []), (28, .invokestatic 59, []), (31, .ifCond .ne 6, [37]), (34, .bipush (-13), []), (36, .ireturn, []), (37, .aload_n 0, []), (38, .getfield 24, []), (41, .iload_n 1, []), (42, .aaload, []), (43, .getfield 49, []), (46, .iload_n 2, []), (47, .aload_n 0, []), (48, .getfield 24, []), (51, .iload_n 1, []), (52, .aaload, []), (53, .iload_n 3, []), (54, .invokevirtual 246, []), (57, .iastore, []), (58, .iconst 0, []), (59, .ireturn, [])], [(24, (0, 4, 1, 11, 0)), (45, (12, 3, 0, 0, 0)), (49, (12, 4, 1, 13, 0))], [], [], [(642, (2, 3, 65, 0, 0, .inl T_X10_refusedRow)), (178, (3, 1, 22, 0, 0, .inl T_X10_within)), (738, (2, 1, 21, 0, 0, .inl T_X5_cutToSort))], 3, 65, 0, 0)
theorem ok_X10_put : MOK M_X10_put := ⟨by decide +kernel, List.forall_mem_cons.mpr ⟨fl_RX10_24, List.forall_mem_cons.mpr ⟨fl_RX10_45, List.forall_mem_cons.mpr ⟨fl_RX10_49, fun _ h => absurd h List.not_mem_nil⟩⟩⟩, fun _ h => absurd h List.not_mem_nil, fun _ h => absurd h List.not_mem_nil, List.forall_mem_cons.mpr ⟨⟨Nat.le_of_ble_eq_true rfl, Nat.le_of_ble_eq_true rfl, cr_RX10_642⟩, List.forall_mem_cons.mpr ⟨⟨Nat.le_of_ble_eq_true rfl, Nat.le_of_ble_eq_true rfl, cr_RX10_178⟩, List.forall_mem_cons.mpr ⟨⟨Nat.le_of_ble_eq_true rfl, Nat.le_of_ble_eq_true rfl, cr_RX10_738⟩, fun _ h => absurd h List.not_mem_nil⟩⟩⟩⟩
set_option maxRecDepth 100000 in
theorem vc_X10_put {K : Int32 → AH → Prop} {h : AH} (p1 : Int32) (p2 : Int32) (p3 : Int32) (H : S_X10_refusedRow p1 h (fun x2 h1 => ((x2 = 0) → inR p1 8 ∧ S_X10_within p2 (nI 0) ((h1.1 12 p1.toNatClampNeg 3) - (nI 1)) h1 (fun x4 h3 => ((¬ x4 = 0) → inR p1 8 ∧ inR p1 8 ∧ S_X5_cutToSort p1.toNatClampNeg p3 h3 (fun x6 h5 => inR p2 100 ∧ K (nI 0) (wI h5 13 p1.toNatClampNeg p2.toNatClampNeg x6))) ∧ (¬ (¬ x4 = 0) → K (iI (-13)) h3))) ∧ (¬ (x2 = 0) → K x2 h1))) : AW M_X10_put (.inl K) 0 [some (aR 0 0), some (aI p1), some (aI p2), some (aI p3), none] [] h 0 0 := AW_go (cuts := []) ok_X10_put 400 H

theorem snd_X10_put (d i v : Int32) {h : AH} {K : Int32 → AH → Prop} (k : S_X10_put d i v h K) : AW M_X10_put (.inl K) 0 [some (aR 0 0), some (aI d), some (aI i), some (aI v), none] [] h 0 0 := by
  obtain ⟨S, c, w, k⟩ := k
  unfold M_put at k
  refine vc_X10_put d i v ⟨S, c, w, ?_⟩
  rcases rwR_cases w d with ⟨m, hm, rfl, h2, e⟩ | e
  case inr =>
    rw [if_pos e] at k
    exact ⟨fun z => absurd z e, fun _ => k h (onlyZ_rfl h) c⟩
  rw [if_neg (fun z => z e), nN_n (show m < 2147483648 by omega)] at k
  have p : rowP h S m := ⟨c, w, hm, h2⟩
  obtain ⟨-, -, e2, e3, e4, l1, l2⟩ := rowPs p
  refine ⟨fun _ => ⟨n_in hm (by omega), ?_⟩, fun z => absurd e z⟩
  (try dsimp only)
  rw [n_cl (show m < 2147483648 by omega), e3]
  refine w_ni (fun q => ⟨n_in hm (by omega), n_in hm (by omega), S, p, ?_⟩) (fun q => ?_)
  · rw [if_neg (fun z => z q)] at k
    obtain ⟨j, hj, rfl⟩ := (in_iff (by omega)).mp q
    rw [nN_n (show j < 2147483648 by omega)] at k
    refine ⟨n_in (show j < 100 by omega) (by omega), ?_⟩
    rw [n_cl (show j < 2147483648 by omega)]
    exact k _ ⟨rfl, fun a b i z1 z2 => wI_nt z2, fun _ _ _ _ => rfl⟩ (CSh_u c)
  · rw [if_pos q] at k
    exact k h (onlyZ_rfl h) c
theorem tr_X10_put : ∀ (as : List AV) (h : AH) (K : Int32 → AH → Prop), T_X10_put as h K → ∃ (q : Nat) (r : List AV), as = aR 0 q :: r := by
  intro as h K hk
  match as, hk with
  | [.inr (.inr (.inl q0)), .inl q1, .inl q2, .inl q3], hk =>
    obtain ⟨hb, hk⟩ := tif_inv hk
    simp only [Bool.and_eq_true] at hb
    obtain ⟨e0, e1⟩ := hb
    obtain ⟨a0, b0⟩ := q0
    have f0 : a0 = 0 := Nat.eq_of_beq_eq_true e0
    subst f0
    have f1 : b0 = 0 := Nat.eq_of_beq_eq_true e1
    subst f1
    exact ⟨_, _, rfl⟩
theorem tw_X10_put : ∀ (as : List AV) (h : AH) (K : Int32 → AH → Prop), T_X10_put as h K → (ini as).length ≤ mNL M_X10_put ∧ AW M_X10_put (.inl K) 0 (initL (mNL M_X10_put) as) [] h 0 0 := by
  intro as h K hk
  match as, hk with
  | [.inr (.inr (.inl q0)), .inl q1, .inl q2, .inl q3], hk =>
    obtain ⟨hb, hk⟩ := tif_inv hk
    simp only [Bool.and_eq_true] at hb
    obtain ⟨e0, e1⟩ := hb
    obtain ⟨a0, b0⟩ := q0
    have f0 : a0 = 0 := Nat.eq_of_beq_eq_true e0
    subst f0
    have f1 : b0 = 0 := Nat.eq_of_beq_eq_true e1
    subst f1
    exact ⟨Nat.le_of_ble_eq_true rfl, snd_X10_put q1 q2 q3 hk⟩

def S_X10_cost (d : Int32) (h : AH) (K : Int32 → AH → Prop) : Prop := ∃ S, CSh h S ∧ WS S ∧ K (R_cost S d) h
def T_X10_cost : List AV → AH → (Int32 → AH → Prop) → Prop := fun as h K => match as with
  | [.inr (.inr (.inl q0)), .inl q1] => tif (Nat.beq q0.1 0 && Nat.beq q0.2 0) (S_X10_cost q1 h K)
  | _ => False

def M_X10_cost : MI := (RX10, cX10_cost, 3, [(0, .aload_n 0, []), (1, .iload_n 1, []), (2, .invokevirtual 114, []), (5, .istore_n 2, []), (6, .iload_n 2, []), (7, .ifCond .eq 7, [14]), (10, .iload_n 2, []), (11, .goto 15, [26]), (14, .aload_n 0, []), (15, .getfield 24, []), (18, .iload_n 1, []), (19, .aaload, []), (20, .getfield 117, []), (23, .getfield 276, []), (26, .ireturn, [])], [(24, (0, 4, 1, 11, 0)), (117, (12, 0, 2, 0, 0)), (276, (18, 6, 0, 0, 0))], [], [], [(342, (2, 3, 65, 0, 0, .inl T_X10_refusedSheep))], 3, 65, 0, 0)
theorem ok_X10_cost : MOK M_X10_cost := ⟨by decide +kernel, List.forall_mem_cons.mpr ⟨fl_RX10_24, List.forall_mem_cons.mpr ⟨fl_RX10_117, List.forall_mem_cons.mpr ⟨fl_RX10_276, fun _ h => absurd h List.not_mem_nil⟩⟩⟩, fun _ h => absurd h List.not_mem_nil, fun _ h => absurd h List.not_mem_nil, List.forall_mem_cons.mpr ⟨⟨Nat.le_of_ble_eq_true rfl, Nat.le_of_ble_eq_true rfl, cr_RX10_342⟩, fun _ h => absurd h List.not_mem_nil⟩⟩
set_option maxRecDepth 100000 in
theorem vc_X10_cost {K : Int32 → AH → Prop} {h : AH} (p1 : Int32) (H : S_X10_refusedSheep p1 h (fun x2 h1 => ((x2 = 0) → inR p1 8 ∧ oE (h1.2.1 12 p1.toNatClampNeg 0) fun a3 => K (h1.1 18 a3 6) h1) ∧ (¬ (x2 = 0) → K x2 h1))) : AW M_X10_cost (.inl K) 0 [some (aR 0 0), some (aI p1), none] [] h 0 0 := AW_go (cuts := []) ok_X10_cost 400 H

theorem snd_X10_cost (d : Int32) {h : AH} {K : Int32 → AH → Prop} (k : S_X10_cost d h K) : AW M_X10_cost (.inl K) 0 [some (aR 0 0), some (aI d), none] [] h 0 0 := by
  obtain ⟨S, c, w, k⟩ := k
  unfold R_cost at k
  refine vc_X10_cost d ⟨S, c, w, ?_⟩
  rcases rwK_cases w d with ⟨m, hm, rfl, h1, e⟩ | e
  case inr =>
    rw [if_pos e] at k
    exact ⟨fun z => absurd z e, fun _ => k⟩
  rw [if_neg (fun z => z e), nN_n (by omega)] at k
  refine ⟨fun _ => ⟨n_in hm (by omega), ?_⟩, fun z => absurd e z⟩
  rw [n_cl (show m < 2147483648 by omega)]
  obtain ⟨a, ea, -, -, -, -, -, -, s7⟩ := ((c m hm).2.1 h1).1
  rw [ea]
  refine oE_s ?_
  rw [s7]
  exact k
theorem tr_X10_cost : ∀ (as : List AV) (h : AH) (K : Int32 → AH → Prop), T_X10_cost as h K → ∃ (q : Nat) (r : List AV), as = aR 0 q :: r := by
  intro as h K hk
  match as, hk with
  | [.inr (.inr (.inl q0)), .inl q1], hk =>
    obtain ⟨hb, hk⟩ := tif_inv hk
    simp only [Bool.and_eq_true] at hb
    obtain ⟨e0, e1⟩ := hb
    obtain ⟨a0, b0⟩ := q0
    have f0 : a0 = 0 := Nat.eq_of_beq_eq_true e0
    subst f0
    have f1 : b0 = 0 := Nat.eq_of_beq_eq_true e1
    subst f1
    exact ⟨_, _, rfl⟩
theorem tw_X10_cost : ∀ (as : List AV) (h : AH) (K : Int32 → AH → Prop), T_X10_cost as h K → (ini as).length ≤ mNL M_X10_cost ∧ AW M_X10_cost (.inl K) 0 (initL (mNL M_X10_cost) as) [] h 0 0 := by
  intro as h K hk
  match as, hk with
  | [.inr (.inr (.inl q0)), .inl q1], hk =>
    obtain ⟨hb, hk⟩ := tif_inv hk
    simp only [Bool.and_eq_true] at hb
    obtain ⟨e0, e1⟩ := hb
    obtain ⟨a0, b0⟩ := q0
    have f0 : a0 = 0 := Nat.eq_of_beq_eq_true e0
    subst f0
    have f1 : b0 = 0 := Nat.eq_of_beq_eq_true e1
    subst f1
    exact ⟨Nat.le_of_ble_eq_true rfl, snd_X10_cost q1 hk⟩

def S_X10_judge (a c d : Int32) (h : AH) (K : Int32 → AH → Prop) : Prop := ∃ S V, CSh h S ∧ WS S ∧ CV h 0 V ∧ WF V ∧ ∀ h', keepC h h' → K (R_judge S V a c d) h'
def T_X10_judge : List AV → AH → (Int32 → AH → Prop) → Prop := fun as h K => match as with
  | [.inr (.inr (.inl q0)), .inl q1, .inl q2, .inl q3] => tif (Nat.beq q0.1 0 && Nat.beq q0.2 0) (S_X10_judge q1 q2 q3 h K)
  | _ => False

def M_X10_judge : MI := (RX10, cX10_judge, 8, [(0, .iload_n 3, []), (1, .iconst 0, []), (2, .bipush 7, []), (4, .invokestatic 59, []), (7, .ifCond .eq 15, [22]), (10, .aload_n 0, []), (11, .getfield 10, []), (14, .iload_n 1, []), (15, .iload_n 2, []), (16, .invokevirtual 138, []), (19, .goto 4, [23]), (22, .iconst (-1), []), (23, .istore 4, []), (25, .iload 4, []), (27, .ifCond .ne 10, [37]), (30, .aload_n 0, []), (31, .iload_n 3, []), (32, .invokevirtual 214, []), (35, .istore 4, []), (37, .iload 4, []), (39, .ifCond .eq 6, [45]), (42, .iload 4, []), (44, .ireturn, []), (45, .aload_n 0, []), (46, .getfield 24, []), (49, .iload_n 3, []), (50, .aaload, []), (51, .astore 5, []), (53, .aload_n 0, []), (54, .getfield 16, []), (57, .aload_n 0, []), (58, .getfield 10, []), (61, .invokevirtual 41, []), (64, .iconst 0, []), (65, .istore 6, []), (67, .iload 6, []), (69, .aload 5, []), (71, .getfield 45, []), (74, .if_icmp .ge 52, [126]), (77, .aload_n 0, []), (78, .getfield 16, []), (81, .iload_n 1, []), (82, .iload_n 2, []), (83, .invokevirtual 142, []), (86, .istore 7, []), (88, .aload 5, []), (90, .getfield 49, []), (93, .iload 6, []), (95, .iaload, []), (96, .aload 5, []), (98, .invokevirtual 217, []), (101, .if_icmp .eq 19, [120]), (104, .aload 5, []), (106, .getfield 49, []), (109, .iload 6, []), (111, .iaload, []), (112, .iload 7, []), (114, .if_icmp .eq 6, [120]), (117, .iload 6, []), (119, .ireturn, []), (120, .iinc 6 1, []), (123, .goto (-56), [67]), (126, .bipush (-4), []), (128, .ireturn, [])], [(10, (0, 0, 1, 1, 0)), (24, (0, 4, 1, 11, 0)), (16, (0, 1, 1, 1, 1)), (45, (12, 3, 0, 0, 0)), (49, (12, 4, 1, 13, 0))], [], [], [(178, (3, 1, 22, 0, 0, .inl T_X10_within)), (414, (3, 3, 66, 0, 0, .inl T_X9_refusedThrow)), (642, (2, 3, 65, 0, 0, .inl T_X10_refusedRow)), (123, (2, 2, 48, 0, 0, .inr (.inl T_X9_become))), (426, (3, 5, 113, 0, 0, .inl T_X9_throwOnto)), (651, (1, 1, 20, 0, 0, .inl T_X5_leastNumber))], 5, 113, 0, 0)
theorem ok_X10_judge : MOK M_X10_judge := ⟨by decide +kernel, List.forall_mem_cons.mpr ⟨fl_RX10_10, List.forall_mem_cons.mpr ⟨fl_RX10_24, List.forall_mem_cons.mpr ⟨fl_RX10_16, List.forall_mem_cons.mpr ⟨fl_RX10_45, List.forall_mem_cons.mpr ⟨fl_RX10_49, fun _ h => absurd h List.not_mem_nil⟩⟩⟩⟩⟩, fun _ h => absurd h List.not_mem_nil, fun _ h => absurd h List.not_mem_nil, List.forall_mem_cons.mpr ⟨⟨Nat.le_of_ble_eq_true rfl, Nat.le_of_ble_eq_true rfl, cr_RX10_178⟩, List.forall_mem_cons.mpr ⟨⟨Nat.le_of_ble_eq_true rfl, Nat.le_of_ble_eq_true rfl, cr_RX10_414⟩, List.forall_mem_cons.mpr ⟨⟨Nat.le_of_ble_eq_true rfl, Nat.le_of_ble_eq_true rfl, cr_RX10_642⟩, List.forall_mem_cons.mpr ⟨⟨Nat.le_of_ble_eq_true rfl, Nat.le_of_ble_eq_true rfl, cr_RX10_123⟩, List.forall_mem_cons.mpr ⟨⟨Nat.le_of_ble_eq_true rfl, Nat.le_of_ble_eq_true rfl, cr_RX10_426⟩, List.forall_mem_cons.mpr ⟨⟨Nat.le_of_ble_eq_true rfl, Nat.le_of_ble_eq_true rfl, cr_RX10_651⟩, fun _ h => absurd h List.not_mem_nil⟩⟩⟩⟩⟩⟩⟩
set_option maxRecDepth 100000 in
theorem vc_X10_judge {K : Int32 → AH → Prop} {h : AH} (p1 : Int32) (p2 : Int32) (p3 : Int32) (H : S_X10_within p3 (nI 0) (nI 7) h (fun x2 h1 => ((x2 = 0) → AW M_X10_judge (.inl K) 25 [some (aR 0 0), some (aI p1), some (aI p2), some (aI p3), some (aI (iI (-1))), none, none, none] [] h1 0 0) ∧ (¬ (x2 = 0) → S_X9_refusedThrow 0 p1 p2 h1 (fun x4 h3 => AW M_X10_judge (.inl K) 25 [some (aR 0 0), some (aI p1), some (aI p2), some (aI p3), some (aI x4), none, none, none] [] h3 0 0)))) : AW M_X10_judge (.inl K) 0 [some (aR 0 0), some (aI p1), some (aI p2), some (aI p3), none, none, none, none] [] h 0 0 := AW_go (cuts := [(25, [true, true, true, true, true, false, false, false]), (37, [true, true, true, true, true, false, false, false]), (67, [true, true, true, false, false, true, true, false])]) ok_X10_judge 400 H
set_option maxRecDepth 100000 in
theorem vc_X10_judge_25 {K : Int32 → AH → Prop} {h : AH}  (l1 : Int32) (l2 : Int32) (l3 : Int32) (l4 : Int32) (H : ((¬ l4 = 0) → AW M_X10_judge (.inl K) 37 [some (aR 0 0), some (aI l1), some (aI l2), some (aI l3), some (aI l4), none, none, none] [] h 0 0) ∧ (¬ (¬ l4 = 0) → S_X10_refusedRow l3 h (fun x2 h1 => AW M_X10_judge (.inl K) 37 [some (aR 0 0), some (aI l1), some (aI l2), some (aI l3), some (aI x2), none, none, none] [] h1 0 0))) : AW M_X10_judge (.inl K) 25 [some (aR 0 0), some (aI l1), some (aI l2), some (aI l3), some (aI l4), none, none, none] [] h 0 0 := AW_go (cuts := [(25, [true, true, true, true, true, false, false, false]), (37, [true, true, true, true, true, false, false, false]), (67, [true, true, true, false, false, true, true, false])]) ok_X10_judge 400 H
set_option maxRecDepth 100000 in
theorem vc_X10_judge_37 {K : Int32 → AH → Prop} {h : AH}  (l1 : Int32) (l2 : Int32) (l3 : Int32) (l4 : Int32) (H : ((l4 = 0) → inR l3 8 ∧ S_X9_become 1 0 h (fun h1 => AW M_X10_judge (.inl K) 67 [some (aR 0 0), some (aI l1), some (aI l2), none, none, some (aR 12 l3.toNatClampNeg), some (aI (nI 0)), none] [] h1 0 0)) ∧ (¬ (l4 = 0) → K l4 h)) : AW M_X10_judge (.inl K) 37 [some (aR 0 0), some (aI l1), some (aI l2), some (aI l3), some (aI l4), none, none, none] [] h 0 0 := AW_go (cuts := [(25, [true, true, true, true, true, false, false, false]), (37, [true, true, true, true, true, false, false, false]), (67, [true, true, true, false, false, true, true, false])]) ok_X10_judge 400 H
set_option maxRecDepth 100000 in
theorem vc_X10_judge_67 {K : Int32 → AH → Prop} {h : AH}  (l1 : Int32) (l2 : Int32) (l5 : Nat) (l6 : Int32) (H : (((h.1 12 l5 3) ≤ l6) → K (iI (-4)) h) ∧ (¬ ((h.1 12 l5 3) ≤ l6) → S_X9_throwOnto 1 l1 l2 h (fun x2 h1 => inR l6 100 ∧ S_X5_leastNumber l5 h1 (fun x4 h3 => (((h1.1 13 l5 l6.toNatClampNeg) = x4) → AW M_X10_judge (.inl K) 67 [some (aR 0 0), some (aI l1), some (aI l2), none, none, some (aR 12 l5), some (aI (l6 + (nI 1))), none] [] h3 0 0) ∧ (¬ ((h1.1 13 l5 l6.toNatClampNeg) = x4) → inR l6 100 ∧ (((h3.1 13 l5 l6.toNatClampNeg) = x2) → AW M_X10_judge (.inl K) 67 [some (aR 0 0), some (aI l1), some (aI l2), none, none, some (aR 12 l5), some (aI (l6 + (nI 1))), none] [] h3 0 0) ∧ (¬ ((h3.1 13 l5 l6.toNatClampNeg) = x2) → K l6 h3)))))) : AW M_X10_judge (.inl K) 67 [some (aR 0 0), some (aI l1), some (aI l2), none, none, some (aR 12 l5), some (aI l6), none] [] h 0 0 := AW_go (cuts := [(25, [true, true, true, true, true, false, false, false]), (37, [true, true, true, true, true, false, false, false]), (67, [true, true, true, false, false, true, true, false])]) ok_X10_judge 400 H

theorem lp_X10_judge {S : Sm} {s c m : Nat} {h0 : AH} {K : Int32 → AH → Prop} (p0 : rowP h0 S m) (hc : c < 8) : ∀ r t W h, t + r = S.1 4 m → WF W → s < W 10 1 → CV h 1 W → keepC h0 h → (∀ h', keepC h0 h' → K (oI (jd (S.2 m) (lstO (S.1 3 m)) s c r t W)) h') → AW M_X10_judge (.inl K) 67 [some (aR 0 0), some (aI (nI s)), some (aI (nI c)), none, none, some (aR 12 m), some (aI (nI t)), none] [] h 0 0 := by
  intro r
  induction r with
  | zero =>
    intro t W h ht hW hsW cv hk k
    refine vc_X10_judge_67 (nI s) (nI c) m (nI t) ?_
    have p : rowP h S m := ⟨CSh_K hk p0.1, p0.2⟩
    obtain ⟨-, -, -, e3, -, -, l2⟩ := rowPs p
    have : t = S.1 4 m := by omega
    rw [e3, this]
    exact ⟨fun _ => k h hk, fun q => absurd (Int32.le_refl _) q⟩
  | succ r ih =>
    intro t W h ht hW hsW cv hk k
    refine vc_X10_judge_67 (nI s) (nI c) m (nI t) ?_
    have p : rowP h S m := ⟨CSh_K hk p0.1, p0.2⟩
    obtain ⟨-, -, -, e3, -, -, l2⟩ := rowPs p
    rw [e3, n_le (by omega) (by omega)]
    refine ⟨fun q => by omega, fun _ => ⟨W, s, c, cv, hW, hsW, rfl, hc, rfl, fun h1 o1 c1 => ⟨n_in (show t < 100 by omega) (by omega), S, ⟨CSh_V o1 p.1, p.2⟩, ?_⟩⟩⟩
    have k1 := keepC_tr hk (keepC_V o1)
    have p1 : rowP h1 S m := ⟨CSh_K k1 p0.1, p0.2⟩
    obtain ⟨-, -, -, -, e4, -, -⟩ := rowPs p1
    (try dsimp only)
    rw [n_cl (show t < 2147483648 by omega), e4 t (by omega), nI_add]
    have nx : ¬ (S.2 m t ≠ lstO (S.1 3 m) ∧ S.2 m t ≠ nI (brg W s c)) → AW M_X10_judge (.inl K) 67 [some (aR 0 0), some (aI (nI s)), some (aI (nI c)), none, none, some (aR 12 m), some (aI (nI (t + 1))), none] [] h1 0 0 := fun z => by
      refine ih (t + 1) (thr W s c) h1 (by omega) (WF_thr hW hc) (by rw [thr_10 (by omega)]; exact hsW) c1 k1 (fun h' q' => ?_)
      have := k h' q'
      rw [jd, if_neg z] at this
      exact this
    refine ⟨fun q => nx (fun z => z.1 q), fun q => ⟨n_in (show t < 100 by omega) (by omega), fun q2 => nx (fun z => z.2 q2), fun q2 => ?_⟩⟩
    have := k h1 k1
    rw [jd, if_pos ⟨q, q2⟩] at this
    exact this
theorem snd_X10_judge (a c d : Int32) {h : AH} {K : Int32 → AH → Prop} (k : S_X10_judge a c d h K) : AW M_X10_judge (.inl K) 0 [some (aR 0 0), some (aI a), some (aI c), some (aI d), none, none, none, none] [] h 0 0 := by
  obtain ⟨S, V, cs, w, cv, hw, k⟩ := k
  have h7 := hw.2.1
  unfold R_judge at k
  have out : ∀ x, x ≠ nI 0 → K x h → AW M_X10_judge (.inl K) 37 [some (aR 0 0), some (aI a), some (aI c), some (aI d), some (aI x), none, none, none] [] h 0 0 := fun x hx hk => vc_X10_judge_37 a c d x ⟨fun z => absurd z hx, fun _ => hk⟩
  have out2 : ∀ x, x ≠ nI 0 → K x h → AW M_X10_judge (.inl K) 25 [some (aR 0 0), some (aI a), some (aI c), some (aI d), some (aI x), none, none, none] [] h 0 0 := fun x hx hk => vc_X10_judge_25 a c d x ⟨fun _ => out x hx hk, fun z => absurd (Decidable.not_not.mp z) hx⟩
  refine vc_X10_judge a c d (w_if (fun q => ⟨V, cv, hw, ?_⟩) (fun q => ?_))
  case refine_2 => rw [if_pos q] at k; exact out2 _ (by decide) (k h (keepC_rfl h))
  rw [if_neg (fun z => z q)] at k
  rcases rfT_cases hw a c with ⟨n, m, hn, hm, hf, rfl, rfl, e⟩ | e
  case inr =>
    rw [if_pos e] at k
    exact out2 _ e (k h (keepC_rfl h))
  rw [if_neg (fun z => z e)] at k
  rw [e]
  refine vc_X10_judge_25 _ _ _ _ ⟨fun z => absurd (show nI 0 = 0 by decide) z, fun _ => ⟨S, cs, w, ?_⟩⟩
  rcases rwR_cases w d with ⟨l, hl, rfl, h2, e2⟩ | e2
  case inr =>
    rw [if_pos e2] at k
    exact out _ e2 (k h (keepC_rfl h))
  rw [if_neg (fun z => z e2), nN_n (show l < 2147483648 by omega), nN_n (show n < 2147483648 by omega), nN_n (show m < 2147483648 by omega)] at k
  rw [e2]
  refine vc_X10_judge_37 _ _ _ _ ⟨fun _ => ⟨n_in hl (by omega), by decide, V, cv, hw, fun h1 o1 c1 => ?_⟩, fun z => absurd (show nI 0 = 0 by decide) z⟩
  rw [n_cl (show l < 2147483648 by omega)]
  exact lp_X10_judge ⟨cs, w, hl, h2⟩ hm (S.1 4 l) 0 V h1 (by omega) hw hn c1 (keepC_V o1) k
theorem tr_X10_judge : ∀ (as : List AV) (h : AH) (K : Int32 → AH → Prop), T_X10_judge as h K → ∃ (q : Nat) (r : List AV), as = aR 0 q :: r := by
  intro as h K hk
  match as, hk with
  | [.inr (.inr (.inl q0)), .inl q1, .inl q2, .inl q3], hk =>
    obtain ⟨hb, hk⟩ := tif_inv hk
    simp only [Bool.and_eq_true] at hb
    obtain ⟨e0, e1⟩ := hb
    obtain ⟨a0, b0⟩ := q0
    have f0 : a0 = 0 := Nat.eq_of_beq_eq_true e0
    subst f0
    have f1 : b0 = 0 := Nat.eq_of_beq_eq_true e1
    subst f1
    exact ⟨_, _, rfl⟩
theorem tw_X10_judge : ∀ (as : List AV) (h : AH) (K : Int32 → AH → Prop), T_X10_judge as h K → (ini as).length ≤ mNL M_X10_judge ∧ AW M_X10_judge (.inl K) 0 (initL (mNL M_X10_judge) as) [] h 0 0 := by
  intro as h K hk
  match as, hk with
  | [.inr (.inr (.inl q0)), .inl q1, .inl q2, .inl q3], hk =>
    obtain ⟨hb, hk⟩ := tif_inv hk
    simp only [Bool.and_eq_true] at hb
    obtain ⟨e0, e1⟩ := hb
    obtain ⟨a0, b0⟩ := q0
    have f0 : a0 = 0 := Nat.eq_of_beq_eq_true e0
    subst f0
    have f1 : b0 = 0 := Nat.eq_of_beq_eq_true e1
    subst f1
    exact ⟨Nat.le_of_ble_eq_true rfl, snd_X10_judge q1 q2 q3 hk⟩


/-! ===== the world's cells ===== -/
theorem fixed_mem {t p : Nat} : (t, p) ∈ fixed ↔ t < 23 ∧ p < acnt t := by
  unfold fixed
  simp only [List.mem_flatMap, List.mem_range, List.mem_map, Prod.mk.injEq]
  constructor
  · rintro ⟨a, h1, b, h2, rfl, rfl⟩
    exact ⟨h1, h2⟩
  · rintro ⟨h1, h2⟩
    exact ⟨t, h1, p, h2, rfl, rfl⟩
theorem fixed18 {p : Nat} : (18, p) ∉ fixed := fun h => by
  have := (fixed_mem.mp h).2
  simp [acnt] at this
theorem idx_fx {h : AH} {q : Nat × Nat} (hq : q ∈ fixed) : q ∈ idx h := List.mem_append_left _ hq
theorem idx_sh {h : AH} {a : Nat} (ha : a ∈ h.2.2) : (18, a) ∈ idx h := List.mem_append_right _ (List.mem_map.mpr ⟨a, ha, rfl⟩)
theorem wl_get {G : GL} {h : AH} {q : Nat × Nat} (hq : q ∈ idx h) : ∃ j : Nat, (idx h)[j]? = some q ∧ (wl G h)[j]? = some (adr G q.1 q.2, cellE G h q.1 q.2) := by
  obtain ⟨j, hj⟩ := List.getElem?_of_mem hq
  refine ⟨j, hj, ?_⟩
  unfold wl
  rw [List.getElem?_map, hj]
  rfl
theorem wl_set {G : GL} {h h' : AH} {A : Nat → Prop} {j : Nat} {q : Nat × Nat} (hi : idx h' = idx h) (hj : (idx h)[j]? = some q) (hD : va_D A (wl G h)) (hf : ∀ q', q' ≠ q → fW G h' q' = fW G h q') : (wl G h).set j (fW G h' q) = wl G h' := by
  apply List.ext_getElem?
  intro k
  have hl : j < (wl G h).length := by
    have := (List.getElem?_eq_some_iff.mp hj).1
    unfold wl
    rw [List.length_map]
    exact this
  by_cases hk : k = j
  · subst hk
    rw [List.getElem?_set_self hl]
    unfold wl
    rw [List.getElem?_map, hi, hj]
    rfl
  · rw [List.getElem?_set_ne (Ne.symm hk)]
    unfold wl
    rw [List.getElem?_map, List.getElem?_map, hi]
    cases hq : (idx h)[k]? with
    | none => rfl
    | some q' =>
      rw [Option.map_some, Option.map_some]
      by_cases e : q' = q
      · subst e
        exact absurd (hD.1 k j (fW G h q') (fW G h q') (by unfold wl; rw [List.getElem?_map, hq]; rfl) (by unfold wl; rw [List.getElem?_map, hj]; rfl) rfl) hk
      · rw [hf q' e]
theorem adr_fx {G : GL} {t p : Nat} (h : t ≠ 18) : adr G t p = G.2.2.1 t p := by
  unfold adr
  rw [if_neg h]
theorem ty_get {G : GL} {t p : Nat} {ty : FieldType} (hq : (t, p) ∈ fixed) (ht : aty t = some ty) : ∃ j : Nat, (tysG G)[j]? = some (gac G t p, ty) := by
  refine List.getElem?_of_mem ?_
  unfold tysG
  exact List.mem_filterMap.mpr ⟨(t, p), hq, by rw [ht]; rfl⟩
/-- an object's class, by its tag -/
theorem ob_cls (h : AH) {t : Nat} (p : Nat) (ht : isob t = true) : ∃ C : String, classes[ocl h t p]? = some (C, TC t, (fl t).length) ∧ ∀ w ∈ u_ws C (TC t) (fl t).length, w ∈ lw_g := by
  have ht : t = 0 ∨ t = 1 ∨ t = 12 ∨ t = 15 ∨ t = 18 := by
    unfold isob at ht
    simp only [Bool.or_eq_true] at ht
    rcases ht with (((h | h) | h) | h) | h
    · exact Or.inl (Nat.eq_of_beq_eq_true h)
    · exact Or.inr (Or.inl (Nat.eq_of_beq_eq_true h))
    · exact Or.inr (Or.inr (Or.inl (Nat.eq_of_beq_eq_true h)))
    · exact Or.inr (Or.inr (Or.inr (Or.inl (Nat.eq_of_beq_eq_true h))))
    · exact Or.inr (Or.inr (Or.inr (Or.inr (Nat.eq_of_beq_eq_true h))))
  rcases ht with rfl | rfl | rfl | rfl | rfl
  · exact ⟨RX10, rfl, inX10⟩
  · exact ⟨RX9, rfl, inX9⟩
  · exact ⟨RX5, rfl, inX5⟩
  · exact ⟨RX11, rfl, inX11⟩
  · show ∃ C : String, classes[kcls (h.1 18 p 0)]? = some (C, TX4, 7) ∧ ∀ w ∈ u_ws C TX4 7, w ∈ lw_g
    unfold kcls
    split
    · exact ⟨RX7, rfl, inX7⟩
    split
    · exact ⟨RX2, rfl, inX2⟩
    split
    · exact ⟨RX8, rfl, inX8⟩
    split
    · exact ⟨RX3, rfl, inX3⟩
    split
    · exact ⟨RX1, rfl, inX1⟩
    split
    · exact ⟨RX6, rfl, inX6⟩
    split
    · exact ⟨RX0, rfl, inX0⟩
    · exact ⟨RX4, rfl, inX4⟩
theorem isob_kin {t : Nat} (ht : isob t = true) : t = 0 ∨ t = 1 ∨ t = 12 ∨ t = 15 ∨ t = 18 := by
  unfold isob at ht
  simp only [Bool.or_eq_true] at ht
  rcases ht with (((h | h) | h) | h) | h
  · exact Or.inl (Nat.eq_of_beq_eq_true h)
  · exact Or.inr (Or.inl (Nat.eq_of_beq_eq_true h))
  · exact Or.inr (Or.inr (Or.inl (Nat.eq_of_beq_eq_true h)))
  · exact Or.inr (Or.inr (Or.inr (Or.inl (Nat.eq_of_beq_eq_true h))))
  · exact Or.inr (Or.inr (Or.inr (Or.inr (Nat.eq_of_beq_eq_true h))))
theorem cell_ob (G : GL) (h : AH) {t : Nat} (p : Nat) (ht : isob t = true) : cellE G h t p = .inr (ocl h t p, flds G h t p) := by
  rcases isob_kin ht with rfl | rfl | rfl | rfl | rfl <;> rfl
theorem flds_get {G : GL} {h : AH} {t p k : Nat} {f : Nat × Nat × Nat} (hf : (fl t)[k]? = some f) : (flds G h t p)[k]? = some (fval G h t p k f) := by
  unfold flds
  rw [List.getElem?_map, List.getElem?_zipIdx, hf]
  simp
theorem fl_lt {t k : Nat} {f : Nat × Nat × Nat} (hf : (fl t)[k]? = some f) : k < (fl t).length := (List.getElem?_eq_some_iff.mp hf).1
theorem cell_a0 {G : GL} {h : AH} {t p : Nat} (ht : akin t = 0) : cellE G h t p = .inl (gac G t p, (alen t, .inl (h.1 t p))) := by
  unfold cellE
  simp only [ht]
theorem cell_a1 {G : GL} {h : AH} {t p : Nat} (ht : akin t = 1) : cellE G h t p = .inl (gac G t p, (alen t, .inl (h.1 t p))) := by
  unfold cellE
  simp only [ht]
theorem cell_a2 {G : GL} {h : AH} {t p : Nat} (ht : akin t = 2) : cellE G h t p = .inl (gac G t p, (alen t, .inr (.inr (.inr (.inr (h.2.1 t p)))))) := by
  unfold cellE
  simp only [ht]
theorem cell_a3 {G : GL} {h : AH} {t p : Nat} (ht : akin t = 3) : cellE G h t p = .inl (gac G t p, (alen t, .inr (.inr (.inr (.inr (fun i => some (adr G 12 i))))))) := by
  unfold cellE
  simp only [ht]
theorem inR_vp {i : Int32} {n : Nat} (h : inR i n) : vp_in i n := vp_in_iff.mpr h
/-- a cell that a write doesn't touch -/
theorem cell_eq {G : GL} {h h' : AH} {t p : Nat} (h1 : h'.1 t p = h.1 t p) (h2 : h'.2.1 t p = h.2.1 t p) (h3 : h'.1 18 p 0 = h.1 18 p 0) : cellE G h' t p = cellE G h t p := by
  unfold cellE
  rw [h1, h2]
  have ho : ocl h' t p = ocl h t p := by
    unfold ocl
    rw [h3]
  have hf : flds G h' t p = flds G h t p := by
    unfold flds
    apply List.map_congr_left
    intro q _
    unfold fval
    rw [h1, h2]
  rw [ho, hf]
theorem uI_ne {f : Nat → Nat → Nat → Int32} {t p i : Nat} {x : Int32} {a b : Nat} (hq : (a, b) ≠ (t, p)) : uI f t p i x a b = f a b := by
  funext j
  unfold uI
  rw [if_neg (fun e => hq (by rw [e.1, e.2.1]))]
theorem uR_ne {f : Nat → Nat → Nat → Option Nat} {t p i : Nat} {x : Option Nat} {a b : Nat} (hq : (a, b) ≠ (t, p)) : uR f t p i x a b = f a b := by
  funext j
  unfold uR
  rw [if_neg (fun e => hq (by rw [e.1, e.2.1]))]
theorem uC_ne {f : Nat → Nat → Nat → Int32} {t p sp t2 p2 dp n : Nat} {a b : Nat} (hq : (a, b) ≠ (t2, p2)) : uC f t p sp t2 p2 dp n a b = f a b := by
  funext j
  unfold uC
  rw [if_neg (fun e => hq (by rw [e.1, e.2.1]))]
theorem pne {t p a b : Nat} (h : t ≠ a) : (a, b) ≠ (t, p) := fun e => h (Prod.mk.inj e).1.symm
theorem cell_wI {G : GL} {h : AH} {t p i : Nat} {x : Int32} {t' p' : Nat} (ht : t ≠ 18) (hq : (t', p') ≠ (t, p)) : cellE G (wI h t p i x) t' p' = cellE G h t' p' := cell_eq (uI_ne hq) rfl (congrFun (uI_ne (pne ht)) 0)
theorem cell_wR {G : GL} {h : AH} {t p i : Nat} {x : Option Nat} {t' p' : Nat} (hq : (t', p') ≠ (t, p)) : cellE G (wR h t p i x) t' p' = cellE G h t' p' := cell_eq rfl (uR_ne hq) rfl
theorem cell_uC {G : GL} {h : AH} {t p sp t2 p2 dp n : Nat} {t' p' : Nat} (ht : t2 ≠ 18) (hq : (t', p') ≠ (t2, p2)) : cellE G (uC h.1 t p sp t2 p2 dp n, h.2) t' p' = cellE G h t' p' := cell_eq (uC_ne hq) rfl (congrFun (uC_ne (pne ht)) 0)
theorem upd_uI (f : Nat → Nat → Nat → Int32) (t p i : Nat) (x : Int32) : uI f t p i x t p = upd (f t p) i x := by
  funext j
  unfold uI upd
  by_cases h : j = i <;> simp [h]
theorem upd_uR (f : Nat → Nat → Nat → Option Nat) (t p i : Nat) (x : Option Nat) : uR f t p i x t p = va_up (f t p) i x := by
  funext j
  unfold uR va_up
  by_cases h : j = i <;> simp [h]
theorem okh_wR {h : AH} {t p i : Nat} {o : Option Nat} (k : okh h) (ho : okv h (aS o)) : okh (wR h t p i o) := by
  intro a b j c e
  have e : uR h.2.1 t p i o a b j = some c := e
  unfold uR at e
  split at e
  · subst e; exact ho
  · exact k a b j c e
/-- a field's new value in the list of fields -/
theorem flds_wI {G : GL} {h : AH} {t p k : Nat} {f : Nat × Nat × Nat} {x : Int32} (hf : (fl t)[k]? = some f) (h1 : f.1 ≠ 1) (h2 : f.1 ≠ 2) : flds G (wI h t p k x) t p = (flds G h t p).set k (.int x) := by
  apply List.ext_getElem?
  intro j
  have hlen : (flds G h t p).length = (fl t).length := by unfold flds; simp
  by_cases hj : j = k
  · subst hj
    rw [List.getElem?_set_self (by rw [hlen]; exact fl_lt hf), flds_get hf]
    unfold fval
    split
    · exact absurd (by assumption) h1
    · exact absurd (by assumption) h2
    · show some (Value.int (uI h.1 t p j x t p j)) = _
      unfold uI
      simp
  · rw [List.getElem?_set_ne (Ne.symm hj)]
    cases hg : (fl t)[j]? with
    | none =>
      rw [List.getElem?_eq_none_iff.mpr, List.getElem?_eq_none_iff.mpr]
      · rw [hlen]; exact List.getElem?_eq_none_iff.mp hg
      · have : (flds G (wI h t p k x) t p).length = (fl t).length := by unfold flds; simp
        rw [this]; exact List.getElem?_eq_none_iff.mp hg
    | some g =>
      rw [flds_get hg, flds_get hg]
      unfold fval
      split
      · rfl
      · rfl
      · show some (Value.int (uI h.1 t p k x t p j)) = _
        unfold uI
        rw [if_neg (fun e => hj e.2.2)]
theorem flds_wR {G : GL} {h : AH} {t p k : Nat} {f : Nat × Nat × Nat} {x : Option Nat} (hf : (fl t)[k]? = some f) (h2 : f.1 = 2) : flds G (wR h t p k x) t p = (flds G h t p).set k (va_rf x) := by
  apply List.ext_getElem?
  intro j
  have hlen : (flds G h t p).length = (fl t).length := by unfold flds; simp
  by_cases hj : j = k
  · subst hj
    rw [List.getElem?_set_self (by rw [hlen]; exact fl_lt hf), flds_get hf]
    unfold fval
    rw [h2]
    show some (va_rf (uR h.2.1 t p j x t p j)) = _
    unfold uR
    simp
  · rw [List.getElem?_set_ne (Ne.symm hj)]
    cases hg : (fl t)[j]? with
    | none =>
      rw [List.getElem?_eq_none_iff.mpr, List.getElem?_eq_none_iff.mpr]
      · rw [hlen]; exact List.getElem?_eq_none_iff.mp hg
      · have : (flds G (wR h t p k x) t p).length = (fl t).length := by unfold flds; simp
        rw [this]; exact List.getElem?_eq_none_iff.mp hg
    | some g =>
      rw [flds_get hg, flds_get hg]
      unfold fval
      split
      · rfl
      · show some (va_rf (uR h.2.1 t p k x t p j)) = _
        unfold uR
        rw [if_neg (fun e => hj e.2.2)]
      · rfl
theorem ocl_wI {h : AH} {t p k : Nat} {x : Int32} (ht : t ≠ 18) : ocl (wI h t p k x) t p = ocl h t p := by
  unfold ocl
  rw [show (wI h t p k x).1 18 p 0 = h.1 18 p 0 from congrFun (uI_ne (pne ht)) 0]

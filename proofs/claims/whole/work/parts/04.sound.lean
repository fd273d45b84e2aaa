/-! ===== soundness of a step ===== -/
theorem pI_inv {st : List AV} {k : Int32 → List AV → Prop} (h : pI st k) : ∃ x r, st = aI x :: r ∧ k x r := by
  match st, h with
  | .inl x :: r, h => exact ⟨x, r, rfl, h⟩
theorem pL_inv {st : List AV} {k : Int64 → List AV → Prop} (h : pL st k) : ∃ x r, st = aL x :: r ∧ k x r := by
  match st, h with
  | .inr (.inl x) :: r, h => exact ⟨x, r, rfl, h⟩
theorem pR_inv {st : List AV} {k : Nat → Nat → List AV → Prop} (h : pR st k) : ∃ t p r, st = aR t p :: r ∧ k t p r := by
  match st, h with
  | .inr (.inr (.inl q)) :: r, h => exact ⟨q.1, q.2, r, rfl, h⟩
theorem pO_inv {st : List AV} {k : Option Nat → List AV → Prop} (h : pO st k) : ∃ o r, st = aS o :: r ∧ k o r := by
  match st, h with
  | .inr (.inr (.inr o)) :: r, h => exact ⟨o, r, rfl, h⟩
theorem pA_inv {st : List AV} {k : AV → List AV → Prop} (h : pA st k) : ∃ v r, st = (.inr (.inr v) : AV) :: r ∧ k (.inr (.inr v)) r := by
  match st, h with
  | .inr (.inr v) :: r, h => exact ⟨v, r, rfl, h⟩
theorem p1_inv {st : List AV} {k : AV → List AV → Prop} (h : p1 st k) : ∃ v r, st = v :: r ∧ acat v = 1 ∧ k v r := by
  match st, h with
  | v :: r, h =>
    unfold p1 at h
    cases hb : Nat.beq (acat v) 1 with
    | true => simp only [hb] at h; exact ⟨v, r, rfl, Nat.eq_of_beq_eq_true hb, h⟩
    | false => simp only [hb] at h
theorem tif_inv {b : Bool} {P : Prop} (h : tif b P) : b = true ∧ P := by
  cases b with
  | true => exact ⟨rfl, h⟩
  | false => exact h.elim
theorem gI_inv {L : LSt} {i : Nat} {k : Int32 → Prop} (h : gI L i k) : ∃ x, nth L i = some (aI x) ∧ k x := by
  unfold gI at h
  split at h
  · exact ⟨_, by assumption, h⟩
  · exact h.elim
theorem gL_inv {L : LSt} {i : Nat} {k : Int64 → Prop} (h : gL L i k) : ∃ x, nth L i = some (aL x) ∧ k x := by
  unfold gL at h
  split at h
  · exact ⟨_, by assumption, h⟩
  · exact h.elim
theorem gA_inv {L : LSt} {i : Nat} {k : AV → Prop} (h : gA L i k) : ∃ x, nth L i = some (.inr (.inr x)) ∧ k (.inr (.inr x)) := by
  unfold gA at h
  split at h
  · exact ⟨_, by assumption, h⟩
  · exact h.elim
theorem lkp_mem {α : Type} {l : List (Nat × α)} {n : Nat} {x : α} (h : lkp l n = some x) : (n, x) ∈ l := by
  induction l with
  | nil => cases h
  | cons q l ih =>
    unfold lkp at h
    cases hb : Nat.beq q.1 n with
    | true =>
      simp only [hb] at h
      cases h
      have := Nat.eq_of_beq_eq_true hb
      subst this
      exact List.mem_cons_self
    | false =>
      simp only [hb] at h
      exact List.mem_cons_of_mem _ (ih h)
/-- a receiver: the tag is that of the field, the cell is there -/
theorem pX_inv {t : Nat} {st : List AV} {k : Nat → List AV → Prop} (h : pX t st k) : ∃ (v : AV) (p : Nat) (r : List AV), st = v :: r ∧ k p r ∧ (v = aR t p ∨ (t = 18 ∧ v = aS (some p))) := by
  match st, h with
  | .inr (.inr (.inl q)) :: r, h =>
    have h2 : (match Nat.beq q.1 t with
      | true => k q.2 r
      | false => False) := h
    clear h
    generalize hb : Nat.beq q.1 t = b at h2
    cases b with
    | true =>
      have := Nat.eq_of_beq_eq_true hb
      subst this
      exact ⟨_, q.2, r, rfl, h2, Or.inl rfl⟩
    | false => exact h2.elim
  | .inr (.inr (.inr o)) :: r, h =>
    have h2 : (match Nat.beq t 18 with
      | true => oE o (fun a => k a r)
      | false => False) := h
    clear h
    generalize hb : Nat.beq t 18 = b at h2
    cases b with
    | true =>
      cases o with
      | none => exact h2.elim
      | some a => exact ⟨_, a, r, rfl, h2, Or.inr ⟨Nat.eq_of_beq_eq_true hb, rfl⟩⟩
    | false => exact h2.elim
theorem okSt_t {h : AH} {v : AV} {r : List AV} (k : okSt h (v :: r)) : okSt h r := fun w hw => k w (List.mem_cons_of_mem _ hw)
theorem okSt_h {h : AH} {v : AV} {r : List AV} (k : okSt h (v :: r)) : okv h v := k v List.mem_cons_self
theorem okSt_c {h : AH} {v : AV} {r : List AV} (hv : okv h v) (k : okSt h r) : okSt h (v :: r) := fun w hw => (List.mem_cons.mp hw).elim (fun e => e ▸ hv) (k w)
theorem okSt_i {h : AH} {x : Int32} {r : List AV} (k : okSt h r) : okSt h (aI x :: r) := okSt_c trivial k
theorem okSt_l {h : AH} {x : Int64} {r : List AV} (k : okSt h r) : okSt h (aL x :: r) := okSt_c trivial k
theorem okv_mono {h h' : AH} (hs : ∀ a ∈ h.2.2, a ∈ h'.2.2) {v : AV} (k : okv h v) : okv h' v := by
  match v, k with
  | .inl _, _ => trivial
  | .inr (.inl _), _ => trivial
  | .inr (.inr (.inl _)), k => exact k
  | .inr (.inr (.inr none)), _ => trivial
  | .inr (.inr (.inr (some a))), k => exact hs a k
theorem nth_lt {L : LSt} {i : Nat} {v : AV} (h : nth L i = some v) : i < L.length := by
  induction L generalizing i with
  | nil => cases h
  | cons a l ih =>
    cases i with
    | zero => simp
    | succ i => have := ih h; simp; omega
theorem setL_len (L : LSt) (i : Nat) (v : Option AV) : (setL L i v).length = L.length := by
  induction L generalizing i with
  | nil => rfl
  | cons a l ih =>
    cases i with
    | zero => rfl
    | succ i => simp [setL, ih]
theorem nth_setL (L : LSt) (i j : Nat) (v : Option AV) : nth (setL L i v) j = if j = i ∧ i < L.length then v else nth L j := by
  induction L generalizing i j with
  | nil => simp [setL, nth]
  | cons a l ih =>
    cases i with
    | zero =>
      cases j with
      | zero => simp [setL, nth]
      | succ j => simp [setL, nth]
    | succ i =>
      cases j with
      | zero => simp [setL, nth]
      | succ j => simp [setL, nth, ih]
theorem cvL_mem {G : GL} {L : LSt} {q : Nat × Value} : q ∈ cvL G L ↔ ∃ v, nth L q.1 = some v ∧ q.2 = cv G v := by
  unfold cvL
  rw [List.mem_filterMap]
  constructor
  · rintro ⟨i, -, h⟩
    cases hn : nth L i with
    | none => rw [hn] at h; cases h
    | some v => rw [hn] at h; cases h; exact ⟨v, hn, rfl⟩
  · rintro ⟨v, h1, h2⟩
    refine ⟨q.1, List.mem_range.mpr (nth_lt h1), ?_⟩
    rw [h1, Option.map_some, ← h2]
theorem cvL_at {G : GL} {L : LSt} {ls : Array Slot} {nL i : Nat} {v : AV} (hl : lv_has ls nL (cvL G L)) (h : nth L i = some v) : ls[i]? = some (.val (cv G v)) := hl.2.2 (i, cv G v) (cvL_mem.mpr ⟨v, h, rfl⟩)
theorem cv_cat (G : GL) (v : AV) : (cv G v).category = acat v := by
  match v with
  | .inl _ => rfl
  | .inr (.inl _) => rfl
  | .inr (.inr (.inl _)) => rfl
  | .inr (.inr (.inr none)) => rfl
  | .inr (.inr (.inr (some _))) => rfl
theorem cats_map (G : GL) (st : List AV) : ((st.map (cv G)).map fun v => v.category).sum = cats st := by
  induction st with
  | nil => rfl
  | cons v r ih => simp only [List.map_cons, List.sum_cons, cats, cv_cat, ih]
theorem stL_len (L : LSt) (i : Nat) (v : Option AV) : (stL L i v).length = L.length := by
  unfold stL
  split
  · exact setL_len ..
  · split
    · rw [setL_len, setL_len]
    · rw [setL_len]
/-- what is still there behind a store -/
theorem nth_stL {L : LSt} {i j : Nat} {v : Option AV} {w : AV} (hn : nth (stL L i v) j = some w) : (j = i ∧ v = some w ∧ i < L.length) ∨ (j ≠ i ∧ nth L j = some w ∧ ¬ (j + 1 = i ∧ acat w = 2)) ∨ (j = i ∧ ¬ i < L.length) := by
  by_cases hl : i < L.length
  case neg =>
    by_cases hj : j = i
    · exact Or.inr (Or.inr ⟨hj, hl⟩)
    refine Or.inr (Or.inl ⟨hj, ?_⟩)
    cases i with
    | zero =>
      simp only [stL, nth_setL] at hn
      rw [if_neg (by omega)] at hn
      exact ⟨hn, by omega⟩
    | succ i =>
      unfold stL at hn
      simp only at hn
      split at hn
      · rename_i x hx
        simp only [nth_setL, setL_len] at hn
        rw [if_neg (by omega)] at hn
        split at hn
        · cases hn
        · exact ⟨hn, by have := nth_lt hn; omega⟩
      · rename_i hx
        simp only [nth_setL] at hn
        rw [if_neg (by omega)] at hn
        refine ⟨hn, fun ⟨h1, h2⟩ => ?_⟩
        have : j = i := by omega
        subst this
        match w, hn, h2 with
        | .inr (.inl x), hn, _ => exact hx x hn
  case pos =>
    by_cases hj : j = i
    · subst hj
      refine Or.inl ⟨rfl, ?_, hl⟩
      cases j with
      | zero =>
        simp only [stL, nth_setL] at hn
        rw [if_pos ⟨trivial, hl⟩] at hn
        exact hn
      | succ i =>
        unfold stL at hn
        simp only at hn
        split at hn
        · simp only [nth_setL, setL_len] at hn
          rw [if_pos ⟨trivial, hl⟩] at hn
          exact hn
        · simp only [nth_setL] at hn
          rw [if_pos ⟨trivial, hl⟩] at hn
          exact hn
    · refine Or.inr (Or.inl ⟨hj, ?_⟩)
      cases i with
      | zero =>
        simp only [stL, nth_setL] at hn
        rw [if_neg (by omega)] at hn
        exact ⟨hn, by omega⟩
      | succ i =>
        unfold stL at hn
        simp only at hn
        split at hn
        · rename_i x hx
          simp only [nth_setL, setL_len] at hn
          rw [if_neg (by omega)] at hn
          split at hn
          · cases hn
          · exact ⟨hn, by have := nth_lt hn; omega⟩
        · rename_i hx
          simp only [nth_setL] at hn
          rw [if_neg (by omega)] at hn
          refine ⟨hn, fun ⟨h1, h2⟩ => ?_⟩
          have : j = i := by omega
          subst this
          match w, hn, h2 with
          | .inr (.inl x), hn, _ => exact hx x hn
theorem okLs_st {h : AH} {L : LSt} {i : Nat} {v : AV} (hL : okLs h L) (hv : okv h v) : okLs h (stL L i (some v)) := by
  intro j w hw
  rcases nth_stL hw with ⟨_, h2, _⟩ | ⟨_, h2, _⟩ | ⟨h1, h2⟩
  · cases h2; exact hv
  · exact hL j w h2
  · exact absurd (nth_lt hw) (by rw [stL_len]; omega)
theorem lv_st {G : GL} {L : LSt} {ls : Array Slot} {nL i : Nat} {v : AV} (hl : lv_has ls nL ((i, cv G v) :: (cvL G L).filter (fun q => !(q.1 == i) && !(q.1 + 1 == i && q.2.category == 2)))) : lv_has ls nL (cvL G (stL L i (some v))) := by
  refine ⟨hl.1, hl.2.1, fun q hq => hl.2.2 q ?_⟩
  obtain ⟨w, h1, h2⟩ := cvL_mem.mp hq
  rcases nth_stL h1 with ⟨h3, h4, _⟩ | ⟨h3, h4, h5⟩ | ⟨h3, h4⟩
  · cases h4
    rw [← h3, ← h2]
    exact List.mem_cons_self
  · refine List.mem_cons_of_mem _ (List.mem_filter.mpr ⟨cvL_mem.mpr ⟨w, h4, h2⟩, ?_⟩)
    simp only [h2, cv_cat, Bool.and_eq_true, Bool.not_eq_true', beq_eq_false_iff_ne, ne_eq, Bool.and_eq_false_imp, beq_iff_eq]
    exact ⟨h3, fun e1 => fun e2 => h5 ⟨e1, e2⟩⟩
  · exact absurd (nth_lt h1) (by rw [stL_len]; omega)
theorem okLs_st2 {h : AH} {L : LSt} {i : Nat} {v : AV} (hL : okLs h L) (hv : okv h v) : okLs h (setL (stL L i (some v)) (i + 1) none) := by
  intro j w hw
  rw [nth_setL] at hw
  split at hw
  · cases hw
  · exact okLs_st hL hv j w hw
theorem lv_st2 {G : GL} {L : LSt} {ls : Array Slot} {nL i : Nat} {v : AV} (hL : L.length = nL) (hi : i + 1 < nL) (hl : lv_has ls nL ((i, cv G v) :: (cvL G L).filter (fun q => !(q.1 == i) && (!(q.1 == i + 1) && !(q.1 + 1 == i && q.2.category == 2))))) : lv_has ls nL (cvL G (setL (stL L i (some v)) (i + 1) none)) := by
  refine ⟨hl.1, hl.2.1, fun q hq => hl.2.2 q ?_⟩
  obtain ⟨w, h1, h2⟩ := cvL_mem.mp hq
  rw [nth_setL] at h1
  split at h1
  · cases h1
  · rename_i hne
    rw [stL_len] at hne
    have hne : q.1 ≠ i + 1 := fun e => hne ⟨e, by omega⟩
    rcases nth_stL h1 with ⟨h3, h4, _⟩ | ⟨h3, h4, h5⟩ | ⟨h3, h4⟩
    · cases h4
      rw [← h3, ← h2]
      exact List.mem_cons_self
    · refine List.mem_cons_of_mem _ (List.mem_filter.mpr ⟨cvL_mem.mpr ⟨w, h4, h2⟩, ?_⟩)
      simp only [h2, cv_cat, Bool.and_eq_true, Bool.not_eq_true', beq_eq_false_iff_ne, ne_eq, Bool.and_eq_false_imp, beq_iff_eq]
      exact ⟨h3, hne, fun e1 => fun e2 => h5 ⟨e1, e2⟩⟩
    · omega

/-! ===== a valley as numbers ===== -/
abbrev Vm : Type := Nat → Nat → Nat
def uV (V : Vm) (t i x : Nat) : Vm := fun a j => if a = t ∧ j = i then x else V a j
/-- where a number of the valley stands in the reference's row -/
def ro (t i : Nat) : Nat := match t with
  | 0 => 4 + 3 * i + 0
  | 1 => 4 + 3 * i + 1
  | 2 => 4 + 3 * i + 2
  | 3 => 44 + i
  | 4 => 28 + 4 * i + 0
  | 5 => 28 + 4 * i + 1
  | 6 => 28 + 4 * i + 2
  | 7 => 28 + 4 * i + 3
  | 8 => 48 + 2 * i
  | 9 => 48 + 2 * i + 1
  | _ => i
def vLim (V : Vm) (t : Nat) : Nat := match t with
  | 0 => 8
  | 1 => 8
  | 2 => 8
  | 3 => 4
  | 4 => V 10 0
  | 5 => V 10 0
  | 6 => V 10 0
  | 7 => V 10 0
  | 8 => V 10 1
  | 9 => V 10 1
  | 10 => 4
  | _ => 0
def RV (r : Nat → Int32) (V : Vm) : Prop := ∀ t i, i < vLim V t → r (ro t i) = nI (V t i)
def WF (V : Vm) : Prop := V 10 0 ≤ 4 ∧ V 10 1 ≤ 7 ∧ V 10 2 < 24 ∧ V 10 3 ≤ 1 ∧ (∀ c, c < 8 → V 0 c ≤ 9 ∧ V 1 c ≤ 9 ∧ V 2 c ≤ 9) ∧ (∀ e, e < V 10 0 → V 4 e ≤ 30 ∧ V 5 e ≤ 9 ∧ V 6 e ≤ 3 ∧ V 7 e ≤ 9) ∧ ∀ s, s < V 10 1 → V 8 s ≤ 7 ∧ V 9 s ≤ 9
def wt (k f : Nat) : Nat := if k = 1 ∨ k = 4 ∨ k = 6 then 3 + f else if k = 2 then 10 + f else if k = 3 then 18 + f else if k = 5 then 20 + 2 * f else if k = 7 then 2 else 6 + f
def stk (k f : Nat) : Nat := if k = 1 ∨ k = 6 then f / 3 else if k = 2 ∨ k = 3 then 3 + f / 3 else if k = 5 then 6 + 2 * (f / 3) else if k = 7 then 0 else 1 + f / 3
def fly (k : Nat) : Nat := if k = 1 ∨ k = 4 then 6 else if k = 2 ∨ k = 3 then 3 else if k = 5 then 2 else if k = 6 ∨ k = 7 then 7 else 4
def prc (k f : Nat) : Nat := if k = 1 then 3 else if k = 2 then 5 + f else if k = 3 then 25 + f else if k = 4 then 4 else if k = 5 then 10 + 2 * f else if k = 6 then 0 else if k = 7 then 1 else 5
def cstk (k f : Nat) : Nat := if k = 1 then 2 else if k = 2 then 3 + f else if k = 3 then 6 + 2 * f else if k = 4 then 6 else if k = 5 then 4 + f else if k = 6 ∨ k = 7 then 1 else 3
abbrev vWt (V : Vm) (s : Nat) : Nat := wt (V 8 s) (V 9 s)
abbrev vSt (V : Vm) (s : Nat) : Nat := stk (V 8 s) (V 9 s)
abbrev vFl (V : Vm) (s : Nat) : Nat := fly (V 8 s)
abbrev vPr (V : Vm) (s : Nat) : Nat := prc (V 8 s) (V 9 s)
theorem wt_le {k f : Nat} (h : f ≤ 9) : wt k f ≤ 38 := by unfold wt; (repeat' split) <;> omega
theorem stk_le {k f : Nat} (h : f ≤ 9) : stk k f ≤ 12 := by unfold stk; (repeat' split) <;> omega
theorem fly_le (k : Nat) : fly k ≤ 7 := by unfold fly; (repeat' split) <;> omega
theorem prc_le {k f : Nat} (h : f ≤ 9) : prc k f ≤ 34 := by unfold prc; (repeat' split) <;> omega
/-! ===== numbers ===== -/
theorem n_le {a b : Nat} (ha : a < 2147483648) (hb : b < 2147483648) : nI a ≤ nI b ↔ a ≤ b := nI_leI ha hb
theorem n_lt {a b : Nat} (ha : a < 2147483648) (hb : b < 2147483648) : nI a < nI b ↔ a < b := nI_ltI ha hb
theorem n_eq {a b : Nat} (ha : a < 2147483648) (hb : b < 2147483648) : nI a = nI b ↔ a = b := nI_eq ha hb
theorem n_cl {a : Nat} (ha : a < 2147483648) : (nI a).toNatClampNeg = a := nI_clamp ha
theorem n_in {a n : Nat} (h : a < n) (hn : n < 2147483648) : inR (nI a) n := vp_in_iff.mp (vp_in_nI h hn)
theorem n_0 : (0 : Int32) = nI 0 := rfl
theorem n_1 : (1 : Int32) = nI 1 := rfl
theorem n_div {a d : Nat} (ha : a < 2147483648) (h0 : 0 < d) (hd : d < 2147483648) : nI a / nI d = nI (a / d) := pk_div ha h0 hd
theorem n_rem {a d : Nat} (ha : a < 2147483648) (h0 : 0 < d) (hd : d < 2147483648) : nI a - nI a / nI d * nI d = nI (a % d) := pk_rem ha h0 hd
theorem n_sub {a b : Nat} (h : b ≤ a) : nI a - nI b = nI (a - b) := pk_sub h
/-- an int that is not negative and at most n -/
theorem n_of {x : Int32} {n : Nat} (hn : n < 2147483648) (h0 : nI 0 ≤ x) (h1 : x ≤ nI n) : ∃ k, k ≤ n ∧ x = nI k := by
  have h0 : ¬ x < 0 := by
    intro hx
    have h2 : (nI 0).toInt ≤ x.toInt := Int32.le_iff_toInt_le.mp h0
    have h3 : x.toInt < (0 : Int32).toInt := Int32.lt_iff_toInt_lt.mp hx
    have : (nI 0).toInt = (0 : Int32).toInt := rfl
    omega
  obtain ⟨j, hj, e⟩ := nI_of h0
  subst e
  exact ⟨j, (n_le hj hn).mp h1, rfl⟩
theorem n_neg {x : Int32} {k : Nat} (hk : k < 2147483648) (h : ¬ nI 0 ≤ x) : x ≠ nI k ∧ ¬ nI k ≤ x := by
  have h2 : ¬ (nI 0).toInt ≤ x.toInt := fun q => h (Int32.le_iff_toInt_le.mpr q)
  have h0 : (nI 0).toInt = 0 := nI_toInt (by decide)
  have hk2 : (nI k).toInt = k := nI_toInt hk
  constructor
  · intro e
    rw [e, hk2, h0] at h2
    omega
  · intro e
    have := Int32.le_iff_toInt_le.mp e
    rw [hk2] at this
    rw [h0] at h2
    omega
theorem n00 : nI 0 = 0 := rfl
theorem n11 : nI 1 = 1 := rfl
theorem n_inT {a n : Nat} (h : a < n) (hn : n < 2147483648) : inR (nI a) n = True := eq_true (n_in h hn)
theorem n_eq0 {a : Nat} (ha : a < 2147483648) : (nI a = 0) = (a = 0) := propext (n_eq (b := 0) ha (by omega))
theorem n_eq1 {a : Nat} (ha : a < 2147483648) : (nI a = 1) = (a = 1) := propext (n_eq (b := 1) ha (by omega))
theorem n_lt0 {a : Nat} (ha : a < 2147483648) : (nI a < 0) = False := eq_false (fun q => by have := (n_lt (b := 0) ha (by omega)).mp q; omega)
theorem n_ge0 {a : Nat} (ha : a < 2147483648) : (0 ≤ nI a) = True := eq_true ((n_le (a := 0) (by omega) ha).mpr (by omega))
theorem n_gt0 {a : Nat} (ha : a < 2147483648) : (0 < nI a) = (0 < a) := propext (n_lt (a := 0) (by omega) ha)
theorem n_le0 {a : Nat} (ha : a < 2147483648) : (nI a ≤ 0) = (a = 0) := propext ((n_le (b := 0) ha (by omega)).trans (by omega))
theorem n_toInt {a : Nat} (ha : a < 2147483648) : (nI a).toInt = (a : Int) := nI_toInt ha
/-- small negative numbers -/
theorem m_lt {a : Int} (h : -2147483648 ≤ a) (h2 : a < 0) : iI a < 0 := by
  rw [Int32.lt_iff_toInt_lt, Int32.toInt_ofInt_of_le (by omega) (by omega)]
  exact h2
theorem m_ne {a : Int} {k : Nat} (h : -2147483648 ≤ a) (h2 : a < 0) (hk : k < 2147483648) : (nI k = iI a) = False := eq_false (fun e => by
  have h3 := m_lt h h2
  rw [← e, n_lt0 hk] at h3
  exact h3)
/-! ===== the world's reads behind writes ===== -/
theorem wI_get (h : AH) (t p i : Nat) (x : Int32) (a b j : Nat) : (wI h t p i x).1 a b j = if a = t ∧ b = p ∧ j = i then x else h.1 a b j := rfl
theorem wI_at (h : AH) (t p i : Nat) (x : Int32) : (wI h t p i x).1 t p i = x := by rw [wI_get, if_pos ⟨rfl, rfl, rfl⟩]
theorem wI_ni {h : AH} {t p i : Nat} {x : Int32} {a b j : Nat} (hn : j ≠ i) : (wI h t p i x).1 a b j = h.1 a b j := by rw [wI_get, if_neg (fun e => hn e.2.2)]
theorem wI_nt {h : AH} {t p i : Nat} {x : Int32} {a b j : Nat} (hn : a ≠ t) : (wI h t p i x).1 a b j = h.1 a b j := by rw [wI_get, if_neg (fun e => hn e.1)]
theorem wI_np {h : AH} {t p i : Nat} {x : Int32} {a b j : Nat} (hn : b ≠ p) : (wI h t p i x).1 a b j = h.1 a b j := by rw [wI_get, if_neg (fun e => hn e.2.1)]
theorem wR_get (h : AH) (t p i : Nat) (x : Option Nat) (a b j : Nat) : (wR h t p i x).2.1 a b j = if a = t ∧ b = p ∧ j = i then x else h.2.1 a b j := rfl
/-- only the array (t, p) is another -/
def only (t p : Nat) (h h' : AH) : Prop := h'.2 = h.2 ∧ ∀ a b, ¬ (a = t ∧ b = p) → h'.1 a b = h.1 a b
theorem only_rfl (t p : Nat) (h : AH) : only t p h h := ⟨rfl, fun _ _ _ => rfl⟩
theorem only_tr {t p : Nat} {h h1 h2 : AH} (a : only t p h h1) (b : only t p h1 h2) : only t p h h2 := ⟨b.1.trans a.1, fun x y q => (b.2 x y q).trans (a.2 x y q)⟩
theorem only_wI (t p i : Nat) (x : Int32) (h : AH) : only t p h (wI h t p i x) := ⟨rfl, fun a b q => uI_ne (fun e => q ⟨(Prod.mk.inj e).1, (Prod.mk.inj e).2⟩)⟩
/-! ===== rows that hold a valley ===== -/
theorem uV_at (V : Vm) (t i x : Nat) : uV V t i x t i = x := by unfold uV; rw [if_pos ⟨rfl, rfl⟩]
theorem uV_ne {V : Vm} {t i x a j : Nat} (h : ¬ (a = t ∧ j = i)) : uV V t i x a j = V a j := by unfold uV; rw [if_neg h]
theorem vLim_u {V : Vm} {t i x : Nat} (h : t ≠ 10 ∨ 2 ≤ i) (a : Nat) : vLim (uV V t i x) a = vLim V a := by
  unfold vLim
  rw [uV_ne (by omega), uV_ne (by omega)]
theorem vLim_c {V V' : Vm} (h0 : V' 10 0 = V 10 0) (h1 : V' 10 1 = V 10 1) (a : Nat) : vLim V' a = vLim V a := by
  unfold vLim
  rw [h0, h1]
theorem ro_inj {V : Vm} (h4 : V 10 0 ≤ 4) (h7 : V 10 1 ≤ 7) {t i a j : Nat} (hi : i < vLim V t) (hj : j < vLim V a) (e : ro t i = ro a j) : t = a ∧ i = j := by
  have ht : t ≤ 10 := by
    rcases Nat.lt_or_ge 10 t with h | h
    · unfold vLim at hi; split at hi <;> omega
    · exact h
  have ha : a ≤ 10 := by
    rcases Nat.lt_or_ge 10 a with h | h
    · unfold vLim at hj; split at hj <;> omega
    · exact h
  match t, ht, a, ha with
  | 0, _, 0, _ => simp only [ro, vLim] at hi hj e; omega
  | 0, _, 1, _ => simp only [ro, vLim] at hi hj e; omega
  | 0, _, 2, _ => simp only [ro, vLim] at hi hj e; omega
  | 0, _, 3, _ => simp only [ro, vLim] at hi hj e; omega
  | 0, _, 4, _ => simp only [ro, vLim] at hi hj e; omega
  | 0, _, 5, _ => simp only [ro, vLim] at hi hj e; omega
  | 0, _, 6, _ => simp only [ro, vLim] at hi hj e; omega
  | 0, _, 7, _ => simp only [ro, vLim] at hi hj e; omega
  | 0, _, 8, _ => simp only [ro, vLim] at hi hj e; omega
  | 0, _, 9, _ => simp only [ro, vLim] at hi hj e; omega
  | 0, _, 10, _ => simp only [ro, vLim] at hi hj e; omega
  | 1, _, 0, _ => simp only [ro, vLim] at hi hj e; omega
  | 1, _, 1, _ => simp only [ro, vLim] at hi hj e; omega
  | 1, _, 2, _ => simp only [ro, vLim] at hi hj e; omega
  | 1, _, 3, _ => simp only [ro, vLim] at hi hj e; omega
  | 1, _, 4, _ => simp only [ro, vLim] at hi hj e; omega
  | 1, _, 5, _ => simp only [ro, vLim] at hi hj e; omega
  | 1, _, 6, _ => simp only [ro, vLim] at hi hj e; omega
  | 1, _, 7, _ => simp only [ro, vLim] at hi hj e; omega
  | 1, _, 8, _ => simp only [ro, vLim] at hi hj e; omega
  | 1, _, 9, _ => simp only [ro, vLim] at hi hj e; omega
  | 1, _, 10, _ => simp only [ro, vLim] at hi hj e; omega
  | 2, _, 0, _ => simp only [ro, vLim] at hi hj e; omega
  | 2, _, 1, _ => simp only [ro, vLim] at hi hj e; omega
  | 2, _, 2, _ => simp only [ro, vLim] at hi hj e; omega
  | 2, _, 3, _ => simp only [ro, vLim] at hi hj e; omega
  | 2, _, 4, _ => simp only [ro, vLim] at hi hj e; omega
  | 2, _, 5, _ => simp only [ro, vLim] at hi hj e; omega
  | 2, _, 6, _ => simp only [ro, vLim] at hi hj e; omega
  | 2, _, 7, _ => simp only [ro, vLim] at hi hj e; omega
  | 2, _, 8, _ => simp only [ro, vLim] at hi hj e; omega
  | 2, _, 9, _ => simp only [ro, vLim] at hi hj e; omega
  | 2, _, 10, _ => simp only [ro, vLim] at hi hj e; omega
  | 3, _, 0, _ => simp only [ro, vLim] at hi hj e; omega
  | 3, _, 1, _ => simp only [ro, vLim] at hi hj e; omega
  | 3, _, 2, _ => simp only [ro, vLim] at hi hj e; omega
  | 3, _, 3, _ => simp only [ro, vLim] at hi hj e; omega
  | 3, _, 4, _ => simp only [ro, vLim] at hi hj e; omega
  | 3, _, 5, _ => simp only [ro, vLim] at hi hj e; omega
  | 3, _, 6, _ => simp only [ro, vLim] at hi hj e; omega
  | 3, _, 7, _ => simp only [ro, vLim] at hi hj e; omega
  | 3, _, 8, _ => simp only [ro, vLim] at hi hj e; omega
  | 3, _, 9, _ => simp only [ro, vLim] at hi hj e; omega
  | 3, _, 10, _ => simp only [ro, vLim] at hi hj e; omega
  | 4, _, 0, _ => simp only [ro, vLim] at hi hj e; omega
  | 4, _, 1, _ => simp only [ro, vLim] at hi hj e; omega
  | 4, _, 2, _ => simp only [ro, vLim] at hi hj e; omega
  | 4, _, 3, _ => simp only [ro, vLim] at hi hj e; omega
  | 4, _, 4, _ => simp only [ro, vLim] at hi hj e; omega
  | 4, _, 5, _ => simp only [ro, vLim] at hi hj e; omega
  | 4, _, 6, _ => simp only [ro, vLim] at hi hj e; omega
  | 4, _, 7, _ => simp only [ro, vLim] at hi hj e; omega
  | 4, _, 8, _ => simp only [ro, vLim] at hi hj e; omega
  | 4, _, 9, _ => simp only [ro, vLim] at hi hj e; omega
  | 4, _, 10, _ => simp only [ro, vLim] at hi hj e; omega
  | 5, _, 0, _ => simp only [ro, vLim] at hi hj e; omega
  | 5, _, 1, _ => simp only [ro, vLim] at hi hj e; omega
  | 5, _, 2, _ => simp only [ro, vLim] at hi hj e; omega
  | 5, _, 3, _ => simp only [ro, vLim] at hi hj e; omega
  | 5, _, 4, _ => simp only [ro, vLim] at hi hj e; omega
  | 5, _, 5, _ => simp only [ro, vLim] at hi hj e; omega
  | 5, _, 6, _ => simp only [ro, vLim] at hi hj e; omega
  | 5, _, 7, _ => simp only [ro, vLim] at hi hj e; omega
  | 5, _, 8, _ => simp only [ro, vLim] at hi hj e; omega
  | 5, _, 9, _ => simp only [ro, vLim] at hi hj e; omega
  | 5, _, 10, _ => simp only [ro, vLim] at hi hj e; omega
  | 6, _, 0, _ => simp only [ro, vLim] at hi hj e; omega
  | 6, _, 1, _ => simp only [ro, vLim] at hi hj e; omega
  | 6, _, 2, _ => simp only [ro, vLim] at hi hj e; omega
  | 6, _, 3, _ => simp only [ro, vLim] at hi hj e; omega
  | 6, _, 4, _ => simp only [ro, vLim] at hi hj e; omega
  | 6, _, 5, _ => simp only [ro, vLim] at hi hj e; omega
  | 6, _, 6, _ => simp only [ro, vLim] at hi hj e; omega
  | 6, _, 7, _ => simp only [ro, vLim] at hi hj e; omega
  | 6, _, 8, _ => simp only [ro, vLim] at hi hj e; omega
  | 6, _, 9, _ => simp only [ro, vLim] at hi hj e; omega
  | 6, _, 10, _ => simp only [ro, vLim] at hi hj e; omega
  | 7, _, 0, _ => simp only [ro, vLim] at hi hj e; omega
  | 7, _, 1, _ => simp only [ro, vLim] at hi hj e; omega
  | 7, _, 2, _ => simp only [ro, vLim] at hi hj e; omega
  | 7, _, 3, _ => simp only [ro, vLim] at hi hj e; omega
  | 7, _, 4, _ => simp only [ro, vLim] at hi hj e; omega
  | 7, _, 5, _ => simp only [ro, vLim] at hi hj e; omega
  | 7, _, 6, _ => simp only [ro, vLim] at hi hj e; omega
  | 7, _, 7, _ => simp only [ro, vLim] at hi hj e; omega
  | 7, _, 8, _ => simp only [ro, vLim] at hi hj e; omega
  | 7, _, 9, _ => simp only [ro, vLim] at hi hj e; omega
  | 7, _, 10, _ => simp only [ro, vLim] at hi hj e; omega
  | 8, _, 0, _ => simp only [ro, vLim] at hi hj e; omega
  | 8, _, 1, _ => simp only [ro, vLim] at hi hj e; omega
  | 8, _, 2, _ => simp only [ro, vLim] at hi hj e; omega
  | 8, _, 3, _ => simp only [ro, vLim] at hi hj e; omega
  | 8, _, 4, _ => simp only [ro, vLim] at hi hj e; omega
  | 8, _, 5, _ => simp only [ro, vLim] at hi hj e; omega
  | 8, _, 6, _ => simp only [ro, vLim] at hi hj e; omega
  | 8, _, 7, _ => simp only [ro, vLim] at hi hj e; omega
  | 8, _, 8, _ => simp only [ro, vLim] at hi hj e; omega
  | 8, _, 9, _ => simp only [ro, vLim] at hi hj e; omega
  | 8, _, 10, _ => simp only [ro, vLim] at hi hj e; omega
  | 9, _, 0, _ => simp only [ro, vLim] at hi hj e; omega
  | 9, _, 1, _ => simp only [ro, vLim] at hi hj e; omega
  | 9, _, 2, _ => simp only [ro, vLim] at hi hj e; omega
  | 9, _, 3, _ => simp only [ro, vLim] at hi hj e; omega
  | 9, _, 4, _ => simp only [ro, vLim] at hi hj e; omega
  | 9, _, 5, _ => simp only [ro, vLim] at hi hj e; omega
  | 9, _, 6, _ => simp only [ro, vLim] at hi hj e; omega
  | 9, _, 7, _ => simp only [ro, vLim] at hi hj e; omega
  | 9, _, 8, _ => simp only [ro, vLim] at hi hj e; omega
  | 9, _, 9, _ => simp only [ro, vLim] at hi hj e; omega
  | 9, _, 10, _ => simp only [ro, vLim] at hi hj e; omega
  | 10, _, 0, _ => simp only [ro, vLim] at hi hj e; omega
  | 10, _, 1, _ => simp only [ro, vLim] at hi hj e; omega
  | 10, _, 2, _ => simp only [ro, vLim] at hi hj e; omega
  | 10, _, 3, _ => simp only [ro, vLim] at hi hj e; omega
  | 10, _, 4, _ => simp only [ro, vLim] at hi hj e; omega
  | 10, _, 5, _ => simp only [ro, vLim] at hi hj e; omega
  | 10, _, 6, _ => simp only [ro, vLim] at hi hj e; omega
  | 10, _, 7, _ => simp only [ro, vLim] at hi hj e; omega
  | 10, _, 8, _ => simp only [ro, vLim] at hi hj e; omega
  | 10, _, 9, _ => simp only [ro, vLim] at hi hj e; omega
  | 10, _, 10, _ => simp only [ro, vLim] at hi hj e; omega
theorem RV_set {h : AH} {p : Nat} {V : Vm} (hw : WF V) (hr : RV (h.1 16 p) V) {t i x : Nat} (ht : t ≠ 10 ∨ 2 ≤ i) (hi : i < vLim V t) : RV ((wI h 16 p (ro t i) (nI x)).1 16 p) (uV V t i x) := by
  intro a j hj
  rw [vLim_u ht] at hj
  by_cases e : a = t ∧ j = i
  · obtain ⟨rfl, rfl⟩ := e
    rw [wI_at, uV_at]
  · rw [uV_ne e, wI_ni (fun q => e (ro_inj hw.1 hw.2.1 hj hi q)), hr a j hj]
theorem RV_c {r : Nat → Int32} {V V' : Vm} (hr : RV r V) (h0 : V' 10 0 = V 10 0) (h1 : V' 10 1 = V 10 1) (hc : ∀ t i, i < vLim V t → V' t i = V t i) : RV r V' := by
  intro t i hi
  rw [vLim_c h0 h1] at hi
  rw [hc t i hi]
  exact hr t i hi
theorem RVs {r : Nat → Int32} {V : Vm} (hr : RV r V) : (∀ c, c < 8 → r (4 + 3 * c + 0) = nI (V 0 c)) ∧ (∀ c, c < 8 → r (4 + 3 * c + 1) = nI (V 1 c)) ∧ (∀ c, c < 8 → r (4 + 3 * c + 2) = nI (V 2 c)) ∧ (∀ n, n < 4 → r (44 + n) = nI (V 3 n)) ∧ (∀ e, e < V 10 0 → r (28 + 4 * e + 0) = nI (V 4 e)) ∧ (∀ e, e < V 10 0 → r (28 + 4 * e + 1) = nI (V 5 e)) ∧ (∀ e, e < V 10 0 → r (28 + 4 * e + 2) = nI (V 6 e)) ∧ (∀ e, e < V 10 0 → r (28 + 4 * e + 3) = nI (V 7 e)) ∧ (∀ s, s < V 10 1 → r (48 + 2 * s) = nI (V 8 s)) ∧ (∀ s, s < V 10 1 → r (48 + 2 * s + 1) = nI (V 9 s)) ∧ r 0 = nI (V 10 0) ∧ r 1 = nI (V 10 1) ∧ r 2 = nI (V 10 2) ∧ r 3 = nI (V 10 3) :=
  ⟨fun c q => hr 0 c q, fun c q => hr 1 c q, fun c q => hr 2 c q, fun c q => hr 3 c q, fun c q => hr 4 c q, fun c q => hr 5 c q, fun c q => hr 6 c q, fun c q => hr 7 c q, fun c q => hr 8 c q, fun c q => hr 9 c q, hr 10 0 (show 0 < 4 by decide), hr 10 1 (show 1 < 4 by decide), hr 10 2 (show 2 < 4 by decide), hr 10 3 (show 3 < 4 by decide)⟩
/-! ===== throws and waits ===== -/
abbrev noonV (V : Vm) : Prop := 11 ≤ V 10 2 ∧ V 10 2 ≤ 13
abbrev eat (V : Vm) (s c : Nat) : Prop := vWt V s / 2 < V 2 c ∧ ¬ noonV V
abbrev cap (V : Vm) (w e : Nat) : Prop := w ≤ V 4 e + V 5 e ∧ V 7 e < 5
def car (V : Vm) (w : Nat) : Nat → Option Nat
  | 0 => none
  | n + 1 => match car V w n with
    | none => if cap V w n then some n else none
    | some p => if cap V w n ∧ V 5 p < V 5 n then some n else some p
theorem car_lt {V : Vm} {w : Nat} : ∀ {n p : Nat}, car V w n = some p → p < n ∧ cap V w p
  | 0, p, h => by cases h
  | n + 1, p, h => by
    unfold car at h
    split at h
    · split at h
      · cases h; exact ⟨by omega, by assumption⟩
      · cases h
    · rename_i q hq
      have := car_lt hq
      split at h
      · rename_i hc; cases h; exact ⟨by omega, hc.1⟩
      · cases h; exact ⟨by omega, this.2⟩
theorem car_no {V : Vm} {w n : Nat} (h : ¬ cap V w n) : car V w (n + 1) = car V w n := by
  rw [car]
  split
  · rename_i e; rw [if_neg h, e]
  · rename_i p e; rw [if_neg (fun z => h z.1), e]
theorem car_new {V : Vm} {w n : Nat} (h : cap V w n) (e : car V w n = none) : car V w (n + 1) = some n := by
  rw [car, e]
  simp only [if_pos h]
theorem car_gt {V : Vm} {w n p : Nat} (h : cap V w n) (e : car V w n = some p) (hg : V 5 p < V 5 n) : car V w (n + 1) = some n := by
  rw [car, e]
  simp only [if_pos (And.intro h hg)]
theorem car_le {V : Vm} {w n p : Nat} (e : car V w n = some p) (hg : V 5 n ≤ V 5 p) : car V w (n + 1) = some p := by
  rw [car, e]
  simp only [if_neg (fun z : cap V w n ∧ V 5 p < V 5 n => absurd z.2 (by omega))]
def tak (V : Vm) (s c : Nat) : Option Nat := if eat V s c then none else car V (vWt V s) (V 10 0)
theorem tak_lt {V : Vm} {s c p : Nat} (h : tak V s c = some p) : p < V 10 0 := by
  unfold tak at h
  split at h
  · cases h
  · exact (car_lt h).1
def oI (o : Option Nat) : Int32 := match o with
  | none => iI (-4)
  | some e => nI e
def sB (V : Vm) (s c : Nat) : Nat := min (vSt V s) (V 0 c)
def sS (V : Vm) (s c : Nat) : Nat := min (vSt V s - sB V s c) (V 1 c)
def wor (V : Vm) (s c : Nat) : Nat := 5 * sB V s c + sS V s c
def brg (V : Vm) (s c : Nat) : Nat := match tak V s c with
  | none => 0
  | some _ => wor V s c
def thr (V : Vm) (s c : Nat) : Vm := match tak V s c with
  | none => fun t i => if t = 5 then min 9 (V 5 i + 1) else if t = 10 ∧ i = 2 then (V 10 2 + 1) % 24 else V t i
  | some e => fun t i => if t = 0 ∧ i = c then V 0 c - sB V s c else if t = 1 ∧ i = c then V 1 c - sS V s c else if t = 3 ∧ i = V 6 e then V 3 i + wor V s c else if t = 5 then (if i = e ∧ V 10 3 ≠ 1 then V 5 e - vWt V s / 3 else min 9 (V 5 i + 1)) else if t = 7 ∧ i = e then (if V 10 3 = 1 then min 9 (V 7 e + 1) else V 7 e - 1) else if t = 10 ∧ i = 2 then (V 10 2 + 1) % 24 else V t i
def wai (V : Vm) (k : Nat) : Vm := fun t i => if t = 5 then min 9 (V 5 i + k / 4) else if t = 10 ∧ i = 2 then (V 10 2 + k) % 24 else V t i

/-! ===== a sheep made: what the call does (its rule: the part behind the constructors) ===== -/
/-- a new sheep at a: nothing else has changed -/
def newS (h h' : AH) (a : Nat) : Prop := h'.2.1 = h.2.1 ∧ h'.2.2 = h.2.2 ++ [a] ∧ (∀ t p i, ¬ (t = 18 ∧ p = a) → h'.1 t p i = h.1 t p i) ∧ ∀ t p i, h.2.1 t p i ≠ some a
def S_X10_newSheep (k f : Int32) (h : AH) (K : Option Nat → AH → Prop) : Prop := ((¬ ∃ i j, i ≤ 7 ∧ j ≤ 9 ∧ k = nI i ∧ f = nI j) → K none h) ∧ ∀ i j a h', i ≤ 7 → j ≤ 9 → k = nI i → f = nI j → newS h h' a → SHP h' (some a) i j → K (some a) h'
def T_X10_newSheep : List AV → AH → (Option Nat → AH → Prop) → Prop := fun as h K => match as with
  | [.inl q0, .inl q1] => S_X10_newSheep q0 q1 h K
  | _ => False

theorem cr_RX10_694 : CR RX10 (kIns 694) (2, 5, 99, 1, 7, .inr (.inr (.inr T_X10_newSheep))) := sorry

theorem lp_X11_throwIn {j : Nat} {V : Vm} {o : Option Nat} {x : Int32} {h0 : AH} {K : Int32 → AH → Prop} (hw : WF V) (ho : ∀ p, o = some p → p < 4) (k : ∀ h', only 16 j h0 h' → RV (h'.1 16 j) (fin V o) → K x h') : ∀ r e h, e + r = V 10 0 → only 16 j h0 h → RV (h.1 16 j) (fink V o e) → AW M_X11_throwIn (.inl K) 168 [some (aR 16 j), none, none, some (aI (oI o)), some (aI x), some (aI (nI e)), none, none] [] h 0 0 := by
  have h4 := hw.1
  have hh := hw.2.2.1
  intro r
  induction r with
  | zero =>
    intro e h he h1 hr
    refine vc_X11_throwIn_168 j (oI o) x (nI e) ?_
    obtain ⟨-, -, -, -, -, -, -, -, -, -, e0, -, e2, -⟩ := RVs hr
    rw [fink_ne (by decide)] at e0 e2
    simp (disch := omega) only [n_inT, n_cl, true_and, e0, e2, n_le, nI_add, n_rem]
    refine ⟨fun _ => ⟨by decide, k _ (only_tr h1 (only_wI ..)) ?_⟩, fun q => absurd (by omega) q⟩
    have h2 := RV_set (fink_WF (o := o) (k := e) hw) hr (t := 10) (i := 2) (x := (V 10 2 + 1) % 24) (by omega) (show 2 < 4 by decide)
    refine RV_c h2 ?_ ?_ ?_
    · rw [uV_ne (by omega), fink_ne (by decide)]
      unfold fin
      rw [if_neg (by omega), if_neg (by omega)]
    · rw [uV_ne (by omega), fink_ne (by decide)]
      unfold fin
      rw [if_neg (by omega), if_neg (by omega)]
    · intro t i hi
      rw [vLim_u (by omega), vLim_c (V := V) (fink_ne (by decide)) (fink_ne (by decide))] at hi
      have h5i : t = 5 → i < e := fun z => by subst z; have hi : i < V 10 0 := hi; omega
      unfold fin uV fink
      grind
  | succ r ih =>
    intro e h he h1 hr
    refine vc_X11_throwIn_168 j (oI o) x (nI e) ?_
    obtain ⟨-, -, -, -, -, e5, -, -, -, -, e0, -, -, -⟩ := RVs hr
    rw [fink_ne (by decide)] at e0 e5
    have e5 := e5 e (by omega)
    have hbe := hw.2.2.2.2.2.1 e (by omega)
    have e5 : h.1 16 j (28 + 4 * e + 1) = nI (V 5 e) := by
      rw [e5]
      unfold fink
      rw [if_neg (by omega)]
    simp (disch := omega) only [n_inT, n_cl, true_and, e0, n_le, nI_add]
    refine ⟨fun q => by omega, fun _ => ⟨fun q => ?_, fun q => ⟨e, by omega, rfl, ?_⟩⟩⟩
    · have q := (oI_eq (by omega) (fun p hp => by have := ho p hp; omega)).mp q
      refine ih (e + 1) h (by omega) h1 (RV_c hr ?_ ?_ ?_)
      · rw [fink_ne (by decide), fink_ne (by decide)]
      · rw [fink_ne (by decide), fink_ne (by decide)]
      · intro t i hi
        unfold fink
        by_cases hc : t = 5 ∧ i < e ∧ some i ≠ o
        · rw [if_pos hc, if_pos ⟨hc.1, by omega, hc.2.2⟩]
        · rw [if_neg hc, if_neg]
          rintro ⟨z1, z2, z3⟩
          rcases Nat.lt_or_ge i e with z | z
          · exact hc ⟨z1, z, z3⟩
          · exact z3 (by rw [show i = e by omega]; exact q.symm)
    · have q : o ≠ some e := fun z => q ((oI_eq (by omega) (fun p hp => by have := ho p hp; omega)).mpr z)
      rw [e5, nI_add, clp_n (by omega)]
      have h2 := RV_set (fink_WF (o := o) (k := e) hw) hr (t := 5) (i := e) (x := min 9 (V 5 e + 1)) (by omega) (by show e < fink V o e 10 0; rw [fink_ne (by decide)]; omega)
      refine ih (e + 1) _ (by omega) (only_tr h1 (only_wI ..)) (RV_c h2 ?_ ?_ ?_)
      · rw [uV_ne (by omega), fink_ne (by decide), fink_ne (by decide)]
      · rw [uV_ne (by omega), fink_ne (by decide), fink_ne (by decide)]
      · intro t i hi
        unfold uV fink
        by_cases hc : t = 5 ∧ i = e
        · rw [if_pos hc, if_pos ⟨hc.1, by omega, by rw [hc.2]; exact fun z => q z.symm⟩, hc.2]
        · rw [if_neg hc]
          by_cases hc2 : t = 5 ∧ i < e ∧ some i ≠ o
          · rw [if_pos hc2, if_pos ⟨hc2.1, by omega, hc2.2.2⟩]
          · rw [if_neg hc2, if_neg]
            rintro ⟨z1, z2, z3⟩
            rcases Nat.lt_or_ge i e with z | z
            · exact hc2 ⟨z1, z, z3⟩
            · exact hc ⟨z1, by omega⟩
theorem least_n {a b : Nat} (ha : a < 2147483648) (hb : b < 2147483648) : (if nI a < nI b then nI a else nI b) = nI (min a b) := by
  by_cases h : a < b
  · rw [if_pos ((n_lt ha hb).mpr h), Nat.min_eq_left (by omega)]
  · rw [if_neg (fun q => h ((n_lt ha hb).mp q)), Nat.min_eq_right (by omega)]
/-- the valley once the eagle e has carried its stones off, and eaten -/
def crd (V : Vm) (n m e : Nat) : Vm := uV (uV (uV (uV (uV V 0 m (V 0 m - sB V n m)) 1 m (V 1 m - sS V n m)) 3 (V 6 e) (V 3 (V 6 e) + wor V n m)) 5 e (if V 10 3 = 1 then min 9 (V 5 e + 1) else V 5 e - vWt V n / 3)) 7 e (if V 10 3 = 1 then min 9 (V 7 e + 1) else V 7 e - 1)
theorem crd_10 (V : Vm) (n m e i : Nat) : crd V n m e 10 i = V 10 i := by
  unfold crd
  rw [uV_ne (by omega), uV_ne (by omega), uV_ne (by omega), uV_ne (by omega), uV_ne (by omega)]
theorem WF_u {V : Vm} {t i x : Nat} (hw : WF V) (ht : t ≠ 10) (hx : t ≤ 2 → x ≤ 9) (h4 : t = 4 → x ≤ 30) (h5 : t = 5 ∨ t = 7 → x ≤ 9) (h6 : t = 6 → x ≤ 3) (h8 : t = 8 → x ≤ 7) (h9 : t = 9 → x ≤ 9) : WF (uV V t i x) := by
  obtain ⟨a, b, c, d, e, f, g⟩ := hw
  unfold WF
  rw [uV_ne (by omega), uV_ne (by omega), uV_ne (by omega), uV_ne (by omega)]
  refine ⟨a, b, c, d, fun k hk => ?_, fun k hk => ?_, fun k hk => ?_⟩
  · have := e k hk
    unfold uV
    refine ⟨?_, ?_, ?_⟩ <;> split <;> omega
  · have := f k hk
    unfold uV
    refine ⟨?_, ?_, ?_, ?_⟩ <;> split <;> omega
  · have := g k hk
    unfold uV
    refine ⟨?_, ?_⟩ <;> split <;> omega
theorem crd_WF {V : Vm} {n m e : Nat} (hw : WF V) (hm : m < 8) (he : e < V 10 0) : WF (crd V n m e) := by
  have h1 := hw.2.2.2.2.1 m hm
  have h2 := hw.2.2.2.2.2.1 e he
  unfold crd
  refine WF_u (WF_u (WF_u (WF_u (WF_u hw ?_ ?_ ?_ ?_ ?_ ?_ ?_) ?_ ?_ ?_ ?_ ?_ ?_ ?_) ?_ ?_ ?_ ?_ ?_ ?_ ?_) ?_ ?_ ?_ ?_ ?_ ?_ ?_) ?_ ?_ ?_ ?_ ?_ ?_ ?_ <;> first | omega | (intro _; omega) | (intro _; split <;> omega)
theorem fin_crd {V : Vm} {n m e : Nat} (ht : tak V n m = some e) (t i : Nat) : thr V n m t i = fin (crd V n m e) (some e) t i := by
  unfold thr fin crd
  rw [ht]
  unfold uV
  grind
theorem fin_none {V : Vm} {n m : Nat} (ht : tak V n m = none) (t i : Nat) : thr V n m t i = fin V none t i := by
  unfold thr fin
  rw [ht]
  grind

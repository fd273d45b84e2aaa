theorem uI_at (f : Nat → Nat → Nat → Int32) (t p i : Nat) (x : Int32) : uI f t p i x t p i = x := by unfold uI; rw [if_pos ⟨rfl, rfl, rfl⟩]
theorem uI_ni {f : Nat → Nat → Nat → Int32} {t p i : Nat} {x : Int32} {a b j : Nat} (hn : j ≠ i) : uI f t p i x a b j = f a b j := by unfold uI; rw [if_neg (fun e => hn e.2.2)]
theorem uI_nt {f : Nat → Nat → Nat → Int32} {t p i : Nat} {x : Int32} {a b j : Nat} (hn : a ≠ t) : uI f t p i x a b j = f a b j := by unfold uI; rw [if_neg (fun e => hn e.1)]
theorem uI_np {f : Nat → Nat → Nat → Int32} {t p i : Nat} {x : Int32} {a b j : Nat} (hn : b ≠ p) : uI f t p i x a b j = f a b j := by unfold uI; rw [if_neg (fun e => hn e.2.1)]
theorem snd_X11_throwIn (j : Nat) (a c : Int32) {h : AH} {K : Int32 → AH → Prop} (k : S_X11_throwIn j a c h K) : AW M_X11_throwIn (.inl K) 0 [some (aR 16 j), some (aI a), some (aI c), none, none, none, none, none] [] h 0 0 := by
  refine vc_X11_throwIn j a c ?_
  obtain ⟨V, n, m, hp, hm, rfl, k⟩ := k
  obtain ⟨hr, hw, hn, rfl⟩ := id hp
  refine ⟨V, n, m, hp, hm, rfl, ?_⟩
  have h4 := hw.1
  have h1 := hw.2.2.2.2.1 m hm
  have hd := hw.2.2.2.1
  have hb := hw.2.2.2.2.2.2 n hn
  have hwt : vWt V n ≤ 38 := wt_le hb.2
  have hst : vSt V n ≤ 12 := stk_le hb.2
  cases ht : tak V n m with
  | none =>
    refine ⟨fun _ => ?_, fun q => absurd (m_lt (by omega) (by omega)) q⟩
    refine lp_X11_throwIn (o := none) (V := V) hw (fun p hp => by cases hp) (fun h' h1 h2 => ?_) (V 10 0) 0 h (by omega) (only_rfl ..) (RV_c hr rfl rfl (fun t i _ => by unfold fink; rw [if_neg (by omega)]))
    have := k h' h1 (RV_c h2 (fin_none ht 10 0) (fin_none ht 10 1) (fun t i _ => fin_none ht t i))
    unfold brg at this
    rw [ht] at this
    exact this
  | some e =>
    have he := tak_lt ht
    have h2 := hw.2.2.2.2.2.1 e he
    have k2 : ∀ h', only 16 j h h' → RV (h'.1 16 j) (fin (crd V n m e) (some e)) → K (nI (wor V n m)) h' := fun h' q1 q2 => by
      have := k h' q1 (RV_c q2 (fin_crd ht 10 0) (fin_crd ht 10 1) (fun t i _ => fin_crd ht t i))
      unfold brg at this
      rw [ht] at this
      exact this
    have fl := fun h' (q1 : only 16 j h h') (q2 : RV (h'.1 16 j) (crd V n m e)) => lp_X11_throwIn (o := some e) (V := crd V n m e) (crd_WF hw hm he) (fun p hp => by cases hp; omega) k2 (V 10 0) 0 h' (by rw [crd_10]; omega) q1 (RV_c q2 rfl rfl (fun t i _ => by unfold fink; rw [if_neg (by omega)]))
    clear k k2
    obtain ⟨e0, e1, -, e3, -, e5, e6, e7, -, -, -, -, -, e13⟩ := RVs hr
    have hsB : sB V n m ≤ V 0 m := by unfold sB; omega
    have hsB2 : sB V n m ≤ vSt V n := by unfold sB; omega
    have hsS : sS V n m ≤ V 1 m := by unfold sS; omega
    have w1 := RV_set hw hr (t := 0) (i := m) (x := V 0 m - sB V n m) (by omega) hm
    have f1 : WF (uV V 0 m (V 0 m - sB V n m)) := WF_u hw (by omega) (fun _ => by omega) (by omega) (by omega) (by omega) (by omega) (by omega)
    have w2 := RV_set f1 w1 (t := 1) (i := m) (x := V 1 m - sS V n m) (by omega) hm
    have f2 : WF (uV (uV V 0 m (V 0 m - sB V n m)) 1 m (V 1 m - sS V n m)) := WF_u f1 (by omega) (fun _ => by omega) (by omega) (by omega) (by omega) (by omega) (by omega)
    have w3 := RV_set f2 w2 (t := 3) (i := V 6 e) (x := V 3 (V 6 e) + wor V n m) (by omega) (show V 6 e < 4 by omega)
    have f3 : WF (uV (uV (uV V 0 m (V 0 m - sB V n m)) 1 m (V 1 m - sS V n m)) 3 (V 6 e) (V 3 (V 6 e) + wor V n m)) := WF_u f2 (by omega) (by omega) (by omega) (by omega) (by omega) (by omega) (by omega)
    have gV : ∀ t i, t ≠ 0 → t ≠ 1 → t ≠ 3 → uV (uV (uV V 0 m (V 0 m - sB V n m)) 1 m (V 1 m - sS V n m)) 3 (V 6 e) (V 3 (V 6 e) + wor V n m) t i = V t i := fun t i a b c => by rw [uV_ne (by omega), uV_ne (by omega), uV_ne (by omega)]
    have hcrd : crd V n m e = uV (uV (uV (uV (uV V 0 m (V 0 m - sB V n m)) 1 m (V 1 m - sS V n m)) 3 (V 6 e) (V 3 (V 6 e) + wor V n m)) 5 e (if V 10 3 = 1 then min 9 (V 5 e + 1) else V 5 e - vWt V n / 3)) 7 e (if V 10 3 = 1 then min 9 (V 7 e + 1) else V 7 e - 1) := rfl
    rw [hcrd] at fl
    clear hcrd
    generalize hV3 : uV (uV (uV V 0 m (V 0 m - sB V n m)) 1 m (V 1 m - sS V n m)) 3 (V 6 e) (V 3 (V 6 e) + wor V n m) = V3 at w3 f3 gV fl
    clear hV3 f1 f2 w1 w2
    have x5b : (if V 10 3 = 1 then min 9 (V 5 e + 1) else V 5 e - vWt V n / 3) ≤ 9 := by split <;> omega
    generalize hx5 : (if V 10 3 = 1 then min 9 (V 5 e + 1) else V 5 e - vWt V n / 3) = x5 at fl x5b
    generalize hx7 : (if V 10 3 = 1 then min 9 (V 7 e + 1) else V 7 e - 1) = x7 at fl
    have f4 : WF (uV V3 5 e x5) := WF_u f3 (by omega) (by omega) (by omega) (by omega) (by omega) (by omega) (by omega)
    have gV4 : ∀ t i, t ≠ 0 → t ≠ 1 → t ≠ 3 → t ≠ 5 → uV V3 5 e x5 t i = V t i := fun t i a b c d => by rw [uV_ne (by omega), gV t i a b c]
    have k147 : ∀ g y, only 16 j h g → RV (g.1 16 j) (uV V3 5 e x5) → clp y = nI x7 → AW M_X11_throwIn (.inl K) 147 [some (aR 16 j), none, none, some (aI (nI e)), some (aI (nI (wor V n m))), none, none, some (aI y)] [] g 0 0 := by
      intro g y q1 q2 q3
      refine vc_X11_throwIn_147 j (nI e) (nI (wor V n m)) y ?_
      simp (disch := omega) only [S_X11_atEagle, S_X11_least, S_X11_most, pk_mul, nI_add, n_inT, n_cl, true_and]
      rw [show (if (if nI 9 < y then nI 9 else y) < nI 0 then nI 0 else (if nI 9 < y then nI 9 else y)) = nI x7 from q3]
      exact fl _ (only_tr q1 (only_wI ..)) (RV_set f4 q2 (t := 7) (i := e) (by omega) (show e < uV V3 5 e x5 10 0 by rw [gV4 10 0 (by omega) (by omega) (by omega) (by omega)]; exact he))
    have k125 : ∀ g, only 16 j h g → RV (g.1 16 j) (uV V3 5 e x5) → AW M_X11_throwIn (.inl K) 125 [some (aR 16 j), none, none, some (aI (nI e)), some (aI (nI (wor V n m))), none, none, none] [] g 0 0 := by
      intro g q1 q2
      refine vc_X11_throwIn_125 j (nI e) (nI (wor V n m)) ?_
      obtain ⟨-, -, -, -, -, -, -, d7, -, -, -, -, -, d13⟩ := RVs q2
      rw [gV4 10 3 (by omega) (by omega) (by omega) (by omega)] at d13
      rw [gV4 10 0 (by omega) (by omega) (by omega) (by omega)] at d7
      have d7 := d7 e he
      rw [gV4 7 e (by omega) (by omega) (by omega) (by omega)] at d7
      simp (disch := omega) only [S_X11_atEagle, pk_mul, nI_add, n_inT, n_cl, true_and, d7, d13, n_eq]
      refine ⟨fun q => k147 g _ q1 q2 ?_, fun q => k147 g _ q1 q2 ?_⟩
      · rw [iI_m1, clp_m (by omega) (by omega), ← hx7, if_neg q]
      · rw [clp_n (by omega), ← hx7, if_pos (Decidable.not_not.mp q)]
    have k101 : ∀ g, only 16 j h g → RV (g.1 16 j) V3 → AW M_X11_throwIn (.inl K) 101 [some (aR 16 j), some (aI (nI n)), none, some (aI (nI e)), some (aI (nI (wor V n m))), none, none, none] [] g 0 0 := by
      intro g q1 q2
      refine vc_X11_throwIn_101 j (nI n) (nI e) (nI (wor V n m)) ?_
      obtain ⟨-, -, -, -, -, d5, -, -, -, -, -, -, -, d13⟩ := RVs q2
      rw [gV 10 3 (by omega) (by omega) (by omega)] at d13
      rw [gV 10 0 (by omega) (by omega) (by omega)] at d5
      have d5 := d5 e he
      rw [gV 5 e (by omega) (by omega) (by omega)] at d5
      have hle : e < vLim V3 5 := by show e < V3 10 0; rw [gV 10 0 (by omega) (by omega) (by omega)]; exact he
      simp (disch := omega) only [n_inT, n_cl, true_and, d13, n_eq]
      refine ⟨fun q => ⟨V3, n, ⟨q2, f3, by rw [gV 10 1 (by omega) (by omega) (by omega)]; exact hn, rfl⟩, by decide, e, by omega, rfl, ?_⟩, fun q => ⟨e, by omega, rfl, ?_⟩⟩
      · have hw3 : vWt V3 n = vWt V n := by unfold vWt; rw [gV 8 n (by omega) (by omega) (by omega), gV 9 n (by omega) (by omega) (by omega)]
        rw [hw3, d5, n_div (by omega) (by omega) (by omega), clp_m (by omega) (by omega)]
        rw [if_neg q] at hx5
        rw [hx5]
        exact k125 _ (only_tr q1 (only_wI ..)) (RV_set f3 q2 (t := 5) (i := e) (by omega) hle)
      · rw [d5, nI_add, clp_n (by omega)]
        rw [if_pos (Decidable.not_not.mp q)] at hx5
        rw [hx5]
        exact k125 _ (only_tr q1 (only_wI ..)) (RV_set f3 q2 (t := 5) (i := e) (by omega) hle)
    clear k125 k147 fl
    simp only [show oI (some e) = nI e from rfl]
    rw [n_lt0 (by omega)]
    refine ⟨fun z => z.elim, fun _ => ⟨V, n, hp, ?_⟩⟩
    simp (disch := omega) only [S_X11_atCell, S_X11_least, pk_mul, nI_add, n_inT, n_cl, true_and, e0, least_n]
    refine ⟨V, n, hp, ?_⟩
    rw [show nI (min (vSt V n) (V 0 m)) = nI (sB V n m) from rfl]
    simp (disch := omega) only [n_inT, n_cl, true_and, e1, n_sub, least_n]
    rw [show nI (min (vSt V n - sB V n m) (V 1 m)) = nI (sS V n m) from rfl]
    refine vc_X11_throwIn_51 j (nI n) (nI m) (nI e) (nI (sB V n m)) (nI (sS V n m)) ?_
    simp (disch := omega) only [S_X11_atCell, S_X11_atEagle, pk_mul, nI_add, n_inT, n_cl, true_and, e0, e1, e3, e6, uI_ni, n_sub]
    exact k101 _ (only_tr (only_tr (only_wI ..) (only_wI ..)) (only_wI ..)) w3
theorem tw_X11_throwIn : ∀ (as : List AV) (h : AH) (K : Int32 → AH → Prop), T_X11_throwIn as h K → (ini as).length ≤ mNL M_X11_throwIn ∧ AW M_X11_throwIn (.inl K) 0 (initL (mNL M_X11_throwIn) as) [] h 0 0 := by
  intro as h K hk
  match as, hk with
  | [.inr (.inr (.inl q0)), .inl q1, .inl q2], hk =>
    obtain ⟨hb, hk⟩ := tif_inv hk
    have e0 := hb
    obtain ⟨a0, b0⟩ := q0
    have f0 : a0 = 16 := Nat.eq_of_beq_eq_true e0
    subst f0
    exact ⟨Nat.le_of_ble_eq_true rfl, snd_X11_throwIn b0 q1 q2 hk⟩
theorem cr_RX11_415 : CR RX11 (kIns 415) (3, 5, 116, 0, 0, .inl T_X11_throwIn) := crS_i (M := M_X11_throwIn) (by decide) rfl (inG (i := 1058) (w := Cond.methodLink RX11 138 yX11_throwIn) (by decide +kernel) rfl) (inG (i := 1059) (w := Cond.static yX11_throwIn) (by decide +kernel) rfl) (inG (i := 40) (w := Cond.initialized RX11) (by decide +kernel) rfl) (inG (i := 1060) (w := Cond.code yX11_throwIn cX11_throwIn 8 (some .int)) (by decide +kernel) rfl) ⟨by decide +kernel, by decide +kernel, by decide +kernel⟩ tw_X11_throwIn


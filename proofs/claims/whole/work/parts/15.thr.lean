theorem snd_X11_throwIn (j : Nat) (a c : Int32) {h : AH} {K : Int32 → AH → Prop} (k : S_X11_throwIn j a c h K) : AW M_X11_throwIn (.inl K) 0 [some (aR 16 j), some (aI a), some (aI c), none, none, none, none, none] [] h 0 0 := by
  refine vc_X11_throwIn j a c ?_
  obtain ⟨V, n, m, hp, hm, rfl, k⟩ := k
  obtain ⟨hr, hw, hn, rfl⟩ := id hp
  refine ⟨V, n, m, hp, hm, rfl, ?_⟩
  have h4 := hw.1
  have h1 := hw.2.2.2.2.1 m hm
  have hd := hw.2.2.2.1
  have hb := hw.2.2.2.2.2.2 n hn
  have hwt : vWt V n ≤ 38 := wt_le hb.2
  have hst : vSt V n ≤ 12 := stk_le hb.2
  cases ht : tak V n m with
  | none =>
    refine ⟨fun _ => ?_, fun q => absurd (m_lt (by omega) (by omega)) q⟩
    refine lp_X11_throwIn (o := none) (V := V) hw (fun p hp => by cases hp) (fun h' h1 h2 => ?_) (V 10 0) 0 h (by omega) (only_rfl ..) (RV_c hr rfl rfl (fun t i _ => by unfold fink; rw [if_neg (by omega)]))
    have := k h' h1 (RV_c h2 (fin_none ht 10 0) (fin_none ht 10 1) (fun t i _ => fin_none ht t i))
    unfold brg at this
    rw [ht] at this
    exact this
  | some e =>
    have he := tak_lt ht
    have h2 := hw.2.2.2.2.2.1 e he
    have k2 : ∀ h', only 16 j h h' → RV (h'.1 16 j) (fin (crd V n m e) (some e)) → K (nI (wor V n m)) h' := fun h' q1 q2 => by
      have := k h' q1 (RV_c q2 (fin_crd ht 10 0) (fin_crd ht 10 1) (fun t i _ => fin_crd ht t i))
      unfold brg at this
      rw [ht] at this
      exact this
    have fl := fun h' (q1 : only 16 j h h') (q2 : RV (h'.1 16 j) (crd V n m e)) => lp_X11_throwIn (o := some e) (V := crd V n m e) (crd_WF hw hm he) (fun p hp => by cases hp; omega) k2 (V 10 0) 0 h' (by rw [crd_10]; omega) q1 (RV_c q2 rfl rfl (fun t i _ => by unfold fink; rw [if_neg (by omega)]))
    clear k k2
    obtain ⟨e0, e1, -, e3, -, e5, e6, e7, -, -, -, -, -, e13⟩ := RVs hr
    have w1 := RV_set hw hr (t := 0) (i := m) (x := V 0 m - sB V n m) (by omega) hm
    have f1 : WF (uV V 0 m (V 0 m - sB V n m)) := WF_u hw (by omega) (fun _ => by omega) (by omega) (by omega) (by omega) (by omega) (by omega)
    have w2 := RV_set f1 w1 (t := 1) (i := m) (x := V 1 m - sS V n m) (by omega) hm
    have f2 : WF (uV (uV V 0 m (V 0 m - sB V n m)) 1 m (V 1 m - sS V n m)) := WF_u f1 (by omega) (fun _ => by omega) (by omega) (by omega) (by omega) (by omega) (by omega)
    have w3 := RV_set f2 w2 (t := 3) (i := V 6 e) (x := V 3 (V 6 e) + wor V n m) (by omega) (show V 6 e < 4 by omega)
    have f3 : WF (uV (uV (uV V 0 m (V 0 m - sB V n m)) 1 m (V 1 m - sS V n m)) 3 (V 6 e) (V 3 (V 6 e) + wor V n m)) := WF_u f2 (by omega) (fun _ => by omega) (by omega) (by omega) (by omega) (by omega) (by omega)
    sorry

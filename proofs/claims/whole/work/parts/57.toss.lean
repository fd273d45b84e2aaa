/-! ===== toss ===== -/
theorem c_CF (l : Launch) (hfl : l.stackTraces = false) (G : GL) (h : AH) (a i j : Nat) (ha : a ∈ h.2.2) (hi : i ≤ 7) (hj : j ≤ 9) (sp : SHP h (some a) i j) : Met l yX10_caughtFailure (Cond.codeWith yX10_caughtFailure cX10_caughtFailure 2 (some .int) [(0, 4, 7, 259), (0, 4, 13, 249), (0, 4, 22, 311)] :: lw_g) ({ frames := 7, cells := 1, slots := 6, locals := 110 }) (xPc G [aS (some a)] h) (va_Qi (fun (r : Int32) (_ : Unit) => r = cFv i j) (fun _ t => Wd0 G h t) (gA0 G)) 1 6 (gA0 G) := by
  have hj : j < 10 := by omega
  rcases (show i = 0 ∨ i = 1 ∨ i = 2 ∨ i = 3 ∨ i = 4 ∨ i = 5 ∨ i = 6 ∨ i = 7 by omega) with rfl | rfl | rfl | rfl | rfl | rfl | rfl | rfl
  · exact c_CF0 l hfl G h a j ha hj sp
  · exact c_CF1 l hfl G h a j ha hj sp
  · exact c_CF2 l hfl G h a j ha hj sp
  · exact c_CF3 l hfl G h a j ha hj sp
  · exact c_CF4 l hfl G h a j ha hj sp
  · exact c_CF5 l hfl G h a j ha hj sp
  · exact c_CF6 l hfl G h a j ha hj sp
  · exact c_CF7 l hfl G h a j ha hj sp
theorem dX10_toss_0 : decode cX10_toss 0 = .ok (.aload_n 0, 1) := by decide +kernel
theorem dX10_toss_1 : decode cX10_toss 1 = .ok (.iload_n 1, 1) := by decide +kernel
theorem dX10_toss_2 : decode cX10_toss 2 = .ok (.invokevirtual 114, 3) := by decide +kernel
theorem dX10_toss_5 : decode cX10_toss 5 = .ok (.istore_n 2, 1) := by decide +kernel
theorem dX10_toss_6 : decode cX10_toss 6 = .ok (.iload_n 2, 1) := by decide +kernel
theorem dX10_toss_7 : decode cX10_toss 7 = .ok (.ifCond .eq 7, 3) := by decide +kernel
theorem dX10_toss_10 : decode cX10_toss 10 = .ok (.iload_n 2, 1) := by decide +kernel
theorem dX10_toss_11 : decode cX10_toss 11 = .ok (.goto 15, 3) := by decide +kernel
theorem dX10_toss_14 : decode cX10_toss 14 = .ok (.aload_n 0, 1) := by decide +kernel
theorem dX10_toss_15 : decode cX10_toss 15 = .ok (.getfield 24, 3) := by decide +kernel
theorem dX10_toss_18 : decode cX10_toss 18 = .ok (.iload_n 1, 1) := by decide +kernel
theorem dX10_toss_19 : decode cX10_toss 19 = .ok (.aaload, 1) := by decide +kernel
theorem dX10_toss_20 : decode cX10_toss 20 = .ok (.getfield 117, 3) := by decide +kernel
theorem dX10_toss_23 : decode cX10_toss 23 = .ok (.invokestatic 279, 3) := by decide +kernel
theorem dX10_toss_26 : decode cX10_toss 26 = .ok (.ireturn, 1) := by decide +kernel
set_option maxHeartbeats 4000000 in
set_option maxRecDepth 100000 in
theorem c_toss (l : Launch) (hfl : l.stackTraces = false) (G : GL) (h : AH) (S : Sm) (d : Int32) (cs : CSh h S) (w : WS S) : Met l yX10_toss (Cond.code yX10_toss cX10_toss 3 (some .int) :: lw_g) ({ frames := 8, cells := 1, slots := 6, locals := 131 }) (xPc G [aR 0 0, aI d] h) (va_Qi (fun (r : Int32) (_ : Unit) => r = R_toss S d) (fun _ t => Wd0 G h t) (gA0 G)) 1 6 (gA0 G) := by
  refine Met.ofW (cc := cX10_toss) (maxL := 3) (ret := some .int) (by decide) rfl ?_
  intro p e s m args below meth c s₁ B hml hv
  obtain ⟨rfl, hK, hW, hX⟩ := hv
  have hx := B.exec
  have hb := B.bytes
  have hr := B.returns
  have hts0 := atoms_spec (ws := Cond.code yX10_toss cX10_toss 3 (some .int) :: lw_g) B.pre
  have hts := fun w (hw : w ∈ lw_g) => hts0 w (List.mem_cons_of_mem _ hw)
  have hown : s.vm.findClass RX10 = some m.cls := findClass_of_methodNamed B.named
  have hS : va_S (gA0 G) s.heap s.heap [] := va_S.rf
  have hl := lv_entry ([aR 0 0, aI d].map (cv G)) (n := 3) (Nat.le_of_ble_eq_true rfl)
  rw [lg_entry_eq]
  generalize (lg_sl ([aR 0 0, aI d].map (cv G)) ++ List.replicate (3 - (lg_sl ([aR 0 0, aI d].map (cv G))).length) Slot.unset).toArray = ls at hl ⊢
  have hl : lv_has ls 3 [(0, .ref (adr G 0 0)), (1, .int d)] := hl
  have hWd : Wd G h s s.heap [] := ⟨hW.1, hW.2.1, hW.2.2, hS⟩
  refine lv_aload_n hx hb dX10_toss_0 rfl (lv_at hl 0 rfl) ?_
  refine lv_iload_n hx hb dX10_toss_1 rfl (lv_at hl 1 rfl) ?_
  have hcr := cr_RX10_342 G p l e ({ frames := 8, cells := 1, slots := 6, locals := 131 }) s m ([aR 0 0, aI d].map (cv G)).toArray below meth c cX10_toss s.heap [] 0 0 (MQ below (va_Qi (fun (r : Int32) (_ : Unit) => r = R_toss S d) (fun _ t => Wd0 G h t) (gA0 G)) ([aR 0 0, aI d].map (cv G)).toArray s 1 6 (gA0 G)) 2 ls [aR 0 0, aI d] [] h hx hb (by rw [hml]; exact hl.1.symm) hown hts (Nat.le_of_ble_eq_true rfl) (Nat.le_of_ble_eq_true rfl) (Nat.zero_le _) (Nat.zero_le _) hK hWd (fun v hv => by
    simp only [List.mem_cons, List.not_mem_nil, or_false] at hv
    rcases hv with rfl | rfl
    · exact (show (0, 0) ∈ fixed by decide)
    · trivial) rfl (by decide) dX10_toss_2
  refine hcr (fun x u => x = rwK S d ∧ u = h) (show S_X10_refusedSheep d h (fun x u => x = rwK S d ∧ u = h) from ⟨S, cs, w, rfl, rfl⟩) ?_
  intro x h' H' locs' hxx hWd' hsub
  obtain ⟨rfl, rfl⟩ := hxx
  refine lv_istore_n hx hb dX10_toss_5 rfl hl (by decide) rfl (fun ls' hl' => ?_)
  refine lv_iload_n hx hb dX10_toss_6 rfl (lv_at hl' 0 rfl) ?_
  refine lv_if_eq (tgt := 14) hx hb dX10_toss_7 (by decide) (fun q => ?_) (fun q => ?_)
  · rcases rwK_cases w d with ⟨k, hk8, rfl, ho, hz⟩ | hz
    · obtain ⟨a, ea, sp⟩ := (show ∃ a, h'.2.1 12 k 0 = some a ∧ SHP h' (some a) (S.1 1 k) (S.1 2 k) by
        have h1 := ((cs k hk8).2.1 ho).1
        obtain ⟨a, ea, z⟩ := h1
        exact ⟨a, ea, a, rfl, z⟩)
      have hm0 : (0, 0) ∈ fixed := by decide
      have hm11 : (11, 0) ∈ fixed := by decide
      have hm12 : (12, k) ∈ fixed := fixed_mem.mpr ⟨by decide, hk8⟩
      obtain ⟨j, hj, hw⟩ := wl_get (G := G) (idx_fx (h := h') hm0)
      rw [cell_ob G h' 0 rfl] at hw
      have hw : (wl G h')[j]? = some (adr G 0 0, .inr (10, flds G h' 0 0)) := hw
      refine lv_aload_n hx hb dX10_toss_14 rfl (lv_at hl' 1 rfl) ?_
      refine va_get (D := (G.1, G.2.1)) (cl := classes) (v := .ref (adr G 11 0)) (C := RX10) (T := TX10) (N := 6) hx hb hts inX10 hown hK.1 hWd'.2.1 j hw rfl 4 (by decide) (hts (.fieldLink RX10 24 RX10 "shelves" "[LMeatForDiamonds$Shelf;") (inG (i := 160) (by decide +kernel) rfl)) (fun _ h9 => h9) rfl dX10_toss_15 ?_
      refine lv_iload_n hx hb dX10_toss_18 rfl (lv_at hl' 2 rfl) ?_
      obtain ⟨j2, hj2, hw2⟩ := wl_get (G := G) (idx_fx (h := h') hm11)
      rw [cell_a3 rfl] at hw2
      obtain ⟨t0, ht0⟩ := ty_get (G := G) (ty := .object RX5) hm11 rfl
      have hin : inR (nI k) 8 := ⟨by rw [nI_toInt (by omega)]; omega, by rw [nI_toInt (by omega)]; omega⟩
      have ek : (nI k).toNatClampNeg = k := by
        show (nI k).toInt.toNat = k
        rw [nI_toInt (by omega)]
        omega
      refine va_aldq (D := (G.1, G.2.1)) (cl := classes) hx hb hK.1 hWd'.2.1 j2 t0 hw2 ht0 (inR_vp hin) dX10_toss_19 ?_
      show W _ _ _ _ _ _ _ _ _ _ _ _ _ _ _ (F0 m 20 ls' [.ref (adr G 12 (nI k).toNatClampNeg)])
      rw [ek]
      obtain ⟨j3, hj3, hw3⟩ := wl_get (G := G) (idx_fx (h := h') hm12)
      rw [cell_ob G h' k rfl] at hw3
      have hw3 : (wl G h')[j3]? = some (adr G 12 k, .inr (5, flds G h' 12 k)) := hw3
      refine va_get (D := (G.1, G.2.1)) (cl := classes) (v := .ref a) (C := RX5) (T := TX5) (N := 5) hx hb hts inX5 hown hK.1 hWd'.2.1 j3 hw3 rfl 0 (by decide) (hts (.fieldLink RX10 117 RX5 "held" "LMeatForDiamonds$Sheep;") (inG (i := 136) (by decide +kernel) rfl)) (fun _ h9 => h9) (show some (va_rf (h'.2.1 12 k 0)) = _ by rw [ea]; rfl) dX10_toss_20 ?_
      have hb7 := (w k hk8).2.1 ho
      refine va_calli (vx_runSW (hh := [(0, 4, 7, 259), (0, 4, 13, 249), (0, 4, 22, 311)]) (As := [.ref a]) (rest := []) ⟨hx, hb, hml, hown, hts⟩ (c_CF l hfl G h' a (S.1 1 k) (S.1 2 k) (hWd'.1 12 k 0 a ea) hb7.1 hb7.2 sp) (vx_cwSW 1 hts (goodG (fun w hw => ?_)) rfl rfl rfl ⟨by decide, by decide, by decide +kernel⟩ ⟨Nat.le_of_ble_eq_true rfl, Nat.le_of_ble_eq_true rfl⟩) ⟨xPc_blind G _ h', Xd_pre hK hWd' hX [aS (some a)]⟩ rfl rfl hl'.1 rfl (Nat.le_of_ble_eq_true rfl) dX10_toss_23 ⟨Nat.le_refl _, Nat.le_refl _⟩) hWd'.2.2.2 (fun q _ h => h) (fun q h => h) (fun r u t H1 locs1 ht hA hp hB hz1 hk1 hS1 => ?_)
      · simp only [va_wsS, List.mem_append, List.mem_cons, List.not_mem_nil, or_false] at hw
        rcases hw with (rfl | rfl | rfl) | rfl | hw
        · exact inG (i := 776) (by decide +kernel) rfl
        · decide +kernel
        · decide +kernel
        · decide +kernel
        · exact hw
      · refine W.iret hx hb hr (fun t2 ht2 hWm => ⟨⟨r, (), rfl, ?_, ⟨hB.1, by rw [ht2]; exact ht ▸ hB.2.1, hB.2.2⟩⟩, hS1.F ht2⟩) hS1.2.2 dX10_toss_26
        rw [hp]
        unfold R_toss cFv
        rw [if_neg (fun z => z q), show nN (nI k) = k from ek]
    · exact absurd q hz
  · refine lv_iload_n hx hb dX10_toss_10 rfl (lv_at hl' 0 rfl) ?_
    refine lv_goto (tgt := 26) hx hb dX10_toss_11 (by decide) ?_
    refine W.widen (k := 1) (n := 6) (Nat.zero_le _) (Nat.zero_le _) ?_
    exact W.iret hx hb hr (fun t2 ht2 hWm => ⟨⟨rwK S d, (), rfl, (show rwK S d = R_toss S d by unfold R_toss; exact (if_pos q).symm), ⟨hWd'.1, by rw [ht2]; exact hWd'.2.1, hWd'.2.2.1⟩⟩, hWd'.2.2.2.F ht2⟩) hWd'.2.2.2.2.2 dX10_toss_26

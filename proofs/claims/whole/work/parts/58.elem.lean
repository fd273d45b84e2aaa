theorem dX10_element_0 : decode cX10_element 0 = .ok (.iload_n 1, 1) := by decide +kernel
theorem dX10_element_1 : decode cX10_element 1 = .ok (.iconst 0, 1) := by decide +kernel
theorem dX10_element_2 : decode cX10_element 2 = .ok (.bipush 7, 2) := by decide +kernel
theorem dX10_element_4 : decode cX10_element 4 = .ok (.invokestatic 59, 3) := by decide +kernel
theorem dX10_element_7 : decode cX10_element 7 = .ok (.ifCond .ne 13, 3) := by decide +kernel
theorem dX10_element_10 : decode cX10_element 10 = .ok (.new 249, 3) := by decide +kernel
theorem dX10_element_13 : decode cX10_element 13 = .ok (.dup, 1) := by decide +kernel
theorem dX10_element_14 : decode cX10_element 14 = .ok (.ldc 251, 2) := by decide +kernel
theorem dX10_element_16 : decode cX10_element 16 = .ok (.invokespecial 253, 3) := by decide +kernel
theorem dX10_element_19 : decode cX10_element 19 = .ok (.athrow, 1) := by decide +kernel
theorem dX10_element_20 : decode cX10_element 20 = .ok (.aload_n 0, 1) := by decide +kernel
theorem dX10_element_21 : decode cX10_element 21 = .ok (.getfield 24, 3) := by decide +kernel
theorem dX10_element_24 : decode cX10_element 24 = .ok (.iload_n 1, 1) := by decide +kernel
theorem dX10_element_25 : decode cX10_element 25 = .ok (.aaload, 1) := by decide +kernel
theorem dX10_element_26 : decode cX10_element 26 = .ok (.getfield 256, 3) := by decide +kernel
theorem dX10_element_29 : decode cX10_element 29 = .ok (.ifCond .eq 22, 3) := by decide +kernel
theorem dX10_element_32 : decode cX10_element 32 = .ok (.iload_n 2, 1) := by decide +kernel
theorem dX10_element_33 : decode cX10_element 33 = .ok (.iconst 0, 1) := by decide +kernel
theorem dX10_element_34 : decode cX10_element 34 = .ok (.aload_n 0, 1) := by decide +kernel
theorem dX10_element_35 : decode cX10_element 35 = .ok (.getfield 24, 3) := by decide +kernel
theorem dX10_element_38 : decode cX10_element 38 = .ok (.iload_n 1, 1) := by decide +kernel
theorem dX10_element_39 : decode cX10_element 39 = .ok (.aaload, 1) := by decide +kernel
theorem dX10_element_40 : decode cX10_element 40 = .ok (.getfield 45, 3) := by decide +kernel
theorem dX10_element_43 : decode cX10_element 43 = .ok (.iconst 1, 1) := by decide +kernel
theorem dX10_element_44 : decode cX10_element 44 = .ok (.isub, 1) := by decide +kernel
theorem dX10_element_45 : decode cX10_element 45 = .ok (.invokestatic 59, 3) := by decide +kernel
theorem dX10_element_48 : decode cX10_element 48 = .ok (.ifCond .ne 14, 3) := by decide +kernel
theorem dX10_element_51 : decode cX10_element 51 = .ok (.new 259, 3) := by decide +kernel
theorem dX10_element_54 : decode cX10_element 54 = .ok (.dup, 1) := by decide +kernel
theorem dX10_element_55 : decode cX10_element 55 = .ok (.ldc_w 261, 3) := by decide +kernel
theorem dX10_element_58 : decode cX10_element 58 = .ok (.invokespecial 263, 3) := by decide +kernel
theorem dX10_element_61 : decode cX10_element 61 = .ok (.athrow, 1) := by decide +kernel
theorem dX10_element_62 : decode cX10_element 62 = .ok (.aload_n 0, 1) := by decide +kernel
theorem dX10_element_63 : decode cX10_element 63 = .ok (.getfield 24, 3) := by decide +kernel
theorem dX10_element_66 : decode cX10_element 66 = .ok (.iload_n 1, 1) := by decide +kernel
theorem dX10_element_67 : decode cX10_element 67 = .ok (.aaload, 1) := by decide +kernel
theorem dX10_element_68 : decode cX10_element 68 = .ok (.getfield 49, 3) := by decide +kernel
theorem dX10_element_71 : decode cX10_element 71 = .ok (.iload_n 2, 1) := by decide +kernel
theorem dX10_element_72 : decode cX10_element 72 = .ok (.iaload, 1) := by decide +kernel
theorem dX10_element_73 : decode cX10_element 73 = .ok (.i2l, 1) := by decide +kernel
theorem dX10_element_74 : decode cX10_element 74 = .ok (.lreturn, 1) := by decide +kernel
theorem ng_A : ∀ w ∈ (vx_atS RX10 253 "java/lang/IllegalArgumentException" eNs).filter (fun w => !goodWord w), w ∈ eW := by decide +kernel
theorem ot_A : ∀ w ∈ Cond.classLink RX10 249 "java/lang/IllegalArgumentException" :: Cond.initialized "java/lang/IllegalArgumentException" :: vx_atS RX10 253 "java/lang/IllegalArgumentException" eNs, vx_ot w = true := by decide +kernel
theorem ag_A : ∀ w ∈ (vx_atS RX10 253 "java/lang/IllegalArgumentException" eNs).filter goodWord, w ∈ lw_g := by decide +kernel
theorem ng_S : ∀ w ∈ (vx_atS RX10 263 "java/lang/IllegalStateException" eNs).filter (fun w => !goodWord w), w ∈ eW := by decide +kernel
theorem ot_S : ∀ w ∈ Cond.classLink RX10 259 "java/lang/IllegalStateException" :: Cond.initialized "java/lang/IllegalStateException" :: vx_atS RX10 263 "java/lang/IllegalStateException" eNs, vx_ot w = true := by decide +kernel
theorem ag_S : ∀ w ∈ (vx_atS RX10 263 "java/lang/IllegalStateException" eNs).filter goodWord, w ∈ lw_g := by decide +kernel
abbrev rmE : Room := { frames := 6, cells := 1, slots := 6, locals := 90 }
theorem ifs_ne {c : Prop} [Decidable c] : (if c then nI 1 else nI 0) = 0 ↔ ¬ c := by
  by_cases h : c
  · rw [if_pos h]; exact ⟨fun z => absurd z (by decide), fun z => absurd h z⟩
  · rw [if_neg h]; exact ⟨fun _ => h, fun _ => rfl⟩
set_option maxHeartbeats 4000000 in
set_option maxRecDepth 100000 in
theorem c_el (l : Launch) (hfl : l.stackTraces = false) (G : GL) (h : AH) (S : Sm) (d i : Int32) (cs : CSh h S) (w : WS S) : vx_Met l yX10_element (Cond.code yX10_element cX10_element 3 (some .long) :: lw_g) rmE (xPc G [aR 0 0, aI d, aI i] h) (va_Ql (fun (r : Int64) (_ : Unit) => elT S d i = 0 ∧ r = elV S d i) (fun _ t => Wd0 G h t) (gA0 G)) (vx_X (fun _ : Unit => True) (fun E _ t => ((elT S d i = 1 ∧ E = "java/lang/IllegalArgumentException") ∨ (elT S d i = 2 ∧ E = "java/lang/IllegalStateException")) ∧ Wd0 G h t) (gA0 G)) 1 6 (gA0 G) := by
  refine vx_ofW (cc := cX10_element) (maxL := 3) (ret := some .long) (by decide) rfl ?_
  intro p e s m args below meth c s₁ B hml htab hv
  obtain ⟨rfl, hK, hW, hX⟩ := hv
  have hx := B.exec
  have hb := B.bytes
  have hr := B.returns
  have hts0 := atoms_spec (ws := Cond.code yX10_element cX10_element 3 (some .long) :: lw_g) B.pre
  have hts := fun w (hw : w ∈ lw_g) => hts0 w (List.mem_cons_of_mem _ hw)
  have hown : s.vm.findClass RX10 = some m.cls := findClass_of_methodNamed B.named
  have hlocks := B.notSynchronized
  have hS1 : va_S (gA0 G) s.heap s.heap [] := va_S.rf
  have hP1 := hW.2.1
  have hl := lv_entry ([aR 0 0, aI d, aI i].map (cv G)) (n := 3) (Nat.le_of_ble_eq_true rfl)
  rw [lg_entry_eq]
  generalize (lg_sl ([aR 0 0, aI d, aI i].map (cv G)) ++ List.replicate (3 - (lg_sl ([aR 0 0, aI d, aI i].map (cv G))).length) Slot.unset).toArray = ls at hl ⊢
  have hl : lv_has ls 3 [(0, .ref (adr G 0 0)), (1, .int d), (2, .int i)] := hl
  refine lv_iload_n hx hb dX10_element_0 rfl (lv_at hl 1 rfl) ?_
  refine lv_iconst (v := nI 0) hx hb dX10_element_1 (by decide) ?_
  refine lv_bipush (v := nI 7) hx hb dX10_element_2 (by decide) ?_
  generalize hQf : vx_MQ below _ _ _ s 1 6 (gA0 G) = Qf
  have hcr := cr_RX10_178 G p l e (headSpec (Cond.code yX10_element cX10_element 3 (some .long) :: lw_g) rmE).room s m ([aR 0 0, aI d, aI i].map (cv G)).toArray below meth c cX10_element s.heap [] 0 0 Qf 4 ls [aI (d), aI (nI 0), aI (nI 7)] [] h hx hb (by rw [hml]; exact hl.1.symm) hown hts (Nat.le_of_ble_eq_true rfl) (Nat.le_of_ble_eq_true rfl) (Nat.zero_le _) (Nat.zero_le _) hK ⟨hW.1, hP1, hW.2.2, hS1⟩ (fun v hv => by
    simp only [List.mem_cons, List.not_mem_nil, or_false] at hv
    rcases hv with rfl | rfl | rfl <;> trivial) rfl (by decide) dX10_element_4
  refine hcr (fun x u => x = (if nI 0 ≤ d ∧ d ≤ nI 7 then nI 1 else nI 0) ∧ u = h) (show S_X10_within (d) (nI 0) (nI 7) h (fun x u => x = (if nI 0 ≤ d ∧ d ≤ nI 7 then nI 1 else nI 0) ∧ u = h) from ⟨rfl, rfl⟩) ?_
  intro x h' H' locs' hxx hWd' hsub
  obtain ⟨rfl, rfl⟩ := hxx
  have hP1 := hWd'.2.1
  have hS1 := hWd'.2.2.2
  refine lv_if_ne (tgt := 20) hx hb dX10_element_7 (by decide) (fun q => ?_) (fun q => ?_)
  · have hc : cel d := Classical.byContradiction (fun z => q (ifs_ne.mpr z))
    obtain ⟨k, hk8, rfl⟩ := in8_iff.mp hc
    obtain ⟨c0, c1, c2⟩ := cs k hk8
    have hm0 : (0, 0) ∈ fixed := by decide
    have hm11 : (11, 0) ∈ fixed := by decide
    have hm12 : (12, k) ∈ fixed := fixed_mem.mpr ⟨by decide, hk8⟩
    have hm13 : (13, k) ∈ fixed := fixed_mem.mpr ⟨by decide, hk8⟩
    obtain ⟨j1, hj1, hw1⟩ := wl_get (G := G) (idx_fx (h := h') hm0)
    rw [cell_ob G h' 0 rfl] at hw1
    have hw1 : (wl G h')[j1]? = some (adr G 0 0, .inr (10, flds G h' 0 0)) := hw1
    obtain ⟨j2, hj2, hw2⟩ := wl_get (G := G) (idx_fx (h := h') hm11)
    rw [cell_a3 rfl] at hw2
    obtain ⟨t0, ht0⟩ := ty_get (G := G) (ty := .object RX5) hm11 rfl
    have hin : inR (nI k) 8 := ⟨by rw [nI_toInt (by omega)]; omega, by rw [nI_toInt (by omega)]; omega⟩
    have ek : (nI k).toNatClampNeg = k := by
      show (nI k).toInt.toNat = k
      rw [nI_toInt (by omega)]
      omega
    obtain ⟨j3, hj3, hw3⟩ := wl_get (G := G) (idx_fx (h := h') hm12)
    rw [cell_ob G h' k rfl] at hw3
    have hw3 : (wl G h')[j3]? = some (adr G 12 k, .inr (5, flds G h' 12 k)) := hw3
    obtain ⟨j4, hj4, hw4⟩ := wl_get (G := G) (idx_fx (h := h') hm13)
    rw [cell_a0 rfl] at hw4
    obtain ⟨t1, ht1⟩ := ty_get (G := G) (ty := .int) hm13 rfl
    have w0 := (w k hk8).1
    refine lv_aload_n hx hb dX10_element_20 rfl (lv_at hl 0 rfl) ?_
    refine va_get (D := (G.1, G.2.1)) (cl := classes) (v := .ref (adr G 11 0)) (C := RX10) (T := TX10) (N := 6) hx hb hts inX10 hown hK.1 hP1 j1 hw1 rfl 4 (by decide) (hts (.fieldLink RX10 24 RX10 "shelves" "[LMeatForDiamonds$Shelf;") (inG (i := 160) (by decide +kernel) rfl)) (fun _ h9 => h9) rfl dX10_element_21 ?_
    refine lv_iload_n hx hb dX10_element_24 rfl (lv_at hl 1 rfl) ?_
    refine va_aldq (D := (G.1, G.2.1)) (cl := classes) hx hb hK.1 hP1 j2 t0 hw2 ht0 (inR_vp hin) dX10_element_25 ?_
    show W _ _ _ _ _ _ _ _ _ _ _ _ _ _ _ (F0 m 26 ls (.ref (adr G 12 (nI k).toNatClampNeg) :: _))
    rw [ek]
    refine va_get (D := (G.1, G.2.1)) (cl := classes) (v := .int (h'.1 12 k 1)) (C := RX5) (T := TX5) (N := 5) hx hb hts inX5 hown hK.1 hP1 j3 hw3 rfl 1 (by decide) (hts (.fieldLink RX10 256 RX5 "holdsRow" "Z") (inG (i := 138) (by decide +kernel) rfl)) (fun _ h9 => h9) rfl dX10_element_26 ?_
    refine lv_if_eq (tgt := 51) hx hb dX10_element_29 (by decide) (fun q2 => ?_) (fun q2 => ?_)
    · have hn2 : S.1 0 k ≠ 2 := fun z => absurd ((c2 z).2.1.symm.trans q2) (by decide)
      have eT : elT S (nI k) i = 2 := by unfold elT; rw [if_neg (fun z => z hc), show nN (nI k) = k from ek, if_pos (Or.inl hn2)]
      subst hQf
      obtain ⟨sa, hsa⟩ := hX.2.1.2.2.2.2
      exact vx_throwSW (A := gA0 G) hx hb hfl hown (by decide +kernel) (by decide +kernel) (hts (.classLink RX10 259 "java/lang/IllegalStateException") (by decide +kernel)) (hts (.initialized "java/lang/IllegalStateException") (inG (i := 56) (by decide +kernel) rfl)) hsa (vx_hat (B := eW) (fun w hw => hts w (ag_S w hw)) ng_S (fun w hw => va_Nw.use (eW_ot w hw) (hX.2.2.2.2.2.2 w hw))) ot_S hX.1.1 hX.1.2 hS1 (by rw [hml]; exact hl.1) dX10_element_51 dX10_element_54 dX10_element_55 dX10_element_58 dX10_element_61 (fun x hx => (htab x hx).elim) (by decide) (Nat.le_of_ble_eq_true rfl) (Nat.le_refl _) (Nat.le_refl _) hlocks (fun t hA hz hq => ⟨(), trivial, ⟨Or.inr ⟨eT, rfl⟩, Wd0_new hW.1 hP1 hW.2.2 hq⟩, Nat.le_trans hS1.1 hz, fun y h1 h2 => (hq y (Nat.lt_of_lt_of_le h1 hS1.1)).trans (hS1.2.1 y h1 h2)⟩) (fun z hz => hS1.2.2 z hz) (Nat.le_refl _) (Nat.le_refl _)
    · have h2 : S.1 0 k = 2 := by
        rcases (show S.1 0 k = 0 ∨ S.1 0 k = 1 ∨ S.1 0 k = 2 by omega) with z | z | z
        · exact absurd (c0 z).2 q2
        · exact absurd (c1 z).2 q2
        · exact z
      obtain ⟨-, r1, r2, r3, r4⟩ := c2 h2
      refine lv_iload_n hx hb dX10_element_32 rfl (lv_at hl 2 rfl) ?_
      refine lv_iconst (v := nI 0) hx hb dX10_element_33 (by decide) ?_
      refine lv_aload_n hx hb dX10_element_34 rfl (lv_at hl 0 rfl) ?_
      refine va_get (D := (G.1, G.2.1)) (cl := classes) (v := .ref (adr G 11 0)) (C := RX10) (T := TX10) (N := 6) hx hb hts inX10 hown hK.1 hP1 j1 hw1 rfl 4 (by decide) (hts (.fieldLink RX10 24 RX10 "shelves" "[LMeatForDiamonds$Shelf;") (inG (i := 160) (by decide +kernel) rfl)) (fun _ h9 => h9) rfl dX10_element_35 ?_
      refine lv_iload_n hx hb dX10_element_38 rfl (lv_at hl 1 rfl) ?_
      refine va_aldq (D := (G.1, G.2.1)) (cl := classes) hx hb hK.1 hP1 j2 t0 hw2 ht0 (inR_vp hin) dX10_element_39 ?_
      show W _ _ _ _ _ _ _ _ _ _ _ _ _ _ _ (F0 m 40 ls (.ref (adr G 12 (nI k).toNatClampNeg) :: _))
      rw [ek]
      refine va_get (D := (G.1, G.2.1)) (cl := classes) (v := .int (h'.1 12 k 3)) (C := RX5) (T := TX5) (N := 5) hx hb hts inX5 hown hK.1 hP1 j3 hw3 rfl 3 (by decide) (hts (.fieldLink RX10 45 RX5 "size" "I") (inG (i := 141) (by decide +kernel) rfl)) (fun _ h9 => h9) rfl dX10_element_40 ?_
      rw [r3]
      refine lv_iconst (v := nI 1) hx hb dX10_element_43 (by decide) ?_
      refine lv_isub hx hb dX10_element_44 ?_
      have hcr2 := cr_RX10_178 G p l e (headSpec (Cond.code yX10_element cX10_element 3 (some .long) :: lw_g) rmE).room s m ([aR 0 0, aI (nI k), aI i].map (cv G)).toArray below meth c cX10_element H' locs' 0 0 Qf 45 ls [aI (i), aI (nI 0), aI (nI (S.1 4 k) - nI 1)] [] h' hx hb (by rw [hml]; exact hl.1.symm) hown hts (Nat.le_of_ble_eq_true rfl) (Nat.le_of_ble_eq_true rfl) (Nat.zero_le _) (Nat.zero_le _) hK ⟨hW.1, hP1, hW.2.2, hS1⟩ (fun v hv => by
        simp only [List.mem_cons, List.not_mem_nil, or_false] at hv
        rcases hv with rfl | rfl | rfl <;> trivial) rfl (by decide) dX10_element_45
      refine hcr2 (fun x u => x = (if nI 0 ≤ i ∧ i ≤ nI (S.1 4 k) - nI 1 then nI 1 else nI 0) ∧ u = h') (show S_X10_within (i) (nI 0) (nI (S.1 4 k) - nI 1) h' (fun x u => x = (if nI 0 ≤ i ∧ i ≤ nI (S.1 4 k) - nI 1 then nI 1 else nI 0) ∧ u = h') from ⟨rfl, rfl⟩) ?_
      intro x h3 H3 locs3 hxx hWd3 hsub3
      obtain ⟨rfl, rfl⟩ := hxx
      have hP1 := hWd3.2.1
      have hS1 := hWd3.2.2.2
      refine lv_if_ne (tgt := 62) hx hb dX10_element_48 (by decide) (fun q3 => ?_) (fun q3 => ?_)
      · have hi : nI 0 ≤ i ∧ i ≤ nI (S.1 4 k) - nI 1 := Classical.byContradiction (fun z => q3 (ifs_ne.mpr z))
        have eT : elT S (nI k) i = 0 := by unfold elT; rw [if_neg (fun z => z hc), show nN (nI k) = k from ek, if_neg (by rintro (z | z); exact z h2; exact z hi)]
        have h4b := ((w k hk8).2.2 h2).2
        obtain ⟨j, hj, rfl⟩ := (in_iff (by omega)).mp hi
        have hi100 : inR (nI j) 100 := ⟨by rw [nI_toInt (by omega)]; omega, by rw [nI_toInt (by omega)]; omega⟩
        have ej : (nI j).toNatClampNeg = j := n_cl (by omega)
        refine lv_aload_n hx hb dX10_element_62 rfl (lv_at hl 0 rfl) ?_
        refine va_get (D := (G.1, G.2.1)) (cl := classes) (v := .ref (adr G 11 0)) (C := RX10) (T := TX10) (N := 6) hx hb hts inX10 hown hK.1 hP1 j1 hw1 rfl 4 (by decide) (hts (.fieldLink RX10 24 RX10 "shelves" "[LMeatForDiamonds$Shelf;") (inG (i := 160) (by decide +kernel) rfl)) (fun _ h9 => h9) rfl dX10_element_63 ?_
        refine lv_iload_n hx hb dX10_element_66 rfl (lv_at hl 1 rfl) ?_
        refine va_aldq (D := (G.1, G.2.1)) (cl := classes) hx hb hK.1 hP1 j2 t0 hw2 ht0 (inR_vp hin) dX10_element_67 ?_
        show W _ _ _ _ _ _ _ _ _ _ _ _ _ _ _ (F0 m 68 ls (.ref (adr G 12 (nI k).toNatClampNeg) :: _))
        rw [ek]
        refine va_get (D := (G.1, G.2.1)) (cl := classes) (v := .ref (adr G 13 k)) (C := RX5) (T := TX5) (N := 5) hx hb hts inX5 hown hK.1 hP1 j3 hw3 rfl 4 (by decide) (hts (.fieldLink RX10 49 RX5 "elements" "[I") (inG (i := 144) (by decide +kernel) rfl)) (fun _ h9 => h9) rfl dX10_element_68 ?_
        refine lv_iload_n hx hb dX10_element_71 rfl (lv_at hl 2 rfl) ?_
        refine va_iald (D := (G.1, G.2.1)) (cl := classes) hx hb hK.1 hP1 j4 t1 hw4 ht1 (inR_vp hi100) dX10_element_72 ?_
        rw [ej, r4 j (by omega)]
        refine lv_i2l (v := (S.2 k j).toInt64) hx hb dX10_element_73 rfl ?_
        subst hQf
        refine vx_ret (W.widen (k := 1) (n := 6) (Nat.zero_le _) (Nat.zero_le _) ?_)
        exact W.lret hx hb hr (fun t2 ht2 hWm => ⟨⟨(S.2 k j).toInt64, (), rfl, ⟨eT, (show _ = elV S (nI k) (nI j) by unfold elV; rw [if_pos eT, show nN (nI k) = k from ek, show nN (nI j) = j from ej])⟩, ⟨hW.1, by rw [ht2]; exact hP1, hW.2.2⟩⟩, hS1.F ht2⟩) hS1.2.2 dX10_element_74
      · have hi : ¬ (nI 0 ≤ i ∧ i ≤ nI (S.1 4 k) - nI 1) := ifs_ne.mp q3
        have eT : elT S (nI k) i = 2 := by unfold elT; rw [if_neg (fun z => z hc), show nN (nI k) = k from ek, if_pos (Or.inr hi)]
        subst hQf
        obtain ⟨sa, hsa⟩ := hX.2.1.2.2.2.2
        exact vx_throwSW (A := gA0 G) hx hb hfl hown (by decide +kernel) (by decide +kernel) (hts (.classLink RX10 259 "java/lang/IllegalStateException") (by decide +kernel)) (hts (.initialized "java/lang/IllegalStateException") (inG (i := 56) (by decide +kernel) rfl)) hsa (vx_hat (B := eW) (fun w hw => hts w (ag_S w hw)) ng_S (fun w hw => va_Nw.use (eW_ot w hw) (hX.2.2.2.2.2.2 w hw))) ot_S hX.1.1 hX.1.2 hS1 (by rw [hml]; exact hl.1) dX10_element_51 dX10_element_54 dX10_element_55 dX10_element_58 dX10_element_61 (fun x hx => (htab x hx).elim) (by decide) (Nat.le_of_ble_eq_true rfl) (Nat.le_refl _) (Nat.le_refl _) hlocks (fun t hA hz hq => ⟨(), trivial, ⟨Or.inr ⟨eT, rfl⟩, Wd0_new hW.1 hP1 hW.2.2 hq⟩, Nat.le_trans hS1.1 hz, fun y h1 h2 => (hq y (Nat.lt_of_lt_of_le h1 hS1.1)).trans (hS1.2.1 y h1 h2)⟩) (fun z hz => hS1.2.2 z hz) (Nat.le_refl _) (Nat.le_refl _)
  · have hc : ¬ cel d := ifs_ne.mp q
    have eT : elT S d i = 1 := by unfold elT; rw [if_pos hc]
    subst hQf
    obtain ⟨sa, hsa⟩ := hX.2.1.2.2.2.1
    exact vx_throwS (A := gA0 G) hx hb hfl hown (by decide +kernel) (by decide +kernel) (hts (.classLink RX10 249 "java/lang/IllegalArgumentException") (by decide +kernel)) (hts (.initialized "java/lang/IllegalArgumentException") (inG (i := 55) (by decide +kernel) rfl)) hsa (vx_hat (B := eW) (fun w hw => hts w (ag_A w hw)) ng_A (fun w hw => va_Nw.use (eW_ot w hw) (hX.2.2.2.2.2.2 w hw))) ot_A hX.1.1 hX.1.2 hS1 (by rw [hml]; exact hl.1) dX10_element_10 dX10_element_13 dX10_element_14 dX10_element_16 dX10_element_19 (fun x hx => (htab x hx).elim) (by decide) (Nat.le_of_ble_eq_true rfl) (Nat.le_refl _) (Nat.le_refl _) hlocks (fun t hA hz hq => ⟨(), trivial, ⟨Or.inl ⟨eT, rfl⟩, Wd0_new hW.1 hP1 hW.2.2 hq⟩, Nat.le_trans hS1.1 hz, fun y h1 h2 => (hq y (Nat.lt_of_lt_of_le h1 hS1.1)).trans (hS1.2.1 y h1 h2)⟩) (fun z hz => hS1.2.2 z hz) (Nat.le_refl _) (Nat.le_refl _)

theorem dX10_caughtFailure_0 : decode cX10_caughtFailure 0 = .ok (.aload_n 0, 1) := by decide +kernel
theorem dX10_caughtFailure_1 : decode cX10_caughtFailure 1 = .ok (.invokevirtual 308, 3) := by decide +kernel
theorem dX10_caughtFailure_4 : decode cX10_caughtFailure 4 = .ok (.goto 28, 3) := by decide +kernel
theorem dX10_caughtFailure_7 : decode cX10_caughtFailure 7 = .ok (.astore_n 1, 1) := by decide +kernel
theorem dX10_caughtFailure_8 : decode cX10_caughtFailure 8 = .ok (.aload_n 0, 1) := by decide +kernel
theorem dX10_caughtFailure_9 : decode cX10_caughtFailure 9 = .ok (.getfield 96, 3) := by decide +kernel
theorem dX10_caughtFailure_12 : decode cX10_caughtFailure 12 = .ok (.ireturn, 1) := by decide +kernel
theorem dX10_caughtFailure_13 : decode cX10_caughtFailure 13 = .ok (.astore_n 1, 1) := by decide +kernel
theorem dX10_caughtFailure_14 : decode cX10_caughtFailure 14 = .ok (.bipush 100, 2) := by decide +kernel
theorem dX10_caughtFailure_16 : decode cX10_caughtFailure 16 = .ok (.aload_n 0, 1) := by decide +kernel
theorem dX10_caughtFailure_17 : decode cX10_caughtFailure 17 = .ok (.getfield 96, 3) := by decide +kernel
theorem dX10_caughtFailure_20 : decode cX10_caughtFailure 20 = .ok (.iadd, 1) := by decide +kernel
theorem dX10_caughtFailure_21 : decode cX10_caughtFailure 21 = .ok (.ireturn, 1) := by decide +kernel
theorem dX10_caughtFailure_22 : decode cX10_caughtFailure 22 = .ok (.astore_n 1, 1) := by decide +kernel
theorem dX10_caughtFailure_23 : decode cX10_caughtFailure 23 = .ok (.sipush 200, 3) := by decide +kernel
theorem dX10_caughtFailure_26 : decode cX10_caughtFailure 26 = .ok (.aload_n 0, 1) := by decide +kernel
theorem dX10_caughtFailure_27 : decode cX10_caughtFailure 27 = .ok (.getfield 276, 3) := by decide +kernel
theorem dX10_caughtFailure_30 : decode cX10_caughtFailure 30 = .ok (.iadd, 1) := by decide +kernel
theorem dX10_caughtFailure_31 : decode cX10_caughtFailure 31 = .ok (.ireturn, 1) := by decide +kernel
theorem dX10_caughtFailure_32 : decode cX10_caughtFailure 32 = .ok (.bipush (-15), 2) := by decide +kernel
theorem dX10_caughtFailure_34 : decode cX10_caughtFailure 34 = .ok (.ireturn, 1) := by decide +kernel
/-- what a sheep answers that is tossed -/
def cFv (i j : Nat) : Int32 := if i = 7 ∨ j = 0 then iI (-15) else if i = 3 then nI (200 + cstk i j) else if i = 2 ∨ i = 5 then nI (100 + j) else nI j
set_option maxHeartbeats 4000000 in
set_option maxRecDepth 100000 in
theorem c_CF0 (l : Launch) (hfl : l.stackTraces = false) (G : GL) (h : AH) (a j : Nat) (ha : a ∈ h.2.2) (hj : j < 10) (sp : SHP h (some a) 0 j) : Met l yX10_caughtFailure (Cond.codeWith yX10_caughtFailure cX10_caughtFailure 2 (some .int) [(0, 4, 7, 259), (0, 4, 13, 249), (0, 4, 22, 311)] :: lw_g) ({ frames := 7, cells := 1, slots := 6, locals := 110 }) (xPc G [aS (some a)] h) (va_Qi (fun (r : Int32) (_ : Unit) => r = cFv 0 j) (fun _ t => Wd0 G h t) (gA0 G)) 1 6 (gA0 G) := by
  refine met_ofWH (cc := cX10_caughtFailure) (maxL := 2) (ret := some .int) (hh := [(0, 4, 7, 259), (0, 4, 13, 249), (0, 4, 22, 311)]) (by decide) rfl ?_
  intro p e s m args below meth c s₁ B hml hv
  obtain ⟨rfl, hK, hW, hX⟩ := hv
  have hx := B.exec
  have hb := B.bytes
  have hr := B.returns
  have hts0 := atoms_spec (ws := Cond.codeWith yX10_caughtFailure cX10_caughtFailure 2 (some .int) [(0, 4, 7, 259), (0, 4, 13, 249), (0, 4, 22, 311)] :: lw_g) B.pre
  have hts := fun w (hw : w ∈ lw_g) => hts0 w (List.mem_cons_of_mem _ hw)
  have hown : s.vm.findClass RX10 = some m.cls := findClass_of_methodNamed B.named
  have hlocks := B.notSynchronized
  have htab : c.exceptionTable.toList = [⟨0, 4, 7, 259⟩, ⟨0, 4, 13, 249⟩, ⟨0, 4, 22, 311⟩] := vx_table (x := yX10_caughtFailure) B (hts0 _ List.mem_cons_self)
  have hS : va_S (gA0 G) s.heap s.heap [] := va_S.rf
  have hl := lv_entry ([aS (some a)].map (cv G)) (n := 2) (Nat.le_of_ble_eq_true rfl)
  rw [lg_entry_eq]
  generalize (lg_sl ([aS (some a)].map (cv G)) ++ List.replicate (2 - (lg_sl ([aS (some a)].map (cv G))).length) Slot.unset).toArray = ls at hl ⊢
  have hl : lv_has ls 2 [(0, .ref a)] := hl
  obtain ⟨a0, e9, s0, s1, s2, s3, s4, s5, s6⟩ := sp
  cases e9
  obtain ⟨j0, hj0, hw⟩ := wl_get (G := G) (idx_sh ha)
  rw [cell_ob G h a rfl] at hw
  have hw : (wl G h)[j0]? = some (a, .inr (ocl h 18 a, flds G h 18 a)) := hw
  have hcl : classes[ocl h 18 a]? = some (RX4, TX4, 7) := by
    show classes[kcls (h.1 18 a 0)]? = _
    rw [s0]
    rfl
  have hin : ∀ w ∈ u_ws RX4 TX4 7, w ∈ lw_g := inX4
  have hcu : va_CU ({ frames := 7, cells := 1, slots := 6, locals := 110 }) s ([aS (some a)].map (cv G)).toArray RX10 RX4 RX4 308 yX4_fail yX4_fail cX4_fail 1 none (Cond.code yX4_fail cX4_fail 1 none :: lw_g) ({ frames := 6, cells := 1, slots := 6, locals := 90 }) 1 6 0 := by
    refine va_cwU (own := RX10) (C := RX4) (owner := RX4) (index := 308) (x := yX4_fail) 0 hts (goodG (fun w hw => ?_)) rfl rfl rfl rfl ⟨by decide, by decide, by decide +kernel⟩ ⟨Nat.le_of_ble_eq_true rfl, Nat.le_of_ble_eq_true rfl⟩
    simp only [va_wsU, List.mem_append, List.mem_cons, List.not_mem_nil, or_false] at hw
    rcases hw with (rfl | rfl | rfl | rfl | rfl) | rfl | hw
    · decide +kernel
    · decide +kernel
    · decide +kernel
    · decide +kernel
    · decide +kernel
    · decide +kernel
    · exact hw
  refine lv_aload_n hx hb dX10_caughtFailure_0 rfl (lv_at hl 0 rfl) ?_
  refine vx_callv (vx_runU (As := []) (rest := []) (b := a) ⟨hx, hb, hml, hown, hts⟩ (c_F4 l hfl G h a ha) hcu ⟨xPc_blind G _ h, va_recv hK.1 hW.2.1 hcl hw, Xd_pre hK ⟨hW.1, hW.2.1, hW.2.2, hS⟩ hX [aS (some a)]⟩ rfl rfl hl.1 rfl (Nat.le_of_ble_eq_true rfl) dX10_caughtFailure_1 ⟨Nat.le_refl _, Nat.le_refl _⟩) hS (fun q _ h => h) (fun q h => h) (fun q _ h => h) (fun E ce q9 u t H1 locs1 ht hA hp hBX hz hk hS1 hq9 hcev hcls => ?_) (fun u t H1 locs1 ht hA hp hB hz hk hS1 => ?_)
  · obtain ⟨rfl, hB⟩ := hBX
    have hP1 : va_P (G.1, G.2.1) classes (wl G h) H1 := ht ▸ hB.2.1
    have hp : ¬ j = 0 := fun z => hp (by rw [s1, z]; rfl)
    refine vx_catch (own := RX10) (name := eS) (E := eS) hown [] ⟨0, 4, 7, 259⟩ [⟨0, 4, 13, 249⟩, ⟨0, 4, 22, 311⟩] htab (fun z hz => nomatch hz) (by decide) (by decide) (hts (.classLink RX10 259 eS) (by decide +kernel)) (va_Nw.use rfl (hX.2.2.2.2.2.2 (.castable eS eS) (by decide +kernel))) hq9 hcev hcls ?_
    refine lv_astore_n hx hb dX10_caughtFailure_7 rfl hl (by decide) rfl (fun ls' hl' => ?_)
    refine lv_aload_n hx hb dX10_caughtFailure_8 rfl (lv_at hl' 1 rfl) ?_
    refine va_get (D := (G.1, G.2.1)) (cl := classes) (v := .int (h.1 18 a 1)) hx hb hts hin hown hK.1 hP1 j0 hw hcl 1 (by decide) (hts (.fieldLink RX10 96 RX4 "figure" "I") (inG (i := 254) (by decide +kernel) rfl)) (fun _ h9 => h9) (show (flds G h 18 a)[1]? = some (.int (h.1 18 a 1)) from rfl) dX10_caughtFailure_9 ?_
    exact W.iret hx hb hr (fun t2 ht2 hWm => ⟨⟨h.1 18 a 1, (), rfl, by unfold cFv; rw [if_neg (by omega), if_neg (by omega), if_neg (by omega)]; exact s1, ⟨hB.1, by rw [ht2]; exact hP1, hB.2.2⟩⟩, hS1.F ht2⟩) hS1.2.2 dX10_caughtFailure_12
  · rw [s1] at hp
    have hp0 : j = 0 := by rcases (show j = 0 ∨ j = 1 ∨ j = 2 ∨ j = 3 ∨ j = 4 ∨ j = 5 ∨ j = 6 ∨ j = 7 ∨ j = 8 ∨ j = 9 by omega) with rfl | rfl | rfl | rfl | rfl | rfl | rfl | rfl | rfl | rfl <;> first | rfl | exact absurd hp (by decide)
    refine lv_goto (tgt := 32) hx hb dX10_caughtFailure_4 (by decide) ?_
    refine lv_bipush (v := iI (-15)) hx hb dX10_caughtFailure_32 (by decide) ?_
    exact W.iret hx hb hr (fun t2 ht2 hWm => ⟨⟨iI (-15), (), rfl, by unfold cFv; rw [if_pos (Or.inr hp0)], ⟨hB.1, by rw [ht2]; exact ht ▸ hB.2.1, hB.2.2⟩⟩, hS1.F ht2⟩) hS1.2.2 dX10_caughtFailure_34
set_option maxHeartbeats 4000000 in
set_option maxRecDepth 100000 in
theorem c_CF1 (l : Launch) (hfl : l.stackTraces = false) (G : GL) (h : AH) (a j : Nat) (ha : a ∈ h.2.2) (hj : j < 10) (sp : SHP h (some a) 1 j) : Met l yX10_caughtFailure (Cond.codeWith yX10_caughtFailure cX10_caughtFailure 2 (some .int) [(0, 4, 7, 259), (0, 4, 13, 249), (0, 4, 22, 311)] :: lw_g) ({ frames := 7, cells := 1, slots := 6, locals := 110 }) (xPc G [aS (some a)] h) (va_Qi (fun (r : Int32) (_ : Unit) => r = cFv 1 j) (fun _ t => Wd0 G h t) (gA0 G)) 1 6 (gA0 G) := by
  refine met_ofWH (cc := cX10_caughtFailure) (maxL := 2) (ret := some .int) (hh := [(0, 4, 7, 259), (0, 4, 13, 249), (0, 4, 22, 311)]) (by decide) rfl ?_
  intro p e s m args below meth c s₁ B hml hv
  obtain ⟨rfl, hK, hW, hX⟩ := hv
  have hx := B.exec
  have hb := B.bytes
  have hr := B.returns
  have hts0 := atoms_spec (ws := Cond.codeWith yX10_caughtFailure cX10_caughtFailure 2 (some .int) [(0, 4, 7, 259), (0, 4, 13, 249), (0, 4, 22, 311)] :: lw_g) B.pre
  have hts := fun w (hw : w ∈ lw_g) => hts0 w (List.mem_cons_of_mem _ hw)
  have hown : s.vm.findClass RX10 = some m.cls := findClass_of_methodNamed B.named
  have hlocks := B.notSynchronized
  have htab : c.exceptionTable.toList = [⟨0, 4, 7, 259⟩, ⟨0, 4, 13, 249⟩, ⟨0, 4, 22, 311⟩] := vx_table (x := yX10_caughtFailure) B (hts0 _ List.mem_cons_self)
  have hS : va_S (gA0 G) s.heap s.heap [] := va_S.rf
  have hl := lv_entry ([aS (some a)].map (cv G)) (n := 2) (Nat.le_of_ble_eq_true rfl)
  rw [lg_entry_eq]
  generalize (lg_sl ([aS (some a)].map (cv G)) ++ List.replicate (2 - (lg_sl ([aS (some a)].map (cv G))).length) Slot.unset).toArray = ls at hl ⊢
  have hl : lv_has ls 2 [(0, .ref a)] := hl
  obtain ⟨a0, e9, s0, s1, s2, s3, s4, s5, s6⟩ := sp
  cases e9
  obtain ⟨j0, hj0, hw⟩ := wl_get (G := G) (idx_sh ha)
  rw [cell_ob G h a rfl] at hw
  have hw : (wl G h)[j0]? = some (a, .inr (ocl h 18 a, flds G h 18 a)) := hw
  have hcl : classes[ocl h 18 a]? = some (RX7, TX4, 7) := by
    show classes[kcls (h.1 18 a 0)]? = _
    rw [s0]
    rfl
  have hin : ∀ w ∈ u_ws RX7 TX4 7, w ∈ lw_g := inX7
  have hcu : va_CU ({ frames := 7, cells := 1, slots := 6, locals := 110 }) s ([aS (some a)].map (cv G)).toArray RX10 RX7 RX4 308 yX4_fail yX4_fail cX4_fail 1 none (Cond.code yX4_fail cX4_fail 1 none :: lw_g) ({ frames := 6, cells := 1, slots := 6, locals := 90 }) 1 6 0 := by
    refine va_cwU (own := RX10) (C := RX7) (owner := RX4) (index := 308) (x := yX4_fail) 0 hts (goodG (fun w hw => ?_)) rfl rfl rfl rfl ⟨by decide, by decide, by decide +kernel⟩ ⟨Nat.le_of_ble_eq_true rfl, Nat.le_of_ble_eq_true rfl⟩
    simp only [va_wsU, List.mem_append, List.mem_cons, List.not_mem_nil, or_false] at hw
    rcases hw with (rfl | rfl | rfl | rfl | rfl) | rfl | hw
    · decide +kernel
    · decide +kernel
    · decide +kernel
    · decide +kernel
    · decide +kernel
    · decide +kernel
    · exact hw
  refine lv_aload_n hx hb dX10_caughtFailure_0 rfl (lv_at hl 0 rfl) ?_
  refine vx_callv (vx_runU (As := []) (rest := []) (b := a) ⟨hx, hb, hml, hown, hts⟩ (c_F4 l hfl G h a ha) hcu ⟨xPc_blind G _ h, va_recv hK.1 hW.2.1 hcl hw, Xd_pre hK ⟨hW.1, hW.2.1, hW.2.2, hS⟩ hX [aS (some a)]⟩ rfl rfl hl.1 rfl (Nat.le_of_ble_eq_true rfl) dX10_caughtFailure_1 ⟨Nat.le_refl _, Nat.le_refl _⟩) hS (fun q _ h => h) (fun q h => h) (fun q _ h => h) (fun E ce q9 u t H1 locs1 ht hA hp hBX hz hk hS1 hq9 hcev hcls => ?_) (fun u t H1 locs1 ht hA hp hB hz hk hS1 => ?_)
  · obtain ⟨rfl, hB⟩ := hBX
    have hP1 : va_P (G.1, G.2.1) classes (wl G h) H1 := ht ▸ hB.2.1
    have hp : ¬ j = 0 := fun z => hp (by rw [s1, z]; rfl)
    refine vx_catch (own := RX10) (name := eS) (E := eS) hown [] ⟨0, 4, 7, 259⟩ [⟨0, 4, 13, 249⟩, ⟨0, 4, 22, 311⟩] htab (fun z hz => nomatch hz) (by decide) (by decide) (hts (.classLink RX10 259 eS) (by decide +kernel)) (va_Nw.use rfl (hX.2.2.2.2.2.2 (.castable eS eS) (by decide +kernel))) hq9 hcev hcls ?_
    refine lv_astore_n hx hb dX10_caughtFailure_7 rfl hl (by decide) rfl (fun ls' hl' => ?_)
    refine lv_aload_n hx hb dX10_caughtFailure_8 rfl (lv_at hl' 1 rfl) ?_
    refine va_get (D := (G.1, G.2.1)) (cl := classes) (v := .int (h.1 18 a 1)) hx hb hts hin hown hK.1 hP1 j0 hw hcl 1 (by decide) (hts (.fieldLink RX10 96 RX4 "figure" "I") (inG (i := 254) (by decide +kernel) rfl)) (fun _ h9 => h9) (show (flds G h 18 a)[1]? = some (.int (h.1 18 a 1)) from rfl) dX10_caughtFailure_9 ?_
    exact W.iret hx hb hr (fun t2 ht2 hWm => ⟨⟨h.1 18 a 1, (), rfl, by unfold cFv; rw [if_neg (by omega), if_neg (by omega), if_neg (by omega)]; exact s1, ⟨hB.1, by rw [ht2]; exact hP1, hB.2.2⟩⟩, hS1.F ht2⟩) hS1.2.2 dX10_caughtFailure_12
  · rw [s1] at hp
    have hp0 : j = 0 := by rcases (show j = 0 ∨ j = 1 ∨ j = 2 ∨ j = 3 ∨ j = 4 ∨ j = 5 ∨ j = 6 ∨ j = 7 ∨ j = 8 ∨ j = 9 by omega) with rfl | rfl | rfl | rfl | rfl | rfl | rfl | rfl | rfl | rfl <;> first | rfl | exact absurd hp (by decide)
    refine lv_goto (tgt := 32) hx hb dX10_caughtFailure_4 (by decide) ?_
    refine lv_bipush (v := iI (-15)) hx hb dX10_caughtFailure_32 (by decide) ?_
    exact W.iret hx hb hr (fun t2 ht2 hWm => ⟨⟨iI (-15), (), rfl, by unfold cFv; rw [if_pos (Or.inr hp0)], ⟨hB.1, by rw [ht2]; exact ht ▸ hB.2.1, hB.2.2⟩⟩, hS1.F ht2⟩) hS1.2.2 dX10_caughtFailure_34
set_option maxHeartbeats 4000000 in
set_option maxRecDepth 100000 in
theorem c_CF2 (l : Launch) (hfl : l.stackTraces = false) (G : GL) (h : AH) (a j : Nat) (ha : a ∈ h.2.2) (hj : j < 10) (sp : SHP h (some a) 2 j) : Met l yX10_caughtFailure (Cond.codeWith yX10_caughtFailure cX10_caughtFailure 2 (some .int) [(0, 4, 7, 259), (0, 4, 13, 249), (0, 4, 22, 311)] :: lw_g) ({ frames := 7, cells := 1, slots := 6, locals := 110 }) (xPc G [aS (some a)] h) (va_Qi (fun (r : Int32) (_ : Unit) => r = cFv 2 j) (fun _ t => Wd0 G h t) (gA0 G)) 1 6 (gA0 G) := by
  refine met_ofWH (cc := cX10_caughtFailure) (maxL := 2) (ret := some .int) (hh := [(0, 4, 7, 259), (0, 4, 13, 249), (0, 4, 22, 311)]) (by decide) rfl ?_
  intro p e s m args below meth c s₁ B hml hv
  obtain ⟨rfl, hK, hW, hX⟩ := hv
  have hx := B.exec
  have hb := B.bytes
  have hr := B.returns
  have hts0 := atoms_spec (ws := Cond.codeWith yX10_caughtFailure cX10_caughtFailure 2 (some .int) [(0, 4, 7, 259), (0, 4, 13, 249), (0, 4, 22, 311)] :: lw_g) B.pre
  have hts := fun w (hw : w ∈ lw_g) => hts0 w (List.mem_cons_of_mem _ hw)
  have hown : s.vm.findClass RX10 = some m.cls := findClass_of_methodNamed B.named
  have hlocks := B.notSynchronized
  have htab : c.exceptionTable.toList = [⟨0, 4, 7, 259⟩, ⟨0, 4, 13, 249⟩, ⟨0, 4, 22, 311⟩] := vx_table (x := yX10_caughtFailure) B (hts0 _ List.mem_cons_self)
  have hS : va_S (gA0 G) s.heap s.heap [] := va_S.rf
  have hl := lv_entry ([aS (some a)].map (cv G)) (n := 2) (Nat.le_of_ble_eq_true rfl)
  rw [lg_entry_eq]
  generalize (lg_sl ([aS (some a)].map (cv G)) ++ List.replicate (2 - (lg_sl ([aS (some a)].map (cv G))).length) Slot.unset).toArray = ls at hl ⊢
  have hl : lv_has ls 2 [(0, .ref a)] := hl
  obtain ⟨a0, e9, s0, s1, s2, s3, s4, s5, s6⟩ := sp
  cases e9
  obtain ⟨j0, hj0, hw⟩ := wl_get (G := G) (idx_sh ha)
  rw [cell_ob G h a rfl] at hw
  have hw : (wl G h)[j0]? = some (a, .inr (ocl h 18 a, flds G h 18 a)) := hw
  have hcl : classes[ocl h 18 a]? = some (RX2, TX4, 7) := by
    show classes[kcls (h.1 18 a 0)]? = _
    rw [s0]
    rfl
  have hin : ∀ w ∈ u_ws RX2 TX4 7, w ∈ lw_g := inX2
  have hcu : va_CU ({ frames := 7, cells := 1, slots := 6, locals := 110 }) s ([aS (some a)].map (cv G)).toArray RX10 RX2 RX4 308 yX4_fail yX2_fail cX2_fail 1 none (Cond.code yX2_fail cX2_fail 1 none :: lw_g) ({ frames := 6, cells := 1, slots := 6, locals := 90 }) 1 6 0 := by
    refine va_cwO (own := RX10) (C := RX2) (owner := RX4) (index := 308) (x := yX4_fail) (b0 := cX4_fail) (m0 := 1) (r0 := none) 0 hts (goodG (fun w hw => ?_)) rfl rfl rfl (show Cond.code yX4_fail cX4_fail 1 none ∈ lw_g by decide +kernel) ⟨by decide, by decide, by decide +kernel⟩ ⟨Nat.le_of_ble_eq_true rfl, Nat.le_of_ble_eq_true rfl⟩
    simp only [va_wsO, List.mem_append, List.mem_cons, List.not_mem_nil, or_false] at hw
    rcases hw with (rfl | rfl | rfl | rfl | rfl | rfl) | rfl | hw
    · decide +kernel
    · decide +kernel
    · decide +kernel
    · decide +kernel
    · decide +kernel
    · decide +kernel
    · decide +kernel
    · exact hw
  refine lv_aload_n hx hb dX10_caughtFailure_0 rfl (lv_at hl 0 rfl) ?_
  refine vx_callv (vx_runU (As := []) (rest := []) (b := a) ⟨hx, hb, hml, hown, hts⟩ (c_F2 l hfl G h a ha) hcu ⟨xPc_blind G _ h, va_recv hK.1 hW.2.1 hcl hw, Xd_pre hK ⟨hW.1, hW.2.1, hW.2.2, hS⟩ hX [aS (some a)]⟩ rfl rfl hl.1 rfl (Nat.le_of_ble_eq_true rfl) dX10_caughtFailure_1 ⟨Nat.le_refl _, Nat.le_refl _⟩) hS (fun q _ h => h) (fun q h => h) (fun q _ h => h) (fun E ce q9 u t H1 locs1 ht hA hp hBX hz hk hS1 hq9 hcev hcls => ?_) (fun u t H1 locs1 ht hA hp hB hz hk hS1 => ?_)
  · obtain ⟨rfl, hB⟩ := hBX
    have hP1 : va_P (G.1, G.2.1) classes (wl G h) H1 := ht ▸ hB.2.1
    have hp : ¬ j = 0 := fun z => hp (by rw [s1, z]; rfl)
    refine vx_catch (own := RX10) (name := eA) (E := eA) hown [⟨0, 4, 7, 259⟩] ⟨0, 4, 13, 249⟩ [⟨0, 4, 22, 311⟩] htab (List.forall_mem_cons.mpr ⟨Or.inr ⟨by decide, eS, (hts (.classLink RX10 259 eS) (by decide +kernel)), hX.2.2.1⟩, fun z hz => nomatch hz⟩) (by decide) (by decide) (hts (.classLink RX10 249 eA) (by decide +kernel)) (va_Nw.use rfl (hX.2.2.2.2.2.2 (.castable eA eA) (by decide +kernel))) hq9 hcev hcls ?_
    refine lv_astore_n hx hb dX10_caughtFailure_13 rfl hl (by decide) rfl (fun ls' hl' => ?_)
    refine lv_bipush (v := nI 100) hx hb dX10_caughtFailure_14 (by decide) ?_
    refine lv_aload_n hx hb dX10_caughtFailure_16 rfl (lv_at hl' 1 rfl) ?_
    refine va_get (D := (G.1, G.2.1)) (cl := classes) (v := .int (h.1 18 a 1)) hx hb hts hin hown hK.1 hP1 j0 hw hcl 1 (by decide) (hts (.fieldLink RX10 96 RX4 "figure" "I") (inG (i := 254) (by decide +kernel) rfl)) (fun _ h9 => h9) (show (flds G h 18 a)[1]? = some (.int (h.1 18 a 1)) from rfl) dX10_caughtFailure_17 ?_
    refine lv_iadd hx hb dX10_caughtFailure_20 ?_
    exact W.iret hx hb hr (fun t2 ht2 hWm => ⟨⟨nI 100 + h.1 18 a 1, (), rfl, by unfold cFv; rw [if_neg (by omega), if_neg (by omega), if_pos (by omega), s1, nI_add], ⟨hB.1, by rw [ht2]; exact hP1, hB.2.2⟩⟩, hS1.F ht2⟩) hS1.2.2 dX10_caughtFailure_21
  · rw [s1] at hp
    have hp0 : j = 0 := by rcases (show j = 0 ∨ j = 1 ∨ j = 2 ∨ j = 3 ∨ j = 4 ∨ j = 5 ∨ j = 6 ∨ j = 7 ∨ j = 8 ∨ j = 9 by omega) with rfl | rfl | rfl | rfl | rfl | rfl | rfl | rfl | rfl | rfl <;> first | rfl | exact absurd hp (by decide)
    refine lv_goto (tgt := 32) hx hb dX10_caughtFailure_4 (by decide) ?_
    refine lv_bipush (v := iI (-15)) hx hb dX10_caughtFailure_32 (by decide) ?_
    exact W.iret hx hb hr (fun t2 ht2 hWm => ⟨⟨iI (-15), (), rfl, by unfold cFv; rw [if_pos (Or.inr hp0)], ⟨hB.1, by rw [ht2]; exact ht ▸ hB.2.1, hB.2.2⟩⟩, hS1.F ht2⟩) hS1.2.2 dX10_caughtFailure_34
set_option maxHeartbeats 4000000 in
set_option maxRecDepth 100000 in
theorem c_CF3 (l : Launch) (hfl : l.stackTraces = false) (G : GL) (h : AH) (a j : Nat) (ha : a ∈ h.2.2) (hj : j < 10) (sp : SHP h (some a) 3 j) : Met l yX10_caughtFailure (Cond.codeWith yX10_caughtFailure cX10_caughtFailure 2 (some .int) [(0, 4, 7, 259), (0, 4, 13, 249), (0, 4, 22, 311)] :: lw_g) ({ frames := 7, cells := 1, slots := 6, locals := 110 }) (xPc G [aS (some a)] h) (va_Qi (fun (r : Int32) (_ : Unit) => r = cFv 3 j) (fun _ t => Wd0 G h t) (gA0 G)) 1 6 (gA0 G) := by
  refine met_ofWH (cc := cX10_caughtFailure) (maxL := 2) (ret := some .int) (hh := [(0, 4, 7, 259), (0, 4, 13, 249), (0, 4, 22, 311)]) (by decide) rfl ?_
  intro p e s m args below meth c s₁ B hml hv
  obtain ⟨rfl, hK, hW, hX⟩ := hv
  have hx := B.exec
  have hb := B.bytes
  have hr := B.returns
  have hts0 := atoms_spec (ws := Cond.codeWith yX10_caughtFailure cX10_caughtFailure 2 (some .int) [(0, 4, 7, 259), (0, 4, 13, 249), (0, 4, 22, 311)] :: lw_g) B.pre
  have hts := fun w (hw : w ∈ lw_g) => hts0 w (List.mem_cons_of_mem _ hw)
  have hown : s.vm.findClass RX10 = some m.cls := findClass_of_methodNamed B.named
  have hlocks := B.notSynchronized
  have htab : c.exceptionTable.toList = [⟨0, 4, 7, 259⟩, ⟨0, 4, 13, 249⟩, ⟨0, 4, 22, 311⟩] := vx_table (x := yX10_caughtFailure) B (hts0 _ List.mem_cons_self)
  have hS : va_S (gA0 G) s.heap s.heap [] := va_S.rf
  have hl := lv_entry ([aS (some a)].map (cv G)) (n := 2) (Nat.le_of_ble_eq_true rfl)
  rw [lg_entry_eq]
  generalize (lg_sl ([aS (some a)].map (cv G)) ++ List.replicate (2 - (lg_sl ([aS (some a)].map (cv G))).length) Slot.unset).toArray = ls at hl ⊢
  have hl : lv_has ls 2 [(0, .ref a)] := hl
  obtain ⟨a0, e9, s0, s1, s2, s3, s4, s5, s6⟩ := sp
  cases e9
  obtain ⟨j0, hj0, hw⟩ := wl_get (G := G) (idx_sh ha)
  rw [cell_ob G h a rfl] at hw
  have hw : (wl G h)[j0]? = some (a, .inr (ocl h 18 a, flds G h 18 a)) := hw
  have hcl : classes[ocl h 18 a]? = some (RX8, TX4, 7) := by
    show classes[kcls (h.1 18 a 0)]? = _
    rw [s0]
    rfl
  have hin : ∀ w ∈ u_ws RX8 TX4 7, w ∈ lw_g := inX8
  have hcu : va_CU ({ frames := 7, cells := 1, slots := 6, locals := 110 }) s ([aS (some a)].map (cv G)).toArray RX10 RX8 RX4 308 yX4_fail yX8_fail cX8_fail 1 none (Cond.code yX8_fail cX8_fail 1 none :: lw_g) ({ frames := 6, cells := 1, slots := 6, locals := 90 }) 1 6 0 := by
    refine va_cwO (own := RX10) (C := RX8) (owner := RX4) (index := 308) (x := yX4_fail) (b0 := cX4_fail) (m0 := 1) (r0 := none) 0 hts (goodG (fun w hw => ?_)) rfl rfl rfl (show Cond.code yX4_fail cX4_fail 1 none ∈ lw_g by decide +kernel) ⟨by decide, by decide, by decide +kernel⟩ ⟨Nat.le_of_ble_eq_true rfl, Nat.le_of_ble_eq_true rfl⟩
    simp only [va_wsO, List.mem_append, List.mem_cons, List.not_mem_nil, or_false] at hw
    rcases hw with (rfl | rfl | rfl | rfl | rfl | rfl) | rfl | hw
    · decide +kernel
    · decide +kernel
    · decide +kernel
    · decide +kernel
    · decide +kernel
    · decide +kernel
    · decide +kernel
    · exact hw
  refine lv_aload_n hx hb dX10_caughtFailure_0 rfl (lv_at hl 0 rfl) ?_
  refine vx_callv (vx_runU (As := []) (rest := []) (b := a) ⟨hx, hb, hml, hown, hts⟩ (c_F8 l hfl G h a ha) hcu ⟨xPc_blind G _ h, va_recv hK.1 hW.2.1 hcl hw, Xd_pre hK ⟨hW.1, hW.2.1, hW.2.2, hS⟩ hX [aS (some a)]⟩ rfl rfl hl.1 rfl (Nat.le_of_ble_eq_true rfl) dX10_caughtFailure_1 ⟨Nat.le_refl _, Nat.le_refl _⟩) hS (fun q _ h => h) (fun q h => h) (fun q _ h => h) (fun E ce q9 u t H1 locs1 ht hA hp hBX hz hk hS1 hq9 hcev hcls => ?_) (fun u t H1 locs1 ht hA hp hB hz hk hS1 => ?_)
  · obtain ⟨rfl, hB⟩ := hBX
    have hP1 : va_P (G.1, G.2.1) classes (wl G h) H1 := ht ▸ hB.2.1
    have hp : ¬ j = 0 := fun z => hp (by rw [s1, z]; rfl)
    refine vx_catch (own := RX10) (name := eU) (E := eU) hown [⟨0, 4, 7, 259⟩, ⟨0, 4, 13, 249⟩] ⟨0, 4, 22, 311⟩ [] htab (List.forall_mem_cons.mpr ⟨Or.inr ⟨by decide, eS, (hts (.classLink RX10 259 eS) (by decide +kernel)), hX.2.2.2.1⟩, List.forall_mem_cons.mpr ⟨Or.inr ⟨by decide, eA, (hts (.classLink RX10 249 eA) (by decide +kernel)), hX.2.2.2.2.1⟩, fun z hz => nomatch hz⟩⟩) (by decide) (by decide) (hts (.classLink RX10 311 eU) (by decide +kernel)) (va_Nw.use rfl (hX.2.2.2.2.2.2 (.castable eU eU) (by decide +kernel))) hq9 hcev hcls ?_
    refine lv_astore_n hx hb dX10_caughtFailure_22 rfl hl (by decide) rfl (fun ls' hl' => ?_)
    refine lv_sipush (v := nI 200) hx hb dX10_caughtFailure_23 (by decide) ?_
    refine lv_aload_n hx hb dX10_caughtFailure_26 rfl (lv_at hl' 1 rfl) ?_
    refine va_get (D := (G.1, G.2.1)) (cl := classes) (v := .int (h.1 18 a 6)) hx hb hts hin hown hK.1 hP1 j0 hw hcl 6 (by decide) (hts (.fieldLink RX10 276 RX4 "costs" "I") (inG (i := 326) (by decide +kernel) rfl)) (fun _ h9 => h9) (show (flds G h 18 a)[6]? = some (.int (h.1 18 a 6)) from rfl) dX10_caughtFailure_27 ?_
    refine lv_iadd hx hb dX10_caughtFailure_30 ?_
    exact W.iret hx hb hr (fun t2 ht2 hWm => ⟨⟨nI 200 + h.1 18 a 6, (), rfl, by unfold cFv; rw [if_neg (by omega), if_pos rfl, s6, nI_add], ⟨hB.1, by rw [ht2]; exact hP1, hB.2.2⟩⟩, hS1.F ht2⟩) hS1.2.2 dX10_caughtFailure_31
  · rw [s1] at hp
    have hp0 : j = 0 := by rcases (show j = 0 ∨ j = 1 ∨ j = 2 ∨ j = 3 ∨ j = 4 ∨ j = 5 ∨ j = 6 ∨ j = 7 ∨ j = 8 ∨ j = 9 by omega) with rfl | rfl | rfl | rfl | rfl | rfl | rfl | rfl | rfl | rfl <;> first | rfl | exact absurd hp (by decide)
    refine lv_goto (tgt := 32) hx hb dX10_caughtFailure_4 (by decide) ?_
    refine lv_bipush (v := iI (-15)) hx hb dX10_caughtFailure_32 (by decide) ?_
    exact W.iret hx hb hr (fun t2 ht2 hWm => ⟨⟨iI (-15), (), rfl, by unfold cFv; rw [if_pos (Or.inr hp0)], ⟨hB.1, by rw [ht2]; exact ht ▸ hB.2.1, hB.2.2⟩⟩, hS1.F ht2⟩) hS1.2.2 dX10_caughtFailure_34
set_option maxHeartbeats 4000000 in
set_option maxRecDepth 100000 in
theorem c_CF4 (l : Launch) (hfl : l.stackTraces = false) (G : GL) (h : AH) (a j : Nat) (ha : a ∈ h.2.2) (hj : j < 10) (sp : SHP h (some a) 4 j) : Met l yX10_caughtFailure (Cond.codeWith yX10_caughtFailure cX10_caughtFailure 2 (some .int) [(0, 4, 7, 259), (0, 4, 13, 249), (0, 4, 22, 311)] :: lw_g) ({ frames := 7, cells := 1, slots := 6, locals := 110 }) (xPc G [aS (some a)] h) (va_Qi (fun (r : Int32) (_ : Unit) => r = cFv 4 j) (fun _ t => Wd0 G h t) (gA0 G)) 1 6 (gA0 G) := by
  refine met_ofWH (cc := cX10_caughtFailure) (maxL := 2) (ret := some .int) (hh := [(0, 4, 7, 259), (0, 4, 13, 249), (0, 4, 22, 311)]) (by decide) rfl ?_
  intro p e s m args below meth c s₁ B hml hv
  obtain ⟨rfl, hK, hW, hX⟩ := hv
  have hx := B.exec
  have hb := B.bytes
  have hr := B.returns
  have hts0 := atoms_spec (ws := Cond.codeWith yX10_caughtFailure cX10_caughtFailure 2 (some .int) [(0, 4, 7, 259), (0, 4, 13, 249), (0, 4, 22, 311)] :: lw_g) B.pre
  have hts := fun w (hw : w ∈ lw_g) => hts0 w (List.mem_cons_of_mem _ hw)
  have hown : s.vm.findClass RX10 = some m.cls := findClass_of_methodNamed B.named
  have hlocks := B.notSynchronized
  have htab : c.exceptionTable.toList = [⟨0, 4, 7, 259⟩, ⟨0, 4, 13, 249⟩, ⟨0, 4, 22, 311⟩] := vx_table (x := yX10_caughtFailure) B (hts0 _ List.mem_cons_self)
  have hS : va_S (gA0 G) s.heap s.heap [] := va_S.rf
  have hl := lv_entry ([aS (some a)].map (cv G)) (n := 2) (Nat.le_of_ble_eq_true rfl)
  rw [lg_entry_eq]
  generalize (lg_sl ([aS (some a)].map (cv G)) ++ List.replicate (2 - (lg_sl ([aS (some a)].map (cv G))).length) Slot.unset).toArray = ls at hl ⊢
  have hl : lv_has ls 2 [(0, .ref a)] := hl
  obtain ⟨a0, e9, s0, s1, s2, s3, s4, s5, s6⟩ := sp
  cases e9
  obtain ⟨j0, hj0, hw⟩ := wl_get (G := G) (idx_sh ha)
  rw [cell_ob G h a rfl] at hw
  have hw : (wl G h)[j0]? = some (a, .inr (ocl h 18 a, flds G h 18 a)) := hw
  have hcl : classes[ocl h 18 a]? = some (RX3, TX4, 7) := by
    show classes[kcls (h.1 18 a 0)]? = _
    rw [s0]
    rfl
  have hin : ∀ w ∈ u_ws RX3 TX4 7, w ∈ lw_g := inX3
  have hcu : va_CU ({ frames := 7, cells := 1, slots := 6, locals := 110 }) s ([aS (some a)].map (cv G)).toArray RX10 RX3 RX4 308 yX4_fail yX4_fail cX4_fail 1 none (Cond.code yX4_fail cX4_fail 1 none :: lw_g) ({ frames := 6, cells := 1, slots := 6, locals := 90 }) 1 6 0 := by
    refine va_cwU (own := RX10) (C := RX3) (owner := RX4) (index := 308) (x := yX4_fail) 0 hts (goodG (fun w hw => ?_)) rfl rfl rfl rfl ⟨by decide, by decide, by decide +kernel⟩ ⟨Nat.le_of_ble_eq_true rfl, Nat.le_of_ble_eq_true rfl⟩
    simp only [va_wsU, List.mem_append, List.mem_cons, List.not_mem_nil, or_false] at hw
    rcases hw with (rfl | rfl | rfl | rfl | rfl) | rfl | hw
    · decide +kernel
    · decide +kernel
    · decide +kernel
    · decide +kernel
    · decide +kernel
    · decide +kernel
    · exact hw
  refine lv_aload_n hx hb dX10_caughtFailure_0 rfl (lv_at hl 0 rfl) ?_
  refine vx_callv (vx_runU (As := []) (rest := []) (b := a) ⟨hx, hb, hml, hown, hts⟩ (c_F4 l hfl G h a ha) hcu ⟨xPc_blind G _ h, va_recv hK.1 hW.2.1 hcl hw, Xd_pre hK ⟨hW.1, hW.2.1, hW.2.2, hS⟩ hX [aS (some a)]⟩ rfl rfl hl.1 rfl (Nat.le_of_ble_eq_true rfl) dX10_caughtFailure_1 ⟨Nat.le_refl _, Nat.le_refl _⟩) hS (fun q _ h => h) (fun q h => h) (fun q _ h => h) (fun E ce q9 u t H1 locs1 ht hA hp hBX hz hk hS1 hq9 hcev hcls => ?_) (fun u t H1 locs1 ht hA hp hB hz hk hS1 => ?_)
  · obtain ⟨rfl, hB⟩ := hBX
    have hP1 : va_P (G.1, G.2.1) classes (wl G h) H1 := ht ▸ hB.2.1
    have hp : ¬ j = 0 := fun z => hp (by rw [s1, z]; rfl)
    refine vx_catch (own := RX10) (name := eS) (E := eS) hown [] ⟨0, 4, 7, 259⟩ [⟨0, 4, 13, 249⟩, ⟨0, 4, 22, 311⟩] htab (fun z hz => nomatch hz) (by decide) (by decide) (hts (.classLink RX10 259 eS) (by decide +kernel)) (va_Nw.use rfl (hX.2.2.2.2.2.2 (.castable eS eS) (by decide +kernel))) hq9 hcev hcls ?_
    refine lv_astore_n hx hb dX10_caughtFailure_7 rfl hl (by decide) rfl (fun ls' hl' => ?_)
    refine lv_aload_n hx hb dX10_caughtFailure_8 rfl (lv_at hl' 1 rfl) ?_
    refine va_get (D := (G.1, G.2.1)) (cl := classes) (v := .int (h.1 18 a 1)) hx hb hts hin hown hK.1 hP1 j0 hw hcl 1 (by decide) (hts (.fieldLink RX10 96 RX4 "figure" "I") (inG (i := 254) (by decide +kernel) rfl)) (fun _ h9 => h9) (show (flds G h 18 a)[1]? = some (.int (h.1 18 a 1)) from rfl) dX10_caughtFailure_9 ?_
    exact W.iret hx hb hr (fun t2 ht2 hWm => ⟨⟨h.1 18 a 1, (), rfl, by unfold cFv; rw [if_neg (by omega), if_neg (by omega), if_neg (by omega)]; exact s1, ⟨hB.1, by rw [ht2]; exact hP1, hB.2.2⟩⟩, hS1.F ht2⟩) hS1.2.2 dX10_caughtFailure_12
  · rw [s1] at hp
    have hp0 : j = 0 := by rcases (show j = 0 ∨ j = 1 ∨ j = 2 ∨ j = 3 ∨ j = 4 ∨ j = 5 ∨ j = 6 ∨ j = 7 ∨ j = 8 ∨ j = 9 by omega) with rfl | rfl | rfl | rfl | rfl | rfl | rfl | rfl | rfl | rfl <;> first | rfl | exact absurd hp (by decide)
    refine lv_goto (tgt := 32) hx hb dX10_caughtFailure_4 (by decide) ?_
    refine lv_bipush (v := iI (-15)) hx hb dX10_caughtFailure_32 (by decide) ?_
    exact W.iret hx hb hr (fun t2 ht2 hWm => ⟨⟨iI (-15), (), rfl, by unfold cFv; rw [if_pos (Or.inr hp0)], ⟨hB.1, by rw [ht2]; exact ht ▸ hB.2.1, hB.2.2⟩⟩, hS1.F ht2⟩) hS1.2.2 dX10_caughtFailure_34
set_option maxHeartbeats 4000000 in
set_option maxRecDepth 100000 in
theorem c_CF5 (l : Launch) (hfl : l.stackTraces = false) (G : GL) (h : AH) (a j : Nat) (ha : a ∈ h.2.2) (hj : j < 10) (sp : SHP h (some a) 5 j) : Met l yX10_caughtFailure (Cond.codeWith yX10_caughtFailure cX10_caughtFailure 2 (some .int) [(0, 4, 7, 259), (0, 4, 13, 249), (0, 4, 22, 311)] :: lw_g) ({ frames := 7, cells := 1, slots := 6, locals := 110 }) (xPc G [aS (some a)] h) (va_Qi (fun (r : Int32) (_ : Unit) => r = cFv 5 j) (fun _ t => Wd0 G h t) (gA0 G)) 1 6 (gA0 G) := by
  refine met_ofWH (cc := cX10_caughtFailure) (maxL := 2) (ret := some .int) (hh := [(0, 4, 7, 259), (0, 4, 13, 249), (0, 4, 22, 311)]) (by decide) rfl ?_
  intro p e s m args below meth c s₁ B hml hv
  obtain ⟨rfl, hK, hW, hX⟩ := hv
  have hx := B.exec
  have hb := B.bytes
  have hr := B.returns
  have hts0 := atoms_spec (ws := Cond.codeWith yX10_caughtFailure cX10_caughtFailure 2 (some .int) [(0, 4, 7, 259), (0, 4, 13, 249), (0, 4, 22, 311)] :: lw_g) B.pre
  have hts := fun w (hw : w ∈ lw_g) => hts0 w (List.mem_cons_of_mem _ hw)
  have hown : s.vm.findClass RX10 = some m.cls := findClass_of_methodNamed B.named
  have hlocks := B.notSynchronized
  have htab : c.exceptionTable.toList = [⟨0, 4, 7, 259⟩, ⟨0, 4, 13, 249⟩, ⟨0, 4, 22, 311⟩] := vx_table (x := yX10_caughtFailure) B (hts0 _ List.mem_cons_self)
  have hS : va_S (gA0 G) s.heap s.heap [] := va_S.rf
  have hl := lv_entry ([aS (some a)].map (cv G)) (n := 2) (Nat.le_of_ble_eq_true rfl)
  rw [lg_entry_eq]
  generalize (lg_sl ([aS (some a)].map (cv G)) ++ List.replicate (2 - (lg_sl ([aS (some a)].map (cv G))).length) Slot.unset).toArray = ls at hl ⊢
  have hl : lv_has ls 2 [(0, .ref a)] := hl
  obtain ⟨a0, e9, s0, s1, s2, s3, s4, s5, s6⟩ := sp
  cases e9
  obtain ⟨j0, hj0, hw⟩ := wl_get (G := G) (idx_sh ha)
  rw [cell_ob G h a rfl] at hw
  have hw : (wl G h)[j0]? = some (a, .inr (ocl h 18 a, flds G h 18 a)) := hw
  have hcl : classes[ocl h 18 a]? = some (RX1, TX4, 7) := by
    show classes[kcls (h.1 18 a 0)]? = _
    rw [s0]
    rfl
  have hin : ∀ w ∈ u_ws RX1 TX4 7, w ∈ lw_g := inX1
  have hcu : va_CU ({ frames := 7, cells := 1, slots := 6, locals := 110 }) s ([aS (some a)].map (cv G)).toArray RX10 RX1 RX4 308 yX4_fail yX2_fail cX2_fail 1 none (Cond.code yX2_fail cX2_fail 1 none :: lw_g) ({ frames := 6, cells := 1, slots := 6, locals := 90 }) 1 6 0 := by
    refine va_cwO (own := RX10) (C := RX1) (owner := RX4) (index := 308) (x := yX4_fail) (b0 := cX4_fail) (m0 := 1) (r0 := none) 0 hts (goodG (fun w hw => ?_)) rfl rfl rfl (show Cond.code yX4_fail cX4_fail 1 none ∈ lw_g by decide +kernel) ⟨by decide, by decide, by decide +kernel⟩ ⟨Nat.le_of_ble_eq_true rfl, Nat.le_of_ble_eq_true rfl⟩
    simp only [va_wsO, List.mem_append, List.mem_cons, List.not_mem_nil, or_false] at hw
    rcases hw with (rfl | rfl | rfl | rfl | rfl | rfl) | rfl | hw
    · decide +kernel
    · decide +kernel
    · decide +kernel
    · decide +kernel
    · decide +kernel
    · decide +kernel
    · decide +kernel
    · exact hw
  refine lv_aload_n hx hb dX10_caughtFailure_0 rfl (lv_at hl 0 rfl) ?_
  refine vx_callv (vx_runU (As := []) (rest := []) (b := a) ⟨hx, hb, hml, hown, hts⟩ (c_F2 l hfl G h a ha) hcu ⟨xPc_blind G _ h, va_recv hK.1 hW.2.1 hcl hw, Xd_pre hK ⟨hW.1, hW.2.1, hW.2.2, hS⟩ hX [aS (some a)]⟩ rfl rfl hl.1 rfl (Nat.le_of_ble_eq_true rfl) dX10_caughtFailure_1 ⟨Nat.le_refl _, Nat.le_refl _⟩) hS (fun q _ h => h) (fun q h => h) (fun q _ h => h) (fun E ce q9 u t H1 locs1 ht hA hp hBX hz hk hS1 hq9 hcev hcls => ?_) (fun u t H1 locs1 ht hA hp hB hz hk hS1 => ?_)
  · obtain ⟨rfl, hB⟩ := hBX
    have hP1 : va_P (G.1, G.2.1) classes (wl G h) H1 := ht ▸ hB.2.1
    have hp : ¬ j = 0 := fun z => hp (by rw [s1, z]; rfl)
    refine vx_catch (own := RX10) (name := eA) (E := eA) hown [⟨0, 4, 7, 259⟩] ⟨0, 4, 13, 249⟩ [⟨0, 4, 22, 311⟩] htab (List.forall_mem_cons.mpr ⟨Or.inr ⟨by decide, eS, (hts (.classLink RX10 259 eS) (by decide +kernel)), hX.2.2.1⟩, fun z hz => nomatch hz⟩) (by decide) (by decide) (hts (.classLink RX10 249 eA) (by decide +kernel)) (va_Nw.use rfl (hX.2.2.2.2.2.2 (.castable eA eA) (by decide +kernel))) hq9 hcev hcls ?_
    refine lv_astore_n hx hb dX10_caughtFailure_13 rfl hl (by decide) rfl (fun ls' hl' => ?_)
    refine lv_bipush (v := nI 100) hx hb dX10_caughtFailure_14 (by decide) ?_
    refine lv_aload_n hx hb dX10_caughtFailure_16 rfl (lv_at hl' 1 rfl) ?_
    refine va_get (D := (G.1, G.2.1)) (cl := classes) (v := .int (h.1 18 a 1)) hx hb hts hin hown hK.1 hP1 j0 hw hcl 1 (by decide) (hts (.fieldLink RX10 96 RX4 "figure" "I") (inG (i := 254) (by decide +kernel) rfl)) (fun _ h9 => h9) (show (flds G h 18 a)[1]? = some (.int (h.1 18 a 1)) from rfl) dX10_caughtFailure_17 ?_
    refine lv_iadd hx hb dX10_caughtFailure_20 ?_
    exact W.iret hx hb hr (fun t2 ht2 hWm => ⟨⟨nI 100 + h.1 18 a 1, (), rfl, by unfold cFv; rw [if_neg (by omega), if_neg (by omega), if_pos (by omega), s1, nI_add], ⟨hB.1, by rw [ht2]; exact hP1, hB.2.2⟩⟩, hS1.F ht2⟩) hS1.2.2 dX10_caughtFailure_21
  · rw [s1] at hp
    have hp0 : j = 0 := by rcases (show j = 0 ∨ j = 1 ∨ j = 2 ∨ j = 3 ∨ j = 4 ∨ j = 5 ∨ j = 6 ∨ j = 7 ∨ j = 8 ∨ j = 9 by omega) with rfl | rfl | rfl | rfl | rfl | rfl | rfl | rfl | rfl | rfl <;> first | rfl | exact absurd hp (by decide)
    refine lv_goto (tgt := 32) hx hb dX10_caughtFailure_4 (by decide) ?_
    refine lv_bipush (v := iI (-15)) hx hb dX10_caughtFailure_32 (by decide) ?_
    exact W.iret hx hb hr (fun t2 ht2 hWm => ⟨⟨iI (-15), (), rfl, by unfold cFv; rw [if_pos (Or.inr hp0)], ⟨hB.1, by rw [ht2]; exact ht ▸ hB.2.1, hB.2.2⟩⟩, hS1.F ht2⟩) hS1.2.2 dX10_caughtFailure_34
set_option maxHeartbeats 4000000 in
set_option maxRecDepth 100000 in
theorem c_CF6 (l : Launch) (hfl : l.stackTraces = false) (G : GL) (h : AH) (a j : Nat) (ha : a ∈ h.2.2) (hj : j < 10) (sp : SHP h (some a) 6 j) : Met l yX10_caughtFailure (Cond.codeWith yX10_caughtFailure cX10_caughtFailure 2 (some .int) [(0, 4, 7, 259), (0, 4, 13, 249), (0, 4, 22, 311)] :: lw_g) ({ frames := 7, cells := 1, slots := 6, locals := 110 }) (xPc G [aS (some a)] h) (va_Qi (fun (r : Int32) (_ : Unit) => r = cFv 6 j) (fun _ t => Wd0 G h t) (gA0 G)) 1 6 (gA0 G) := by
  refine met_ofWH (cc := cX10_caughtFailure) (maxL := 2) (ret := some .int) (hh := [(0, 4, 7, 259), (0, 4, 13, 249), (0, 4, 22, 311)]) (by decide) rfl ?_
  intro p e s m args below meth c s₁ B hml hv
  obtain ⟨rfl, hK, hW, hX⟩ := hv
  have hx := B.exec
  have hb := B.bytes
  have hr := B.returns
  have hts0 := atoms_spec (ws := Cond.codeWith yX10_caughtFailure cX10_caughtFailure 2 (some .int) [(0, 4, 7, 259), (0, 4, 13, 249), (0, 4, 22, 311)] :: lw_g) B.pre
  have hts := fun w (hw : w ∈ lw_g) => hts0 w (List.mem_cons_of_mem _ hw)
  have hown : s.vm.findClass RX10 = some m.cls := findClass_of_methodNamed B.named
  have hlocks := B.notSynchronized
  have htab : c.exceptionTable.toList = [⟨0, 4, 7, 259⟩, ⟨0, 4, 13, 249⟩, ⟨0, 4, 22, 311⟩] := vx_table (x := yX10_caughtFailure) B (hts0 _ List.mem_cons_self)
  have hS : va_S (gA0 G) s.heap s.heap [] := va_S.rf
  have hl := lv_entry ([aS (some a)].map (cv G)) (n := 2) (Nat.le_of_ble_eq_true rfl)
  rw [lg_entry_eq]
  generalize (lg_sl ([aS (some a)].map (cv G)) ++ List.replicate (2 - (lg_sl ([aS (some a)].map (cv G))).length) Slot.unset).toArray = ls at hl ⊢
  have hl : lv_has ls 2 [(0, .ref a)] := hl
  obtain ⟨a0, e9, s0, s1, s2, s3, s4, s5, s6⟩ := sp
  cases e9
  obtain ⟨j0, hj0, hw⟩ := wl_get (G := G) (idx_sh ha)
  rw [cell_ob G h a rfl] at hw
  have hw : (wl G h)[j0]? = some (a, .inr (ocl h 18 a, flds G h 18 a)) := hw
  have hcl : classes[ocl h 18 a]? = some (RX6, TX4, 7) := by
    show classes[kcls (h.1 18 a 0)]? = _
    rw [s0]
    rfl
  have hin : ∀ w ∈ u_ws RX6 TX4 7, w ∈ lw_g := inX6
  have hcu : va_CU ({ frames := 7, cells := 1, slots := 6, locals := 110 }) s ([aS (some a)].map (cv G)).toArray RX10 RX6 RX4 308 yX4_fail yX4_fail cX4_fail 1 none (Cond.code yX4_fail cX4_fail 1 none :: lw_g) ({ frames := 6, cells := 1, slots := 6, locals := 90 }) 1 6 0 := by
    refine va_cwU (own := RX10) (C := RX6) (owner := RX4) (index := 308) (x := yX4_fail) 0 hts (goodG (fun w hw => ?_)) rfl rfl rfl rfl ⟨by decide, by decide, by decide +kernel⟩ ⟨Nat.le_of_ble_eq_true rfl, Nat.le_of_ble_eq_true rfl⟩
    simp only [va_wsU, List.mem_append, List.mem_cons, List.not_mem_nil, or_false] at hw
    rcases hw with (rfl | rfl | rfl | rfl | rfl) | rfl | hw
    · decide +kernel
    · decide +kernel
    · decide +kernel
    · decide +kernel
    · decide +kernel
    · decide +kernel
    · exact hw
  refine lv_aload_n hx hb dX10_caughtFailure_0 rfl (lv_at hl 0 rfl) ?_
  refine vx_callv (vx_runU (As := []) (rest := []) (b := a) ⟨hx, hb, hml, hown, hts⟩ (c_F4 l hfl G h a ha) hcu ⟨xPc_blind G _ h, va_recv hK.1 hW.2.1 hcl hw, Xd_pre hK ⟨hW.1, hW.2.1, hW.2.2, hS⟩ hX [aS (some a)]⟩ rfl rfl hl.1 rfl (Nat.le_of_ble_eq_true rfl) dX10_caughtFailure_1 ⟨Nat.le_refl _, Nat.le_refl _⟩) hS (fun q _ h => h) (fun q h => h) (fun q _ h => h) (fun E ce q9 u t H1 locs1 ht hA hp hBX hz hk hS1 hq9 hcev hcls => ?_) (fun u t H1 locs1 ht hA hp hB hz hk hS1 => ?_)
  · obtain ⟨rfl, hB⟩ := hBX
    have hP1 : va_P (G.1, G.2.1) classes (wl G h) H1 := ht ▸ hB.2.1
    have hp : ¬ j = 0 := fun z => hp (by rw [s1, z]; rfl)
    refine vx_catch (own := RX10) (name := eS) (E := eS) hown [] ⟨0, 4, 7, 259⟩ [⟨0, 4, 13, 249⟩, ⟨0, 4, 22, 311⟩] htab (fun z hz => nomatch hz) (by decide) (by decide) (hts (.classLink RX10 259 eS) (by decide +kernel)) (va_Nw.use rfl (hX.2.2.2.2.2.2 (.castable eS eS) (by decide +kernel))) hq9 hcev hcls ?_
    refine lv_astore_n hx hb dX10_caughtFailure_7 rfl hl (by decide) rfl (fun ls' hl' => ?_)
    refine lv_aload_n hx hb dX10_caughtFailure_8 rfl (lv_at hl' 1 rfl) ?_
    refine va_get (D := (G.1, G.2.1)) (cl := classes) (v := .int (h.1 18 a 1)) hx hb hts hin hown hK.1 hP1 j0 hw hcl 1 (by decide) (hts (.fieldLink RX10 96 RX4 "figure" "I") (inG (i := 254) (by decide +kernel) rfl)) (fun _ h9 => h9) (show (flds G h 18 a)[1]? = some (.int (h.1 18 a 1)) from rfl) dX10_caughtFailure_9 ?_
    exact W.iret hx hb hr (fun t2 ht2 hWm => ⟨⟨h.1 18 a 1, (), rfl, by unfold cFv; rw [if_neg (by omega), if_neg (by omega), if_neg (by omega)]; exact s1, ⟨hB.1, by rw [ht2]; exact hP1, hB.2.2⟩⟩, hS1.F ht2⟩) hS1.2.2 dX10_caughtFailure_12
  · rw [s1] at hp
    have hp0 : j = 0 := by rcases (show j = 0 ∨ j = 1 ∨ j = 2 ∨ j = 3 ∨ j = 4 ∨ j = 5 ∨ j = 6 ∨ j = 7 ∨ j = 8 ∨ j = 9 by omega) with rfl | rfl | rfl | rfl | rfl | rfl | rfl | rfl | rfl | rfl <;> first | rfl | exact absurd hp (by decide)
    refine lv_goto (tgt := 32) hx hb dX10_caughtFailure_4 (by decide) ?_
    refine lv_bipush (v := iI (-15)) hx hb dX10_caughtFailure_32 (by decide) ?_
    exact W.iret hx hb hr (fun t2 ht2 hWm => ⟨⟨iI (-15), (), rfl, by unfold cFv; rw [if_pos (Or.inr hp0)], ⟨hB.1, by rw [ht2]; exact ht ▸ hB.2.1, hB.2.2⟩⟩, hS1.F ht2⟩) hS1.2.2 dX10_caughtFailure_34
set_option maxHeartbeats 4000000 in
set_option maxRecDepth 100000 in
theorem c_CF7 (l : Launch) (hfl : l.stackTraces = false) (G : GL) (h : AH) (a j : Nat) (ha : a ∈ h.2.2) (hj : j < 10) (sp : SHP h (some a) 7 j) : Met l yX10_caughtFailure (Cond.codeWith yX10_caughtFailure cX10_caughtFailure 2 (some .int) [(0, 4, 7, 259), (0, 4, 13, 249), (0, 4, 22, 311)] :: lw_g) ({ frames := 7, cells := 1, slots := 6, locals := 110 }) (xPc G [aS (some a)] h) (va_Qi (fun (r : Int32) (_ : Unit) => r = cFv 7 j) (fun _ t => Wd0 G h t) (gA0 G)) 1 6 (gA0 G) := by
  refine met_ofWH (cc := cX10_caughtFailure) (maxL := 2) (ret := some .int) (hh := [(0, 4, 7, 259), (0, 4, 13, 249), (0, 4, 22, 311)]) (by decide) rfl ?_
  intro p e s m args below meth c s₁ B hml hv
  obtain ⟨rfl, hK, hW, hX⟩ := hv
  have hx := B.exec
  have hb := B.bytes
  have hr := B.returns
  have hts0 := atoms_spec (ws := Cond.codeWith yX10_caughtFailure cX10_caughtFailure 2 (some .int) [(0, 4, 7, 259), (0, 4, 13, 249), (0, 4, 22, 311)] :: lw_g) B.pre
  have hts := fun w (hw : w ∈ lw_g) => hts0 w (List.mem_cons_of_mem _ hw)
  have hown : s.vm.findClass RX10 = some m.cls := findClass_of_methodNamed B.named
  have hlocks := B.notSynchronized
  have htab : c.exceptionTable.toList = [⟨0, 4, 7, 259⟩, ⟨0, 4, 13, 249⟩, ⟨0, 4, 22, 311⟩] := vx_table (x := yX10_caughtFailure) B (hts0 _ List.mem_cons_self)
  have hS : va_S (gA0 G) s.heap s.heap [] := va_S.rf
  have hl := lv_entry ([aS (some a)].map (cv G)) (n := 2) (Nat.le_of_ble_eq_true rfl)
  rw [lg_entry_eq]
  generalize (lg_sl ([aS (some a)].map (cv G)) ++ List.replicate (2 - (lg_sl ([aS (some a)].map (cv G))).length) Slot.unset).toArray = ls at hl ⊢
  have hl : lv_has ls 2 [(0, .ref a)] := hl
  obtain ⟨a0, e9, s0, s1, s2, s3, s4, s5, s6⟩ := sp
  cases e9
  obtain ⟨j0, hj0, hw⟩ := wl_get (G := G) (idx_sh ha)
  rw [cell_ob G h a rfl] at hw
  have hw : (wl G h)[j0]? = some (a, .inr (ocl h 18 a, flds G h 18 a)) := hw
  have hcl : classes[ocl h 18 a]? = some (RX0, TX4, 7) := by
    show classes[kcls (h.1 18 a 0)]? = _
    rw [s0]
    rfl
  have hin : ∀ w ∈ u_ws RX0 TX4 7, w ∈ lw_g := inX0
  have hcu : va_CU ({ frames := 7, cells := 1, slots := 6, locals := 110 }) s ([aS (some a)].map (cv G)).toArray RX10 RX0 RX4 308 yX4_fail yX0_fail cX0_fail 1 none (Cond.code yX0_fail cX0_fail 1 none :: lw_g) ({ frames := 6, cells := 1, slots := 6, locals := 90 }) 1 6 0 := by
    refine va_cwO (own := RX10) (C := RX0) (owner := RX4) (index := 308) (x := yX4_fail) (b0 := cX4_fail) (m0 := 1) (r0 := none) 0 hts (goodG (fun w hw => ?_)) rfl rfl rfl (show Cond.code yX4_fail cX4_fail 1 none ∈ lw_g by decide +kernel) ⟨by decide, by decide, by decide +kernel⟩ ⟨Nat.le_of_ble_eq_true rfl, Nat.le_of_ble_eq_true rfl⟩
    simp only [va_wsO, List.mem_append, List.mem_cons, List.not_mem_nil, or_false] at hw
    rcases hw with (rfl | rfl | rfl | rfl | rfl | rfl) | rfl | hw
    · decide +kernel
    · decide +kernel
    · decide +kernel
    · decide +kernel
    · decide +kernel
    · decide +kernel
    · decide +kernel
    · exact hw
  refine lv_aload_n hx hb dX10_caughtFailure_0 rfl (lv_at hl 0 rfl) ?_
  refine va_callv (va_runU (As := []) (rest := []) (b := a) ⟨hx, hb, hml, hown, hts⟩ (c_F0 l G h a) hcu ⟨xPc_blind G _ h, va_recv hK.1 hW.2.1 hcl hw, Xd_pre hK ⟨hW.1, hW.2.1, hW.2.2, hS⟩ hX [aS (some a)]⟩ rfl rfl hl.1 rfl (Nat.le_of_ble_eq_true rfl) dX10_caughtFailure_1 ⟨Nat.le_refl _, Nat.le_refl _⟩) hS (fun q _ h => h) (fun q h => h) (fun u t H1 locs1 ht hA hp hB hz hk hS1 => ?_)
  refine lv_goto (tgt := 32) hx hb dX10_caughtFailure_4 (by decide) ?_
  refine lv_bipush (v := iI (-15)) hx hb dX10_caughtFailure_32 (by decide) ?_
  exact W.iret hx hb hr (fun t2 ht2 hWm => ⟨⟨iI (-15), (), rfl, by unfold cFv; rw [if_pos (Or.inl rfl)], ⟨hB.1, by rw [ht2]; exact ht ▸ hB.2.1, hB.2.2⟩⟩, hS1.F ht2⟩) hS1.2.2 dX10_caughtFailure_34

/-! ===== a sheep's failure: thrown and caught ===== -/
abbrev eS : String := "java/lang/IllegalStateException"
abbrev eA : String := "java/lang/IllegalArgumentException"
abbrev eU : String := "java/lang/UnsupportedOperationException"
abbrev eNs : List String := ["java/lang/RuntimeException", "java/lang/Exception"]
abbrev eW : List Cond := [.castable eS eS, .castable eA eA, .castable eU eU, .declares (Bundle.initS Bundle.tN), .declares (Bundle.initS "java/lang/RuntimeException"), .declares (Bundle.initS "java/lang/Exception")]
theorem eW_ot : ∀ w ∈ eW, w.onTables = true := by decide +kernel
theorem eW_warm {s U : State} (hW : s.WarmedH U.vm) (h : ∀ w ∈ eW, va_Nw w s) : ∀ w ∈ eW, va_Nw w U := by
  intro w hw
  have h := h w hw
  simp only [eW, List.mem_cons, List.not_mem_nil, or_false] at hw
  rcases hw with rfl | rfl | rfl | rfl | rfl | rfl <;> first | exact va_Nw.warmC hW h | exact va_Nw.warmD hW h
/-- what a throw asks of the start: two statics of Throwable, five constants, who doesn't catch whom -/
def XG (G : GL) (U : State) (H : Heap) : Prop := (vx_Zq Bundle.tN "UNASSIGNED_STACK" Bundle.steD (gA0 G) U H ∧ vx_Zq Bundle.tN "SUPPRESSED_SENTINEL" Bundle.listD (gA0 G) U H) ∧ ((∃ a, vk_R RX4 33 "a failure" a U) ∧ (∃ a, vk_R RX2 30 "a fat one's failure" a U) ∧ (∃ a, vk_R RX8 24 "a tied one's failure" a U) ∧ (∃ a, vk_R RX10 251 "no such shelf" a U) ∧ ∃ a, vk_R RX10 261 "no row, or no such place in it" a U) ∧ va_Nc eA eS U ∧ va_Nc eU eS U ∧ va_Nc eU eA U ∧ va_Nc eS eA U ∧ ∀ w ∈ eW, va_Nw w U
theorem XG_warm {G : GL} {s U : State} {H H1 : Heap} (hW : s.WarmedH U.vm) (h : XG G s H) (hq : ∀ a : Nat, a < H.size → ¬ gA0 G a → H1[a]? = H[a]?) : XG G U H1 := by
  obtain ⟨⟨z1, z2⟩, ⟨⟨a1, s1⟩, ⟨a2, s2⟩, ⟨a3, s3⟩, ⟨a4, s4⟩, ⟨a5, s5⟩⟩, n1, n2, n3, n4, n5⟩ := h
  exact ⟨⟨(z1.moved hW.alike).kept hq, (z2.moved hW.alike).kept hq⟩, ⟨⟨a1, vk_R.warm hW s1⟩, ⟨a2, vk_R.warm hW s2⟩, ⟨a3, vk_R.warm hW s3⟩, ⟨a4, vk_R.warm hW s4⟩, ⟨a5, vk_R.warm hW s5⟩⟩, n1.moved hW.alike, n2.moved hW.alike, n3.moved hW.alike, n4.moved hW.alike, eW_warm hW n5⟩
theorem XG_same {G : GL} {u U : State} {H : Heap} (hv : U.vm = u.vm) (h : XG G u H) : XG G U H := by
  have hA : u.vm.Alike U.vm := by rw [hv]; exact Jvm.Vm.Alike.refl u.vm
  obtain ⟨⟨z1, z2⟩, ⟨⟨a1, s1⟩, ⟨a2, s2⟩, ⟨a3, s3⟩, ⟨a4, s4⟩, ⟨a5, s5⟩⟩, n1, n2, n3, n4, n5⟩ := h
  exact ⟨⟨z1.moved hA, z2.moved hA⟩, ⟨⟨a1, vk_R.same hv s1⟩, ⟨a2, vk_R.same hv s2⟩, ⟨a3, vk_R.same hv s3⟩, ⟨a4, vk_R.same hv s4⟩, ⟨a5, vk_R.same hv s5⟩⟩, n1.moved hA, n2.moved hA, n3.moved hA, n4.moved hA, fun w hw => va_Nw.same (eW_ot w hw) hv.symm (n5 w hw)⟩
def xPc (G : GL) (as : List AV) (h : AH) : Array Value → State → Prop := va_Pc (as.map (cv G)) (fun U => KG G U ∧ Wd0 G h U ∧ XG G U U.heap)
theorem xPc_blind (G : GL) (as : List AV) (h : AH) : FrameBlind (xPc G as h) := fun a U g mk q => ⟨q.1, KG_call q.2.1 rfl q.2.1.2.1, q.2.2.1, XG_same (u := U) rfl q.2.2.2⟩
theorem Xd_pre {G : GL} {h : AH} {s : State} {H : Heap} {locs : List Loc} (hK : KG G s) (hW : Wd G h s H locs) (hX : XG G s s.heap) (as : List AV) : ∀ U : State, U.heap = H → s.WarmedH U.vm → xPc G as h (as.map (cv G)).toArray U := by
  intro U hU hWm
  refine ⟨rfl, KG_warm hK hWm ?_, ⟨hW.1, by rw [hU]; exact hW.2.1, hW.2.2.1⟩, by rw [hU]; exact XG_warm hWm hX hW.2.2.2.2.1⟩
  rw [hU]
  exact gok_mono hK.2.1 hW.2.2.2.1
theorem Wd0_new {G : GL} {h : AH} {t : State} {H : Heap} (o : okh h) (hP : va_P (G.1, G.2.1) classes (wl G h) H) (hD : va_D (gA0 G) (wl G h)) (hq : ∀ q : Nat, q < H.size → t.heap[q]? = H[q]?) : Wd0 G h t := ⟨o, hP.kept (fun k x hx => hq x.1 ((hP k x hx).lt)), hD⟩
theorem met_ofWH {l : Launch} {y : MethodName} {ws ws' : List Cond} {rm : Room} {Pc : Array Value → State → Prop} {Qc : Array Value → State → Outcome → State → Prop} {mc ms : Nat} {free : Addr → Prop} {cc : ByteArray} {maxL : Nat} {ret : Option FieldType} {hh : List (Nat × Nat × Nat × Nat)}
    (hy : plainName y.cls = true) (hw : ws = Cond.codeWith y cc maxL ret hh :: ws')
    (body : ∀ p e s m args below meth c s₁, BodyLoose p l y (headSpec ws rm) cc maxL ret e s m args below meth c s₁ → c.maxLocals = maxL → Pc args s →
      W p l e (headSpec ws rm).room s m args below meth c s.heap [] 0 0 (MQ below Qc args s mc ms free) (entryFrame m args maxL)) : Met l y ws rm Pc Qc mc ms free := by
  refine MetFree.of_bodyS (code := cc) (maxLocals := maxL) (ret := ret) hy ?_ ?_
  · intro args s m h hn
    obtain ⟨m9, meth, c, hn9, h1, h2, h3, h4, -, h5, h6, -⟩ := Cond.codeWith_spec (atoms_spec (ws := ws) h _ (by rw [hw]; exact List.mem_cons_self))
    cases hn.symm.trans hn9
    exact ⟨meth, c, h1, h2, h3, h4, h5, h6⟩
  · intro p e s m args below meth c s₁ B hml hP _
    have hh0 : s₁.heap = s.heap := by rw [B.state]; rfl
    obtain ⟨t, a1, o, b1, b2, b3⟩ := body p e s m args below meth c s₁ B hml hP s₁ hh0 (Stand.of_body B)
    exact ⟨t, o, a1, b1, b2, ⟨b3.1, b3.2⟩⟩
theorem dX4_fail_0 : decode cX4_fail 0 = .ok (.aload_n 0, 1) := by decide +kernel
theorem dX4_fail_1 : decode cX4_fail 1 = .ok (.getfield 13, 3) := by decide +kernel
theorem dX4_fail_4 : decode cX4_fail 4 = .ok (.ifCond .eq 13, 3) := by decide +kernel
theorem dX4_fail_7 : decode cX4_fail 7 = .ok (.new 31, 3) := by decide +kernel
theorem dX4_fail_10 : decode cX4_fail 10 = .ok (.dup, 1) := by decide +kernel
theorem dX4_fail_11 : decode cX4_fail 11 = .ok (.ldc 33, 2) := by decide +kernel
theorem dX4_fail_13 : decode cX4_fail 13 = .ok (.invokespecial 35, 3) := by decide +kernel
theorem dX4_fail_16 : decode cX4_fail 16 = .ok (.athrow, 1) := by decide +kernel
theorem dX4_fail_17 : decode cX4_fail 17 = .ok (.return_, 1) := by decide +kernel
theorem ng_4 : ∀ w ∈ (vx_atS RX4 35 "java/lang/IllegalStateException" eNs).filter (fun w => !goodWord w), w ∈ eW := by decide +kernel
theorem ot_4 : ∀ w ∈ Cond.classLink RX4 31 "java/lang/IllegalStateException" :: Cond.initialized "java/lang/IllegalStateException" :: vx_atS RX4 35 "java/lang/IllegalStateException" eNs, vx_ot w = true := by decide +kernel
theorem ag_4 : ∀ w ∈ (vx_atS RX4 35 "java/lang/IllegalStateException" eNs).filter goodWord, w ∈ lw_g := by decide +kernel
set_option maxHeartbeats 4000000 in
set_option maxRecDepth 100000 in
theorem c_F4 (l : Launch) (hfl : l.stackTraces = false) (G : GL) (h : AH) (a : Nat) (ha : a ∈ h.2.2) : vx_Met l yX4_fail (Cond.code yX4_fail cX4_fail 1 none :: lw_g) ({ frames := 6, cells := 1, slots := 6, locals := 90 }) (xPc G [aS (some a)] h) (va_Qv (fun _ : Unit => h.1 18 a 1 = 0) (fun _ t => Wd0 G h t) (gA0 G)) (vx_X (fun _ : Unit => ¬ h.1 18 a 1 = 0) (fun E _ t => E = "java/lang/IllegalStateException" ∧ Wd0 G h t) (gA0 G)) 1 6 (gA0 G) := by
  refine vx_ofW (cc := cX4_fail) (maxL := 1) (ret := none) (by decide) rfl ?_
  intro p e s m args below meth c s₁ B hml htab hv
  obtain ⟨rfl, hK, hW, hX⟩ := hv
  have hx := B.exec
  have hb := B.bytes
  have hr := B.returns
  have hts0 := atoms_spec (ws := Cond.code yX4_fail cX4_fail 1 none :: lw_g) B.pre
  have hts := fun w (hw : w ∈ lw_g) => hts0 w (List.mem_cons_of_mem _ hw)
  have hown : s.vm.findClass RX4 = some m.cls := findClass_of_methodNamed B.named
  have hlocks := B.notSynchronized
  have hS : va_S (gA0 G) s.heap s.heap [] := va_S.rf
  have hl := lv_entry ([aS (some a)].map (cv G)) (n := 1) (Nat.le_of_ble_eq_true rfl)
  rw [lg_entry_eq]
  generalize (lg_sl ([aS (some a)].map (cv G)) ++ List.replicate (1 - (lg_sl ([aS (some a)].map (cv G))).length) Slot.unset).toArray = ls at hl ⊢
  have hl : lv_has ls 1 [(0, .ref a)] := hl
  obtain ⟨j, hj, hw⟩ := wl_get (G := G) (idx_sh ha)
  rw [cell_ob G h a rfl] at hw
  obtain ⟨C, hcl, hin⟩ := ob_cls h (t := 18) a rfl
  refine lv_aload_n hx hb dX4_fail_0 rfl (lv_at hl 0 rfl) ?_
  refine va_get (D := (G.1, G.2.1)) (cl := classes) (v := .int (h.1 18 a 1)) hx hb hts hin hown hK.1 hW.2.1 j hw hcl 1 (by decide) (hts (.fieldLink RX4 13 RX4 "figure" "I") (inG (i := 249) (by decide +kernel) rfl)) (fun _ h9 => h9) (show (flds G h 18 a)[1]? = some (.int (h.1 18 a 1)) from rfl) dX4_fail_1 ?_
  refine lv_if_eq (tgt := 17) hx hb dX4_fail_4 (by decide) (fun q => ?_) (fun q => ?_)
  · exact vx_ret (W.widen (k := 1) (n := 6) (Nat.zero_le _) (Nat.zero_le _) (W.vret hx hb hr (fun t ht hWm => ⟨⟨(), rfl, q, hW.1, by rw [ht]; exact hW.2.1, hW.2.2⟩, hS.F ht⟩) hS.2.2 dX4_fail_17))
  · obtain ⟨sa, hsa⟩ := hX.2.1.1
    exact vx_throwS (A := gA0 G) hx hb hfl hown (by decide +kernel) (by decide +kernel) (hts (.classLink RX4 31 "java/lang/IllegalStateException") (inG (i := 884) (by decide +kernel) rfl)) (hts (.initialized "java/lang/IllegalStateException") (inG (i := 56) (by decide +kernel) rfl)) hsa (vx_hat (B := eW) (fun w hw => hts w (ag_4 w hw)) ng_4 (fun w hw => va_Nw.use (eW_ot w hw) (hX.2.2.2.2.2.2 w hw))) ot_4 hX.1.1 hX.1.2 hS (by rw [hml]; exact hl.1) dX4_fail_7 dX4_fail_10 dX4_fail_11 dX4_fail_13 dX4_fail_16 (fun x hx => (htab x hx).elim) (by decide) (Nat.le_of_ble_eq_true rfl) (Nat.le_refl _) (Nat.le_refl _) hlocks (fun t hA hz hq => ⟨(), q, ⟨rfl, Wd0_new hW.1 hW.2.1 hW.2.2 hq⟩, hz, fun y h1 _ => hq y h1⟩) (fun z hz => nomatch hz) (Nat.le_refl _) (Nat.le_refl _)
theorem dX2_fail_0 : decode cX2_fail 0 = .ok (.aload_n 0, 1) := by decide +kernel
theorem dX2_fail_1 : decode cX2_fail 1 = .ok (.getfield 25, 3) := by decide +kernel
theorem dX2_fail_4 : decode cX2_fail 4 = .ok (.ifCond .eq 13, 3) := by decide +kernel
theorem dX2_fail_7 : decode cX2_fail 7 = .ok (.new 28, 3) := by decide +kernel
theorem dX2_fail_10 : decode cX2_fail 10 = .ok (.dup, 1) := by decide +kernel
theorem dX2_fail_11 : decode cX2_fail 11 = .ok (.ldc 30, 2) := by decide +kernel
theorem dX2_fail_13 : decode cX2_fail 13 = .ok (.invokespecial 32, 3) := by decide +kernel
theorem dX2_fail_16 : decode cX2_fail 16 = .ok (.athrow, 1) := by decide +kernel
theorem dX2_fail_17 : decode cX2_fail 17 = .ok (.return_, 1) := by decide +kernel
theorem ng_2 : ∀ w ∈ (vx_atS RX2 32 "java/lang/IllegalArgumentException" eNs).filter (fun w => !goodWord w), w ∈ eW := by decide +kernel
theorem ot_2 : ∀ w ∈ Cond.classLink RX2 28 "java/lang/IllegalArgumentException" :: Cond.initialized "java/lang/IllegalArgumentException" :: vx_atS RX2 32 "java/lang/IllegalArgumentException" eNs, vx_ot w = true := by decide +kernel
theorem ag_2 : ∀ w ∈ (vx_atS RX2 32 "java/lang/IllegalArgumentException" eNs).filter goodWord, w ∈ lw_g := by decide +kernel
set_option maxHeartbeats 4000000 in
set_option maxRecDepth 100000 in
theorem c_F2 (l : Launch) (hfl : l.stackTraces = false) (G : GL) (h : AH) (a : Nat) (ha : a ∈ h.2.2) : vx_Met l yX2_fail (Cond.code yX2_fail cX2_fail 1 none :: lw_g) ({ frames := 6, cells := 1, slots := 6, locals := 90 }) (xPc G [aS (some a)] h) (va_Qv (fun _ : Unit => h.1 18 a 1 = 0) (fun _ t => Wd0 G h t) (gA0 G)) (vx_X (fun _ : Unit => ¬ h.1 18 a 1 = 0) (fun E _ t => E = "java/lang/IllegalArgumentException" ∧ Wd0 G h t) (gA0 G)) 1 6 (gA0 G) := by
  refine vx_ofW (cc := cX2_fail) (maxL := 1) (ret := none) (by decide) rfl ?_
  intro p e s m args below meth c s₁ B hml htab hv
  obtain ⟨rfl, hK, hW, hX⟩ := hv
  have hx := B.exec
  have hb := B.bytes
  have hr := B.returns
  have hts0 := atoms_spec (ws := Cond.code yX2_fail cX2_fail 1 none :: lw_g) B.pre
  have hts := fun w (hw : w ∈ lw_g) => hts0 w (List.mem_cons_of_mem _ hw)
  have hown : s.vm.findClass RX2 = some m.cls := findClass_of_methodNamed B.named
  have hlocks := B.notSynchronized
  have hS : va_S (gA0 G) s.heap s.heap [] := va_S.rf
  have hl := lv_entry ([aS (some a)].map (cv G)) (n := 1) (Nat.le_of_ble_eq_true rfl)
  rw [lg_entry_eq]
  generalize (lg_sl ([aS (some a)].map (cv G)) ++ List.replicate (1 - (lg_sl ([aS (some a)].map (cv G))).length) Slot.unset).toArray = ls at hl ⊢
  have hl : lv_has ls 1 [(0, .ref a)] := hl
  obtain ⟨j, hj, hw⟩ := wl_get (G := G) (idx_sh ha)
  rw [cell_ob G h a rfl] at hw
  obtain ⟨C, hcl, hin⟩ := ob_cls h (t := 18) a rfl
  refine lv_aload_n hx hb dX2_fail_0 rfl (lv_at hl 0 rfl) ?_
  refine va_get (D := (G.1, G.2.1)) (cl := classes) (v := .int (h.1 18 a 1)) hx hb hts hin hown hK.1 hW.2.1 j hw hcl 1 (by decide) (hts (.fieldLink RX2 25 RX2 "figure" "I") (inG (i := 250) (by decide +kernel) rfl)) (fun x9 h9 => u_same (hts (.sameField RX2 RX4 "figure" "I") (inG (i := 251) (by decide +kernel) rfl)) x9 h9) (show (flds G h 18 a)[1]? = some (.int (h.1 18 a 1)) from rfl) dX2_fail_1 ?_
  refine lv_if_eq (tgt := 17) hx hb dX2_fail_4 (by decide) (fun q => ?_) (fun q => ?_)
  · exact vx_ret (W.widen (k := 1) (n := 6) (Nat.zero_le _) (Nat.zero_le _) (W.vret hx hb hr (fun t ht hWm => ⟨⟨(), rfl, q, hW.1, by rw [ht]; exact hW.2.1, hW.2.2⟩, hS.F ht⟩) hS.2.2 dX2_fail_17))
  · obtain ⟨sa, hsa⟩ := hX.2.1.2.1
    exact vx_throwS (A := gA0 G) hx hb hfl hown (by decide +kernel) (by decide +kernel) (hts (.classLink RX2 28 "java/lang/IllegalArgumentException") (inG (i := 792) (by decide +kernel) rfl)) (hts (.initialized "java/lang/IllegalArgumentException") (inG (i := 55) (by decide +kernel) rfl)) hsa (vx_hat (B := eW) (fun w hw => hts w (ag_2 w hw)) ng_2 (fun w hw => va_Nw.use (eW_ot w hw) (hX.2.2.2.2.2.2 w hw))) ot_2 hX.1.1 hX.1.2 hS (by rw [hml]; exact hl.1) dX2_fail_7 dX2_fail_10 dX2_fail_11 dX2_fail_13 dX2_fail_16 (fun x hx => (htab x hx).elim) (by decide) (Nat.le_of_ble_eq_true rfl) (Nat.le_refl _) (Nat.le_refl _) hlocks (fun t hA hz hq => ⟨(), q, ⟨rfl, Wd0_new hW.1 hW.2.1 hW.2.2 hq⟩, hz, fun y h1 _ => hq y h1⟩) (fun z hz => nomatch hz) (Nat.le_refl _) (Nat.le_refl _)
theorem dX8_fail_0 : decode cX8_fail 0 = .ok (.aload_n 0, 1) := by decide +kernel
theorem dX8_fail_1 : decode cX8_fail 1 = .ok (.getfield 19, 3) := by decide +kernel
theorem dX8_fail_4 : decode cX8_fail 4 = .ok (.ifCond .eq 13, 3) := by decide +kernel
theorem dX8_fail_7 : decode cX8_fail 7 = .ok (.new 22, 3) := by decide +kernel
theorem dX8_fail_10 : decode cX8_fail 10 = .ok (.dup, 1) := by decide +kernel
theorem dX8_fail_11 : decode cX8_fail 11 = .ok (.ldc 24, 2) := by decide +kernel
theorem dX8_fail_13 : decode cX8_fail 13 = .ok (.invokespecial 26, 3) := by decide +kernel
theorem dX8_fail_16 : decode cX8_fail 16 = .ok (.athrow, 1) := by decide +kernel
theorem dX8_fail_17 : decode cX8_fail 17 = .ok (.return_, 1) := by decide +kernel
theorem ng_8 : ∀ w ∈ (vx_atS RX8 26 "java/lang/UnsupportedOperationException" eNs).filter (fun w => !goodWord w), w ∈ eW := by decide +kernel
theorem ot_8 : ∀ w ∈ Cond.classLink RX8 22 "java/lang/UnsupportedOperationException" :: Cond.initialized "java/lang/UnsupportedOperationException" :: vx_atS RX8 26 "java/lang/UnsupportedOperationException" eNs, vx_ot w = true := by decide +kernel
theorem ag_8 : ∀ w ∈ (vx_atS RX8 26 "java/lang/UnsupportedOperationException" eNs).filter goodWord, w ∈ lw_g := by decide +kernel
set_option maxHeartbeats 4000000 in
set_option maxRecDepth 100000 in
theorem c_F8 (l : Launch) (hfl : l.stackTraces = false) (G : GL) (h : AH) (a : Nat) (ha : a ∈ h.2.2) : vx_Met l yX8_fail (Cond.code yX8_fail cX8_fail 1 none :: lw_g) ({ frames := 6, cells := 1, slots := 6, locals := 90 }) (xPc G [aS (some a)] h) (va_Qv (fun _ : Unit => h.1 18 a 1 = 0) (fun _ t => Wd0 G h t) (gA0 G)) (vx_X (fun _ : Unit => ¬ h.1 18 a 1 = 0) (fun E _ t => E = "java/lang/UnsupportedOperationException" ∧ Wd0 G h t) (gA0 G)) 1 6 (gA0 G) := by
  refine vx_ofW (cc := cX8_fail) (maxL := 1) (ret := none) (by decide) rfl ?_
  intro p e s m args below meth c s₁ B hml htab hv
  obtain ⟨rfl, hK, hW, hX⟩ := hv
  have hx := B.exec
  have hb := B.bytes
  have hr := B.returns
  have hts0 := atoms_spec (ws := Cond.code yX8_fail cX8_fail 1 none :: lw_g) B.pre
  have hts := fun w (hw : w ∈ lw_g) => hts0 w (List.mem_cons_of_mem _ hw)
  have hown : s.vm.findClass RX8 = some m.cls := findClass_of_methodNamed B.named
  have hlocks := B.notSynchronized
  have hS : va_S (gA0 G) s.heap s.heap [] := va_S.rf
  have hl := lv_entry ([aS (some a)].map (cv G)) (n := 1) (Nat.le_of_ble_eq_true rfl)
  rw [lg_entry_eq]
  generalize (lg_sl ([aS (some a)].map (cv G)) ++ List.replicate (1 - (lg_sl ([aS (some a)].map (cv G))).length) Slot.unset).toArray = ls at hl ⊢
  have hl : lv_has ls 1 [(0, .ref a)] := hl
  obtain ⟨j, hj, hw⟩ := wl_get (G := G) (idx_sh ha)
  rw [cell_ob G h a rfl] at hw
  obtain ⟨C, hcl, hin⟩ := ob_cls h (t := 18) a rfl
  refine lv_aload_n hx hb dX8_fail_0 rfl (lv_at hl 0 rfl) ?_
  refine va_get (D := (G.1, G.2.1)) (cl := classes) (v := .int (h.1 18 a 1)) hx hb hts hin hown hK.1 hW.2.1 j hw hcl 1 (by decide) (hts (.fieldLink RX8 19 RX8 "figure" "I") (inG (i := 252) (by decide +kernel) rfl)) (fun x9 h9 => u_same (hts (.sameField RX8 RX4 "figure" "I") (inG (i := 253) (by decide +kernel) rfl)) x9 h9) (show (flds G h 18 a)[1]? = some (.int (h.1 18 a 1)) from rfl) dX8_fail_1 ?_
  refine lv_if_eq (tgt := 17) hx hb dX8_fail_4 (by decide) (fun q => ?_) (fun q => ?_)
  · exact vx_ret (W.widen (k := 1) (n := 6) (Nat.zero_le _) (Nat.zero_le _) (W.vret hx hb hr (fun t ht hWm => ⟨⟨(), rfl, q, hW.1, by rw [ht]; exact hW.2.1, hW.2.2⟩, hS.F ht⟩) hS.2.2 dX8_fail_17))
  · obtain ⟨sa, hsa⟩ := hX.2.1.2.2.1
    exact vx_throwS (A := gA0 G) hx hb hfl hown (by decide +kernel) (by decide +kernel) (hts (.classLink RX8 22 "java/lang/UnsupportedOperationException") (inG (i := 867) (by decide +kernel) rfl)) (hts (.initialized "java/lang/UnsupportedOperationException") (inG (i := 57) (by decide +kernel) rfl)) hsa (vx_hat (B := eW) (fun w hw => hts w (ag_8 w hw)) ng_8 (fun w hw => va_Nw.use (eW_ot w hw) (hX.2.2.2.2.2.2 w hw))) ot_8 hX.1.1 hX.1.2 hS (by rw [hml]; exact hl.1) dX8_fail_7 dX8_fail_10 dX8_fail_11 dX8_fail_13 dX8_fail_16 (fun x hx => (htab x hx).elim) (by decide) (Nat.le_of_ble_eq_true rfl) (Nat.le_refl _) (Nat.le_refl _) hlocks (fun t hA hz hq => ⟨(), q, ⟨rfl, Wd0_new hW.1 hW.2.1 hW.2.2 hq⟩, hz, fun y h1 _ => hq y h1⟩) (fun z hz => nomatch hz) (Nat.le_refl _) (Nat.le_refl _)
theorem dX0_fail_0 : decode cX0_fail 0 = .ok (.return_, 1) := by decide +kernel
theorem c_F0 (l : Launch) (G : GL) (h : AH) (a : Nat) : Met l yX0_fail (Cond.code yX0_fail cX0_fail 1 none :: lw_g) ({ frames := 6, cells := 1, slots := 6, locals := 90 }) (xPc G [aS (some a)] h) (va_Qv (fun _ : Unit => True) (fun _ t => Wd0 G h t) (gA0 G)) 1 6 (gA0 G) := by
  refine Met.ofW (cc := cX0_fail) (maxL := 1) (ret := none) (by decide) rfl ?_
  intro p e s m args below meth c s₁ B hml hv
  obtain ⟨rfl, hK, hW, hX⟩ := hv
  have hS : va_S (gA0 G) s.heap s.heap [] := va_S.rf
  rw [lg_entry_eq]
  exact W.widen (k := 1) (n := 6) (Nat.zero_le _) (Nat.zero_le _) (W.vret B.exec B.bytes B.returns (fun t ht hWm => ⟨⟨(), rfl, trivial, hW.1, by rw [ht]; exact hW.2.1, hW.2.2⟩, hS.F ht⟩) hS.2.2 dX0_fail_0)

/-! ===== the law's helper: element's answer, or what it threw ===== -/
abbrev outE (G : GL) (f : Nat → Int64) : Nat × va_E := (adr G 23 0, .inl (gac G 23 0, 1, .inr (.inl f)))
def OU (G : GL) (f : Nat → Int64) (H : Heap) : Prop := va_at (G.1, G.2.1) classes (outE G f) H
/-- what a method of the law may change: the world's cells, what is new, and the law's own array -/
def gA1 (G : GL) : Nat → Prop := fun q => gA0 G q ∨ q = adr G 23 0
def hPc (G : GL) (d i : Int32) (h : AH) (f : Nat → Int64) : Array Value → State → Prop := va_Pc ([aR 0 0, aI d, aI i, aR 23 0].map (cv G)) (fun U => (KG G U ∧ Wd0 G h U ∧ XG G U U.heap) ∧ OU G f U.heap ∧ va_K (G.1, G.2.1) classes [(gac G 23 0, .long)] U)
theorem hPc_blind (G : GL) (d i : Int32) (h : AH) (f : Nat → Int64) : FrameBlind (hPc G d i h f) := fun a U g mk q => ⟨q.1, ⟨KG_call q.2.1.1 rfl q.2.1.1.2.1, q.2.1.2.1, XG_same (u := U) rfl q.2.1.2.2⟩, q.2.2.1, va_K.moved (u := U) (U := U.calling g mk a) (Jvm.Vm.Alike.refl U.vm) q.2.2.2⟩
theorem wl_gA {G : GL} {h : AH} (hD : va_D (gA0 G) (wl G h)) (f : Nat → Int64) : va_D (gA1 G) (wl G h ++ [outE G f]) := by
  refine va_D.app (hD.weaken (fun _ _ _ z => Or.inl z)) ⟨fun i j p q hi hj _ => ?_, fun k q hk => ?_⟩ (fun i j p q hi hj e => ?_)
  · have h1 : i < 1 := (List.getElem?_eq_some_iff.mp hi).1
    have h2 : j < 1 := (List.getElem?_eq_some_iff.mp hj).1
    omega
  · have h1 : k < 1 := (List.getElem?_eq_some_iff.mp hk).1
    rw [show k = 0 by omega] at hk
    cases hk
    exact Or.inr rfl
  · have h2 : j < 1 := (List.getElem?_eq_some_iff.mp hj).1
    rw [show j = 0 by omega] at hj
    cases hj
    exact (hD.2 i p hi).2 e
theorem firstP {D : va_G} {cl : List vw_C} {ws : va_W} {x : Nat × va_E} {H : Heap} (hP : va_P D cl (ws ++ [x]) H) : va_P D cl ws H := fun k y hy => hP k y (by rw [List.getElem?_append_left (List.getElem?_eq_some_iff.mp hy).1]; exact hy)
theorem lastAt {D : va_G} {cl : List vw_C} {ws : va_W} {x : Nat × va_E} {H : Heap} (hP : va_P D cl (ws ++ [x]) H) : va_at D cl x H := hP ws.length x (by rw [List.getElem?_append_right (Nat.le_refl _), Nat.sub_self]; rfl)
theorem joinO {G : GL} {h : AH} {f : Nat → Int64} {H : Heap} (hP : va_P (G.1, G.2.1) classes (wl G h) H) (hO : OU G f H) : va_P (G.1, G.2.1) classes (wl G h ++ [outE G f]) H := by
  refine va_P.app hP (fun k q hk => ?_)
  have h1 : k < 1 := (List.getElem?_eq_some_iff.mp hk).1
  rw [show k = 0 by omega] at hk
  cases hk
  exact hO
theorem OU_kept {G : GL} {f : Nat → Int64} {H H1 : Heap} (hO : OU G f H) (hz : adr G 23 0 < H.size) (hk : ∀ q : Nat, q < H.size → ¬ gA0 G q → H1[q]? = H[q]?) : OU G f H1 := va_at.kept hO (hk _ hz (fun z => z.2 rfl))
theorem dL_element_0 : decode cL_element 0 = .ok (.aload_n 3, 1) := by decide +kernel
theorem dL_element_1 : decode cL_element 1 = .ok (.iconst 0, 1) := by decide +kernel
theorem dL_element_2 : decode cL_element 2 = .ok (.aload_n 0, 1) := by decide +kernel
theorem dL_element_3 : decode cL_element 3 = .ok (.iload_n 1, 1) := by decide +kernel
theorem dL_element_4 : decode cL_element 4 = .ok (.iload_n 2, 1) := by decide +kernel
theorem dL_element_5 : decode cL_element 5 = .ok (.invokevirtual 7, 3) := by decide +kernel
theorem dL_element_8 : decode cL_element 8 = .ok (.lastore, 1) := by decide +kernel
theorem dL_element_9 : decode cL_element 9 = .ok (.goto 11, 3) := by decide +kernel
theorem dL_element_12 : decode cL_element 12 = .ok (.astore 4, 2) := by decide +kernel
theorem dL_element_14 : decode cL_element 14 = .ok (.iconst 1, 1) := by decide +kernel
theorem dL_element_15 : decode cL_element 15 = .ok (.ireturn, 1) := by decide +kernel
theorem dL_element_16 : decode cL_element 16 = .ok (.astore 4, 2) := by decide +kernel
theorem dL_element_18 : decode cL_element 18 = .ok (.iconst 2, 1) := by decide +kernel
theorem dL_element_19 : decode cL_element 19 = .ok (.ireturn, 1) := by decide +kernel
theorem dL_element_20 : decode cL_element 20 = .ok (.iconst 0, 1) := by decide +kernel
theorem dL_element_21 : decode cL_element 21 = .ok (.ireturn, 1) := by decide +kernel
set_option maxHeartbeats 4000000 in
set_option maxRecDepth 100000 in
theorem c_Lel (l : Launch) (hfl : l.stackTraces = false) (G : GL) (h : AH) (S : Sm) (d i : Int32) (f : Nat → Int64) (cs : CSh h S) (w : WS S) : Met l yL_element (Cond.codeWith yL_element cL_element 5 (some .int) [(0, 9, 12, 13), (0, 9, 16, 15)] :: lw_g) ({ frames := 7, cells := 1, slots := 6, locals := 112 }) (hPc G d i h f) (va_Qi (fun (r : Int32) (v : Nat → Int64) => r = nI (elT S d i) ∧ (elT S d i = 0 → v 0 = elV S d i)) (fun v t => Wd0 G h t ∧ OU G v t.heap) (gA1 G)) 1 6 (gA1 G) := by
  refine met_ofWH (cc := cL_element) (maxL := 5) (ret := some .int) (hh := [(0, 9, 12, 13), (0, 9, 16, 15)]) (by decide) rfl ?_
  intro p e s m args below meth c s₁ B hml hv
  obtain ⟨rfl, ⟨hK, hW, hX⟩, hO, hKO⟩ := hv
  have hx := B.exec
  have hb := B.bytes
  have hr := B.returns
  have hts0 := atoms_spec (ws := Cond.codeWith yL_element cL_element 5 (some .int) [(0, 9, 12, 13), (0, 9, 16, 15)] :: lw_g) B.pre
  have hts := fun w (hw : w ∈ lw_g) => hts0 w (List.mem_cons_of_mem _ hw)
  have hown : s.vm.findClass RL = some m.cls := findClass_of_methodNamed B.named
  have htab : c.exceptionTable.toList = [⟨0, 9, 12, 13⟩, ⟨0, 9, 16, 15⟩] := vx_table (x := yL_element) B (hts0 _ List.mem_cons_self)
  have hS : va_S (gA1 G) s.heap s.heap [] := va_S.rf
  have hoz : adr G 23 0 < s.heap.size := hK.2.1.2
  have hl := lv_entry ([aR 0 0, aI d, aI i, aR 23 0].map (cv G)) (n := 5) (Nat.le_of_ble_eq_true rfl)
  rw [lg_entry_eq]
  generalize (lg_sl ([aR 0 0, aI d, aI i, aR 23 0].map (cv G)) ++ List.replicate (5 - (lg_sl ([aR 0 0, aI d, aI i, aR 23 0].map (cv G))).length) Slot.unset).toArray = ls at hl ⊢
  have hl : lv_has ls 5 [(0, .ref (adr G 0 0)), (1, .int d), (2, .int i), (3, .ref (adr G 23 0))] := hl
  have hm0 : (0, 0) ∈ fixed := by decide
  obtain ⟨j1, hj1, hw1⟩ := wl_get (G := G) (idx_fx (h := h) hm0)
  rw [cell_ob G h 0 rfl] at hw1
  have hw1 : (wl G h)[j1]? = some (adr G 0 0, .inr (10, flds G h 0 0)) := hw1
  refine lv_aload_n hx hb dL_element_0 rfl (lv_at hl 3 rfl) ?_
  refine lv_iconst (v := 0) hx hb dL_element_1 (by decide) ?_
  refine lv_aload_n hx hb dL_element_2 rfl (lv_at hl 0 rfl) ?_
  refine lv_iload_n hx hb dL_element_3 rfl (lv_at hl 1 rfl) ?_
  refine lv_iload_n hx hb dL_element_4 rfl (lv_at hl 2 rfl) ?_
  have hpre : ∀ U : State, U.heap = s.heap → s.WarmedH U.vm → xPc G [aR 0 0, aI d, aI i] h ([aR 0 0, aI d, aI i].map (cv G)).toArray U := Xd_pre hK ⟨hW.1, hW.2.1, hW.2.2, va_S.rf⟩ hX [aR 0 0, aI d, aI i]
  refine vx_calll (vx_runV (C := RX10) (As := [.int d, .int i]) (rest := [.int 0, .ref (adr G 23 0)]) (b := adr G 0 0) ⟨hx, hb, hml, hown, hts⟩ (c_el l hfl G h S d i cs w) (cwV 2 hts (goodG (fun w hw => ?_)) rfl rfl rfl ⟨rfl, by decide, by decide, by decide +kernel⟩ ⟨Nat.le_of_ble_eq_true rfl, Nat.le_of_ble_eq_true rfl⟩) ⟨xPc_blind G _ h, va_recv hK.1 hW.2.1 (show classes[10]? = some (RX10, TX10, 6) from rfl) hw1, hpre⟩ rfl rfl hl.1 rfl (Nat.le_of_ble_eq_true rfl) dL_element_5 ⟨Nat.le_refl _, Nat.le_refl _⟩) hS (fun q _ h => Or.inl h) (fun q h => Or.inl h) (fun q _ h => Or.inl h) (fun E ce q9 u t H1 locs1 ht hA hp hBX hz hk hS1 hq9 hcev hcls => ?_) (fun r u t H1 locs1 ht hA hp hB hz hk hS1 => ?_)
  · simp only [wsV, List.mem_append, List.mem_cons, List.not_mem_nil, or_false] at hw
    rcases hw with (rfl | rfl | rfl | rfl) | rfl | hw
    · decide +kernel
    · decide +kernel
    · decide +kernel
    · decide +kernel
    · decide +kernel
    · exact hw
  · obtain ⟨hE, hB⟩ := hBX
    have hP1 : va_P (G.1, G.2.1) classes (wl G h) H1 := ht ▸ hB.2.1
    have hO1 : OU G f H1 := OU_kept hO hoz hk
    rcases hE with ⟨eT, rfl⟩ | ⟨eT, rfl⟩
    · refine vx_catch (own := RL) (name := eA) (E := eA) hown [] ⟨0, 9, 12, 13⟩ [⟨0, 9, 16, 15⟩] htab (fun z hz => nomatch hz) (by decide) (by decide) (hts (.classLink RL 13 eA) (by decide +kernel)) (va_Nw.use rfl (hX.2.2.2.2.2.2 (.castable eA eA) (by decide +kernel))) hq9 hcev hcls ?_
      refine lv_astore hx hb dL_element_12 hl (by decide) rfl (fun ls' hl' => ?_)
      refine lv_iconst (v := nI 1) hx hb dL_element_14 (by decide) ?_
      exact W.iret hx hb hr (fun t2 ht2 hWm => ⟨⟨nI 1, f, rfl, ⟨by rw [eT], fun z => absurd (eT.symm.trans z) (by decide)⟩, ⟨hB.1, by rw [ht2]; exact hP1, hB.2.2⟩, by rw [ht2]; exact hO1⟩, hS1.F ht2⟩) hS1.2.2 dL_element_15
    · refine vx_catch (own := RL) (name := eS) (E := eS) hown [⟨0, 9, 12, 13⟩] ⟨0, 9, 16, 15⟩ [] htab (List.forall_mem_cons.mpr ⟨Or.inr ⟨by decide, eA, hts (.classLink RL 13 eA) (by decide +kernel), hX.2.2.2.2.2.1⟩, fun z hz => nomatch hz⟩) (by decide) (by decide) (hts (.classLink RL 15 eS) (by decide +kernel)) (va_Nw.use rfl (hX.2.2.2.2.2.2 (.castable eS eS) (by decide +kernel))) hq9 hcev hcls ?_
      refine lv_astore hx hb dL_element_16 hl (by decide) rfl (fun ls' hl' => ?_)
      refine lv_iconst (v := nI 2) hx hb dL_element_18 (by decide) ?_
      exact W.iret hx hb hr (fun t2 ht2 hWm => ⟨⟨nI 2, f, rfl, ⟨by rw [eT], fun z => absurd (eT.symm.trans z) (by decide)⟩, ⟨hB.1, by rw [ht2]; exact hP1, hB.2.2⟩, by rw [ht2]; exact hO1⟩, hS1.F ht2⟩) hS1.2.2 dL_element_19
  · obtain ⟨eT, rfl⟩ := hp
    have hP1 : va_P (G.1, G.2.1) classes (wl G h) H1 := ht ▸ hB.2.1
    have hO1 : OU G f H1 := OU_kept hO hoz hk
    refine va_last (D := (G.1, G.2.1)) (cl := classes) hx hb hKO (joinO hP1 hO1) (wl_gA hW.2.2 f) hS1 (wl G h).length 0 (f := f) (by rw [List.getElem?_append_right (Nat.le_refl _), Nat.sub_self]; rfl) rfl (i := 0) (inR_vp (show inR 0 1 from ⟨by decide, by decide⟩)) dL_element_8 (fun H2 locs2 hP2 hD2 hS2 => ?_)
    rw [List.set_append_right _ _ (Nat.le_refl _), Nat.sub_self] at hP2
    refine lv_goto (tgt := 20) hx hb dL_element_9 (by decide) ?_
    refine lv_iconst (v := nI 0) hx hb dL_element_20 (by decide) ?_
    exact W.iret hx hb hr (fun t2 ht2 hWm => ⟨⟨nI 0, vp_updL f (0 : Int32).toNatClampNeg (elV S d i), rfl, ⟨by rw [eT], fun _ => if_pos rfl⟩, ⟨hW.1, by rw [ht2]; exact firstP hP2, hW.2.2⟩, by rw [ht2]; exact lastAt hP2⟩, hS2.F ht2⟩) hS2.2.2 dL_element_21

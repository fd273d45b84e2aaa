/-! ===== the constructors of a shelf, a valley, the model, the component: their cells ===== -/
theorem na_int (n : Nat) (cA : ClassId) : vp_cell cA (n, .inl (fun _ => (0 : Int32))) = arrV cA n (fun _ => defaultValue .int) := vp_cell_i cA n _
theorem na_bool (n : Nat) (cA : ClassId) : vp_cell cA (n, .inl (fun _ => (0 : Int32))) = arrV cA n (fun _ => defaultValue .boolean) := vp_cell_i cA n _
theorem na_long (n : Nat) (cA : ClassId) : vp_cell cA (n, .inr (.inl (fun _ => (0 : Int64)))) = arrV cA n (fun _ => defaultValue .long) := vp_cell_l cA n _
theorem joinL2 {D : va_G} {cl : List vw_C} {ws w1 : va_W} {q : Nat} {e : va_E} {H H1 : Heap} {A0 : Nat → Prop} (hP : va_P D cl (ws ++ [(q, e)]) H) (hD : va_D A0 (ws ++ [(q, e)])) (hk : ∀ x : Nat, x < H.size → ¬ va_A [(q, e)] H.size x → H1[x]? = H[x]?) (hF : ∀ x, va_A [(q, e)] H.size x → A0 x) (hP1 : va_P D cl w1 H1) (hD1 : va_D (va_A [(q, e)] H.size) w1) : va_P D cl (ws ++ w1) H1 ∧ va_D A0 (ws ++ w1) := by
  have hq : (ws ++ [(q, e)])[ws.length]? = some (q, e) := by rw [List.getElem?_append_right (Nat.le_refl _), Nat.sub_self]; rfl
  have hw : ∀ (k : Nat) (x : Nat × va_E), ws[k]? = some x → (ws ++ [(q, e)])[k]? = some x ∧ k < ws.length := fun k x hx => by
    have hl : k < ws.length := (List.getElem?_eq_some_iff.mp hx).1
    exact ⟨by rw [List.getElem?_append_left hl]; exact hx, hl⟩
  have apart : ∀ (k : Nat) (x : Nat × va_E), ws[k]? = some x → x.1 < H.size ∧ ¬ va_A [(q, e)] H.size x.1 := fun k x hx => by
    obtain ⟨hx2, hl⟩ := hw k x hx
    have hat := hP k x hx2
    refine ⟨hat.lt, fun z => ?_⟩
    rcases z with ⟨j, e2, hj⟩ | z
    · have hz : j < 1 := (List.getElem?_eq_some_iff.mp hj).1
      rw [show j = 0 by omega] at hj
      cases hj
      have := hD.1 k ws.length x (x.1, e) hx2 hq rfl
      omega
    · exact Nat.lt_irrefl _ (Nat.lt_of_lt_of_le hat.lt z)
  have hDw : va_D A0 ws := ⟨fun i j x y hi hj hxy => hD.1 i j x y (hw i x hi).1 (hw j y hj).1 hxy, fun k x hx => hD.2 k x (hw k x hx).1⟩
  refine ⟨va_P.app (fun k x hx => ?_) hP1, va_D.app hDw (hD1.weaken (fun k x _ h => hF x.1 h)) (fun i j x y hx hy hxy => ?_)⟩
  · exact (hP k x (hw k x hx).1).kept (hk x.1 (apart k x hx).1 (apart k x hx).2)
  · exact (apart i x hx).2 (by rw [hxy]; exact hD1.2 j y hy)
theorem dX5_init_0 : decode cX5_init 0 = .ok (.aload_n 0, 1) := by decide +kernel
theorem dX5_init_1 : decode cX5_init 1 = .ok (.invokespecial 3, 3) := by decide +kernel
theorem dX5_init_4 : decode cX5_init 4 = .ok (.aload_n 0, 1) := by decide +kernel
theorem dX5_init_5 : decode cX5_init 5 = .ok (.bipush 100, 2) := by decide +kernel
theorem dX5_init_7 : decode cX5_init 7 = .ok (.newarray .int, 2) := by decide +kernel
theorem dX5_init_9 : decode cX5_init 9 = .ok (.putfield 9, 3) := by decide +kernel
theorem dX5_init_12 : decode cX5_init 12 = .ok (.return_, 1) := by decide +kernel
abbrev w50 (a : Nat) : va_W := [(a, .inr (5, [.null, .int 0, .int 0, .int 0, .null]))]
abbrev w51 (a : Nat) (u : (Nat → Nat) × (Nat → ClassId)) : va_W := [(a, .inr (5, [.null, .int 0, .int 0, .int 0, .ref (u.1 0)])), ((u.1 0), .inl ((u.2 0), 100, .inl (fun _ => 0)))]
abbrev t51 (u : (Nat → Nat) × (Nat → ClassId)) : List (ClassId × FieldType) := [((u.2 0), .int)]
set_option maxHeartbeats 8000000 in
set_option maxRecDepth 100000 in
theorem c_X5i (l : Launch) (D : va_G) (a sz : Nat) : Met l yX5_init (Cond.code yX5_init cX5_init 1 none :: lw_g) ({ frames := 1, cells := 1, slots := 100, locals := 12 }) (va_Pc [.ref a] (fun U => U.heap.size = sz ∧ va_P D classes (w50 a) U.heap ∧ va_K D classes [] U ∧ va_D (fun _ => True) (w50 a))) (va_Qv (fun _ : (Nat → Nat) × (Nat → ClassId) => True) (fun u t => va_P D classes (w51 a u) t.heap ∧ va_K D classes (t51 u) t ∧ va_D (va_A (w50 a) sz) (w51 a u)) (va_A (w50 a) sz)) 1 100 (va_A (w50 a) sz) := by
  refine Met.ofW (cc := cX5_init) (maxL := 1) (ret := none) (by decide) rfl ?_
  intro p e s m args below meth c s₁ B hml hv
  obtain ⟨rfl, hsz, hP, hK, hD0⟩ := hv
  have hx := B.exec
  have hb := B.bytes
  have hr := B.returns
  have hts0 := atoms_spec (ws := Cond.code yX5_init cX5_init 1 none :: lw_g) B.pre
  have hts := fun w (hw : w ∈ lw_g) => hts0 w (List.mem_cons_of_mem _ hw)
  have hown : s.vm.findClass RX5 = some m.cls := findClass_of_methodNamed B.named
  have hinit : meth.name = "<init>" := (name_of_methodNamed B.named B.method).1
  subst hsz
  have hD := hD0.self (sz := s.heap.size)
  generalize hAe : va_A (w50 a) s.heap.size = A at hD ⊢
  have hA : ∀ q : Nat, s.heap.size ≤ q → A q := fun q h => by rw [← hAe]; exact Or.inr h
  have hS : va_S A s.heap s.heap [] := va_S.rf
  have hl := lv_entry ([.ref a]) (n := 1) (Nat.le_of_ble_eq_true rfl)
  rw [lg_entry_eq]
  generalize (lg_sl ([.ref a]) ++ List.replicate (1 - (lg_sl ([.ref a])).length) Slot.unset).toArray = ls at hl ⊢
  have hl : lv_has ls 1 [(0, .ref a)] := hl
  refine lv_aload_n hx hb dX5_init_0 rfl (lv_at hl 0 rfl) ?_
  refine W.objInit hx hb hown (hts (.methodLink RX5 3 objectInit) (inG (i := 134) (by decide +kernel) rfl)) (hts (.instanceMethod objectInit) (inG (i := 64) (by decide +kernel) rfl)) (hts (.code objectInit ⟨#[0xb1]⟩ 1 none) (inG (i := 65) (by decide +kernel) rfl)) rfl (by rw [hml]; exact hl.1) rfl dX5_init_1 (Nat.le_of_ble_eq_true rfl) (Nat.le_of_ble_eq_true rfl) ?_
  refine W.eq (g2 := F0 m 4 ls []) rfl ?_
  refine lv_aload_n hx hb dX5_init_4 rfl (lv_at hl 0 rfl) ?_
  refine lv_bipush (v := nI 100) hx hb dX5_init_5 (by decide) ?_
  refine va_newa (D := D) (cl := classes) (atype := .int) (ty := .int) (n := nI 100) (N' := 100) (a0 := (100, .inl (fun _ => 0))) hx hb (hts (.arrayClass .int) (inG (i := 127) (by decide +kernel) rfl)) rfl hK hP hD hS hA (na_int 100) (by decide) (by decide) (Nat.le_of_ble_eq_true rfl) (Nat.le_of_ble_eq_true rfl) (Nat.le_of_ble_eq_true rfl) dX5_init_7 (fun q0 c0 H hK hP hD hS => ?_)
  have hP : va_P D classes [(a, .inr (5, [.null, .int 0, .int 0, .int 0, .null])), (q0, .inl (c0, 100, .inl (fun _ => 0)))] H := hP
  have hD : va_D A [(a, .inr (5, [.null, .int 0, .int 0, .int 0, .null])), (q0, .inl (c0, 100, .inl (fun _ => 0)))] := hD
  have hK : va_K D classes [(c0, .int)] s := hK
  refine W.widen (k := 1) (n := 100) (Nat.le_of_ble_eq_true rfl) (Nat.le_of_ble_eq_true rfl) ?_
  refine va_putF (D := D) (cl := classes) (ci := 5) (v := .ref q0) (ty := .array .int) (C := RX5) (T := TX5) (N := 5) hx hb hts inX5 tyX5 tyX5_ok nmX5 hown hK hP hD hS 0 rfl rfl 4 (by decide) (hts (.fieldLink RX5 9 RX5 "elements" "[I") (inG (i := 143) (by decide +kernel) rfl)) (fun _ h9 => h9) rfl hinit rfl (by decide +kernel) rfl rfl (Nat.le_of_ble_eq_true rfl) dX5_init_9 (fun H locs hP hD hS => ?_)
  have hP : va_P D classes [(a, .inr (5, [.null, .int 0, .int 0, .int 0, .ref q0])), (q0, .inl (c0, 100, .inl (fun _ => 0)))] H := hP
  have hD : va_D A [(a, .inr (5, [.null, .int 0, .int 0, .int 0, .ref q0])), (q0, .inl (c0, 100, .inl (fun _ => 0)))] := hD
  exact W.vret hx hb hr (fun t ht hW => ⟨⟨(fun t => [q0].getD t 0, fun t => [c0].getD t c0), rfl, trivial, by show va_P D classes _ t.heap; rw [ht]; exact hP, va_K.moved hW.alike hK, hD⟩, hS.F ht⟩) hS.2.2 dX5_init_12
theorem dX9_init_0 : decode cX9_init 0 = .ok (.aload_n 0, 1) := by decide +kernel
theorem dX9_init_1 : decode cX9_init 1 = .ok (.invokespecial 3, 3) := by decide +kernel
theorem dX9_init_4 : decode cX9_init 4 = .ok (.aload_n 0, 1) := by decide +kernel
theorem dX9_init_5 : decode cX9_init 5 = .ok (.bipush 8, 2) := by decide +kernel
theorem dX9_init_7 : decode cX9_init 7 = .ok (.newarray .int, 2) := by decide +kernel
theorem dX9_init_9 : decode cX9_init 9 = .ok (.putfield 9, 3) := by decide +kernel
theorem dX9_init_12 : decode cX9_init 12 = .ok (.aload_n 0, 1) := by decide +kernel
theorem dX9_init_13 : decode cX9_init 13 = .ok (.bipush 8, 2) := by decide +kernel
theorem dX9_init_15 : decode cX9_init 15 = .ok (.newarray .int, 2) := by decide +kernel
theorem dX9_init_17 : decode cX9_init 17 = .ok (.putfield 15, 3) := by decide +kernel
theorem dX9_init_20 : decode cX9_init 20 = .ok (.aload_n 0, 1) := by decide +kernel
theorem dX9_init_21 : decode cX9_init 21 = .ok (.bipush 8, 2) := by decide +kernel
theorem dX9_init_23 : decode cX9_init 23 = .ok (.newarray .int, 2) := by decide +kernel
theorem dX9_init_25 : decode cX9_init 25 = .ok (.putfield 18, 3) := by decide +kernel
theorem dX9_init_28 : decode cX9_init 28 = .ok (.aload_n 0, 1) := by decide +kernel
theorem dX9_init_29 : decode cX9_init 29 = .ok (.iconst 4, 1) := by decide +kernel
theorem dX9_init_30 : decode cX9_init 30 = .ok (.newarray .int, 2) := by decide +kernel
theorem dX9_init_32 : decode cX9_init 32 = .ok (.putfield 21, 3) := by decide +kernel
theorem dX9_init_35 : decode cX9_init 35 = .ok (.aload_n 0, 1) := by decide +kernel
theorem dX9_init_36 : decode cX9_init 36 = .ok (.iconst 4, 1) := by decide +kernel
theorem dX9_init_37 : decode cX9_init 37 = .ok (.newarray .int, 2) := by decide +kernel
theorem dX9_init_39 : decode cX9_init 39 = .ok (.putfield 24, 3) := by decide +kernel
theorem dX9_init_42 : decode cX9_init 42 = .ok (.aload_n 0, 1) := by decide +kernel
theorem dX9_init_43 : decode cX9_init 43 = .ok (.iconst 4, 1) := by decide +kernel
theorem dX9_init_44 : decode cX9_init 44 = .ok (.newarray .int, 2) := by decide +kernel
theorem dX9_init_46 : decode cX9_init 46 = .ok (.putfield 27, 3) := by decide +kernel
theorem dX9_init_49 : decode cX9_init 49 = .ok (.aload_n 0, 1) := by decide +kernel
theorem dX9_init_50 : decode cX9_init 50 = .ok (.iconst 4, 1) := by decide +kernel
theorem dX9_init_51 : decode cX9_init 51 = .ok (.newarray .int, 2) := by decide +kernel
theorem dX9_init_53 : decode cX9_init 53 = .ok (.putfield 30, 3) := by decide +kernel
theorem dX9_init_56 : decode cX9_init 56 = .ok (.aload_n 0, 1) := by decide +kernel
theorem dX9_init_57 : decode cX9_init 57 = .ok (.iconst 4, 1) := by decide +kernel
theorem dX9_init_58 : decode cX9_init 58 = .ok (.newarray .int, 2) := by decide +kernel
theorem dX9_init_60 : decode cX9_init 60 = .ok (.putfield 33, 3) := by decide +kernel
theorem dX9_init_63 : decode cX9_init 63 = .ok (.aload_n 0, 1) := by decide +kernel
theorem dX9_init_64 : decode cX9_init 64 = .ok (.bipush 7, 2) := by decide +kernel
theorem dX9_init_66 : decode cX9_init 66 = .ok (.anewarray 36, 3) := by decide +kernel
theorem dX9_init_69 : decode cX9_init 69 = .ok (.putfield 38, 3) := by decide +kernel
theorem dX9_init_72 : decode cX9_init 72 = .ok (.aload_n 0, 1) := by decide +kernel
theorem dX9_init_73 : decode cX9_init 73 = .ok (.bipush 6, 2) := by decide +kernel
theorem dX9_init_75 : decode cX9_init 75 = .ok (.putfield 42, 3) := by decide +kernel
theorem dX9_init_78 : decode cX9_init 78 = .ok (.return_, 1) := by decide +kernel
abbrev w90 (a : Nat) : va_W := [(a, .inr (9, [.null, .null, .null, .null, .int 0, .null, .null, .null, .null, .int 0, .null, .int 0, .int 0]))]
abbrev w91 (a : Nat) (u : (Nat → Nat) × (Nat → ClassId)) : va_W := [(a, .inr (9, [.ref (u.1 0), .ref (u.1 1), .ref (u.1 2), .ref (u.1 3), .int 0, .ref (u.1 4), .ref (u.1 5), .ref (u.1 6), .ref (u.1 7), .int 0, .ref (u.1 8), .int (nI 6), .int 0])), ((u.1 0), .inl ((u.2 0), 8, .inl (fun _ => 0))), ((u.1 1), .inl ((u.2 1), 8, .inl (fun _ => 0))), ((u.1 2), .inl ((u.2 2), 8, .inl (fun _ => 0))), ((u.1 3), .inl ((u.2 3), 4, .inl (fun _ => 0))), ((u.1 4), .inl ((u.2 4), 4, .inl (fun _ => 0))), ((u.1 5), .inl ((u.2 5), 4, .inl (fun _ => 0))), ((u.1 6), .inl ((u.2 6), 4, .inl (fun _ => 0))), ((u.1 7), .inl ((u.2 7), 4, .inl (fun _ => 0))), ((u.1 8), .inl ((u.2 8), 7, .inr (.inr (.inr (.inr (fun _ => none))))))]
abbrev t91 (u : (Nat → Nat) × (Nat → ClassId)) : List (ClassId × FieldType) := [((u.2 0), .int), ((u.2 1), .int), ((u.2 2), .int), ((u.2 3), .int), ((u.2 4), .int), ((u.2 5), .int), ((u.2 6), .int), ((u.2 7), .int), ((u.2 8), .object RX4)]
set_option maxHeartbeats 8000000 in
set_option maxRecDepth 100000 in
theorem c_X9i (l : Launch) (D : va_G) (a sz : Nat) : Met l yX9_init (Cond.code yX9_init cX9_init 1 none :: lw_g) ({ frames := 1, cells := 9, slots := 51, locals := 12 }) (va_Pc [.ref a] (fun U => U.heap.size = sz ∧ va_P D classes (w90 a) U.heap ∧ va_K D classes [] U ∧ va_D (fun _ => True) (w90 a) ∧ va_AO RX4 U)) (va_Qv (fun _ : (Nat → Nat) × (Nat → ClassId) => True) (fun u t => va_P D classes (w91 a u) t.heap ∧ va_K D classes (t91 u) t ∧ va_D (va_A (w90 a) sz) (w91 a u)) (va_A (w90 a) sz)) 9 51 (va_A (w90 a) sz) := by
  refine Met.ofW (cc := cX9_init) (maxL := 1) (ret := none) (by decide) rfl ?_
  intro p e s m args below meth c s₁ B hml hv
  obtain ⟨rfl, hsz, hP, hK, hD0, hAO⟩ := hv
  have hx := B.exec
  have hb := B.bytes
  have hr := B.returns
  have hts0 := atoms_spec (ws := Cond.code yX9_init cX9_init 1 none :: lw_g) B.pre
  have hts := fun w (hw : w ∈ lw_g) => hts0 w (List.mem_cons_of_mem _ hw)
  have hown : s.vm.findClass RX9 = some m.cls := findClass_of_methodNamed B.named
  have hinit : meth.name = "<init>" := (name_of_methodNamed B.named B.method).1
  subst hsz
  have hD := hD0.self (sz := s.heap.size)
  generalize hAe : va_A (w90 a) s.heap.size = A at hD ⊢
  have hA : ∀ q : Nat, s.heap.size ≤ q → A q := fun q h => by rw [← hAe]; exact Or.inr h
  have hS : va_S A s.heap s.heap [] := va_S.rf
  have hl := lv_entry ([.ref a]) (n := 1) (Nat.le_of_ble_eq_true rfl)
  rw [lg_entry_eq]
  generalize (lg_sl ([.ref a]) ++ List.replicate (1 - (lg_sl ([.ref a])).length) Slot.unset).toArray = ls at hl ⊢
  have hl : lv_has ls 1 [(0, .ref a)] := hl
  refine lv_aload_n hx hb dX9_init_0 rfl (lv_at hl 0 rfl) ?_
  refine W.objInit hx hb hown (hts (.methodLink RX9 3 objectInit) (inG (i := 71) (by decide +kernel) rfl)) (hts (.instanceMethod objectInit) (inG (i := 64) (by decide +kernel) rfl)) (hts (.code objectInit ⟨#[0xb1]⟩ 1 none) (inG (i := 65) (by decide +kernel) rfl)) rfl (by rw [hml]; exact hl.1) rfl dX9_init_1 (Nat.le_of_ble_eq_true rfl) (Nat.le_of_ble_eq_true rfl) ?_
  refine W.eq (g2 := F0 m 4 ls []) rfl ?_
  refine lv_aload_n hx hb dX9_init_4 rfl (lv_at hl 0 rfl) ?_
  refine lv_bipush (v := nI 8) hx hb dX9_init_5 (by decide) ?_
  refine va_newa (D := D) (cl := classes) (atype := .int) (ty := .int) (n := nI 8) (N' := 8) (a0 := (8, .inl (fun _ => 0))) hx hb (hts (.arrayClass .int) (inG (i := 127) (by decide +kernel) rfl)) rfl hK hP hD hS hA (na_int 8) (by decide) (by decide) (Nat.le_of_ble_eq_true rfl) (Nat.le_of_ble_eq_true rfl) (Nat.le_of_ble_eq_true rfl) dX9_init_7 (fun q0 c0 H hK hP hD hS => ?_)
  have hP : va_P D classes [(a, .inr (9, [.null, .null, .null, .null, .int 0, .null, .null, .null, .null, .int 0, .null, .int 0, .int 0])), (q0, .inl (c0, 8, .inl (fun _ => 0)))] H := hP
  have hD : va_D A [(a, .inr (9, [.null, .null, .null, .null, .int 0, .null, .null, .null, .null, .int 0, .null, .int 0, .int 0])), (q0, .inl (c0, 8, .inl (fun _ => 0)))] := hD
  have hK : va_K D classes [(c0, .int)] s := hK
  refine W.widen (k := 1) (n := 8) (Nat.le_of_ble_eq_true rfl) (Nat.le_of_ble_eq_true rfl) ?_
  refine va_putF (D := D) (cl := classes) (ci := 9) (v := .ref q0) (ty := .array .int) (C := RX9) (T := TX9) (N := 13) hx hb hts inX9 tyX9 tyX9_ok nmX9 hown hK hP hD hS 0 rfl rfl 0 (by decide) (hts (.fieldLink RX9 9 RX9 "big" "[I") (inG (i := 74) (by decide +kernel) rfl)) (fun _ h9 => h9) rfl hinit rfl (by decide +kernel) rfl rfl (Nat.le_of_ble_eq_true rfl) dX9_init_9 (fun H locs hP hD hS => ?_)
  have hP : va_P D classes [(a, .inr (9, [.ref q0, .null, .null, .null, .int 0, .null, .null, .null, .null, .int 0, .null, .int 0, .int 0])), (q0, .inl (c0, 8, .inl (fun _ => 0)))] H := hP
  have hD : va_D A [(a, .inr (9, [.ref q0, .null, .null, .null, .int 0, .null, .null, .null, .null, .int 0, .null, .int 0, .int 0])), (q0, .inl (c0, 8, .inl (fun _ => 0)))] := hD
  refine lv_aload_n hx hb dX9_init_12 rfl (lv_at hl 0 rfl) ?_
  refine lv_bipush (v := nI 8) hx hb dX9_init_13 (by decide) ?_
  refine va_newa (D := D) (cl := classes) (atype := .int) (ty := .int) (n := nI 8) (N' := 8) (a0 := (8, .inl (fun _ => 0))) hx hb (hts (.arrayClass .int) (inG (i := 127) (by decide +kernel) rfl)) rfl hK hP hD hS hA (na_int 8) (by decide) (by decide) (Nat.le_of_ble_eq_true rfl) (Nat.le_of_ble_eq_true rfl) (Nat.le_of_ble_eq_true rfl) dX9_init_15 (fun q1 c1 H hK hP hD hS => ?_)
  have hP : va_P D classes [(a, .inr (9, [.ref q0, .null, .null, .null, .int 0, .null, .null, .null, .null, .int 0, .null, .int 0, .int 0])), (q0, .inl (c0, 8, .inl (fun _ => 0))), (q1, .inl (c1, 8, .inl (fun _ => 0)))] H := hP
  have hD : va_D A [(a, .inr (9, [.ref q0, .null, .null, .null, .int 0, .null, .null, .null, .null, .int 0, .null, .int 0, .int 0])), (q0, .inl (c0, 8, .inl (fun _ => 0))), (q1, .inl (c1, 8, .inl (fun _ => 0)))] := hD
  have hK : va_K D classes [(c0, .int), (c1, .int)] s := hK
  refine W.widen (k := 2) (n := 16) (Nat.le_of_ble_eq_true rfl) (Nat.le_of_ble_eq_true rfl) ?_
  refine va_putF (D := D) (cl := classes) (ci := 9) (v := .ref q1) (ty := .array .int) (C := RX9) (T := TX9) (N := 13) hx hb hts inX9 tyX9 tyX9_ok nmX9 hown hK hP hD hS 0 rfl rfl 1 (by decide) (hts (.fieldLink RX9 15 RX9 "small" "[I") (inG (i := 76) (by decide +kernel) rfl)) (fun _ h9 => h9) rfl hinit rfl (by decide +kernel) rfl rfl (Nat.le_of_ble_eq_true rfl) dX9_init_17 (fun H locs hP hD hS => ?_)
  have hP : va_P D classes [(a, .inr (9, [.ref q0, .ref q1, .null, .null, .int 0, .null, .null, .null, .null, .int 0, .null, .int 0, .int 0])), (q0, .inl (c0, 8, .inl (fun _ => 0))), (q1, .inl (c1, 8, .inl (fun _ => 0)))] H := hP
  have hD : va_D A [(a, .inr (9, [.ref q0, .ref q1, .null, .null, .int 0, .null, .null, .null, .null, .int 0, .null, .int 0, .int 0])), (q0, .inl (c0, 8, .inl (fun _ => 0))), (q1, .inl (c1, 8, .inl (fun _ => 0)))] := hD
  refine lv_aload_n hx hb dX9_init_20 rfl (lv_at hl 0 rfl) ?_
  refine lv_bipush (v := nI 8) hx hb dX9_init_21 (by decide) ?_
  refine va_newa (D := D) (cl := classes) (atype := .int) (ty := .int) (n := nI 8) (N' := 8) (a0 := (8, .inl (fun _ => 0))) hx hb (hts (.arrayClass .int) (inG (i := 127) (by decide +kernel) rfl)) rfl hK hP hD hS hA (na_int 8) (by decide) (by decide) (Nat.le_of_ble_eq_true rfl) (Nat.le_of_ble_eq_true rfl) (Nat.le_of_ble_eq_true rfl) dX9_init_23 (fun q2 c2 H hK hP hD hS => ?_)
  have hP : va_P D classes [(a, .inr (9, [.ref q0, .ref q1, .null, .null, .int 0, .null, .null, .null, .null, .int 0, .null, .int 0, .int 0])), (q0, .inl (c0, 8, .inl (fun _ => 0))), (q1, .inl (c1, 8, .inl (fun _ => 0))), (q2, .inl (c2, 8, .inl (fun _ => 0)))] H := hP
  have hD : va_D A [(a, .inr (9, [.ref q0, .ref q1, .null, .null, .int 0, .null, .null, .null, .null, .int 0, .null, .int 0, .int 0])), (q0, .inl (c0, 8, .inl (fun _ => 0))), (q1, .inl (c1, 8, .inl (fun _ => 0))), (q2, .inl (c2, 8, .inl (fun _ => 0)))] := hD
  have hK : va_K D classes [(c0, .int), (c1, .int), (c2, .int)] s := hK
  refine W.widen (k := 3) (n := 24) (Nat.le_of_ble_eq_true rfl) (Nat.le_of_ble_eq_true rfl) ?_
  refine va_putF (D := D) (cl := classes) (ci := 9) (v := .ref q2) (ty := .array .int) (C := RX9) (T := TX9) (N := 13) hx hb hts inX9 tyX9 tyX9_ok nmX9 hown hK hP hD hS 0 rfl rfl 2 (by decide) (hts (.fieldLink RX9 18 RX9 "snakes" "[I") (inG (i := 78) (by decide +kernel) rfl)) (fun _ h9 => h9) rfl hinit rfl (by decide +kernel) rfl rfl (Nat.le_of_ble_eq_true rfl) dX9_init_25 (fun H locs hP hD hS => ?_)
  have hP : va_P D classes [(a, .inr (9, [.ref q0, .ref q1, .ref q2, .null, .int 0, .null, .null, .null, .null, .int 0, .null, .int 0, .int 0])), (q0, .inl (c0, 8, .inl (fun _ => 0))), (q1, .inl (c1, 8, .inl (fun _ => 0))), (q2, .inl (c2, 8, .inl (fun _ => 0)))] H := hP
  have hD : va_D A [(a, .inr (9, [.ref q0, .ref q1, .ref q2, .null, .int 0, .null, .null, .null, .null, .int 0, .null, .int 0, .int 0])), (q0, .inl (c0, 8, .inl (fun _ => 0))), (q1, .inl (c1, 8, .inl (fun _ => 0))), (q2, .inl (c2, 8, .inl (fun _ => 0)))] := hD
  refine lv_aload_n hx hb dX9_init_28 rfl (lv_at hl 0 rfl) ?_
  refine lv_iconst (v := nI 4) hx hb dX9_init_29 (by decide) ?_
  refine va_newa (D := D) (cl := classes) (atype := .int) (ty := .int) (n := nI 4) (N' := 4) (a0 := (4, .inl (fun _ => 0))) hx hb (hts (.arrayClass .int) (inG (i := 127) (by decide +kernel) rfl)) rfl hK hP hD hS hA (na_int 4) (by decide) (by decide) (Nat.le_of_ble_eq_true rfl) (Nat.le_of_ble_eq_true rfl) (Nat.le_of_ble_eq_true rfl) dX9_init_30 (fun q3 c3 H hK hP hD hS => ?_)
  have hP : va_P D classes [(a, .inr (9, [.ref q0, .ref q1, .ref q2, .null, .int 0, .null, .null, .null, .null, .int 0, .null, .int 0, .int 0])), (q0, .inl (c0, 8, .inl (fun _ => 0))), (q1, .inl (c1, 8, .inl (fun _ => 0))), (q2, .inl (c2, 8, .inl (fun _ => 0))), (q3, .inl (c3, 4, .inl (fun _ => 0)))] H := hP
  have hD : va_D A [(a, .inr (9, [.ref q0, .ref q1, .ref q2, .null, .int 0, .null, .null, .null, .null, .int 0, .null, .int 0, .int 0])), (q0, .inl (c0, 8, .inl (fun _ => 0))), (q1, .inl (c1, 8, .inl (fun _ => 0))), (q2, .inl (c2, 8, .inl (fun _ => 0))), (q3, .inl (c3, 4, .inl (fun _ => 0)))] := hD
  have hK : va_K D classes [(c0, .int), (c1, .int), (c2, .int), (c3, .int)] s := hK
  refine W.widen (k := 4) (n := 28) (Nat.le_of_ble_eq_true rfl) (Nat.le_of_ble_eq_true rfl) ?_
  refine va_putF (D := D) (cl := classes) (ci := 9) (v := .ref q3) (ty := .array .int) (C := RX9) (T := TX9) (N := 13) hx hb hts inX9 tyX9 tyX9_ok nmX9 hown hK hP hD hS 0 rfl rfl 3 (by decide) (hts (.fieldLink RX9 21 RX9 "worth" "[I") (inG (i := 80) (by decide +kernel) rfl)) (fun _ h9 => h9) rfl hinit rfl (by decide +kernel) rfl rfl (Nat.le_of_ble_eq_true rfl) dX9_init_32 (fun H locs hP hD hS => ?_)
  have hP : va_P D classes [(a, .inr (9, [.ref q0, .ref q1, .ref q2, .ref q3, .int 0, .null, .null, .null, .null, .int 0, .null, .int 0, .int 0])), (q0, .inl (c0, 8, .inl (fun _ => 0))), (q1, .inl (c1, 8, .inl (fun _ => 0))), (q2, .inl (c2, 8, .inl (fun _ => 0))), (q3, .inl (c3, 4, .inl (fun _ => 0)))] H := hP
  have hD : va_D A [(a, .inr (9, [.ref q0, .ref q1, .ref q2, .ref q3, .int 0, .null, .null, .null, .null, .int 0, .null, .int 0, .int 0])), (q0, .inl (c0, 8, .inl (fun _ => 0))), (q1, .inl (c1, 8, .inl (fun _ => 0))), (q2, .inl (c2, 8, .inl (fun _ => 0))), (q3, .inl (c3, 4, .inl (fun _ => 0)))] := hD
  refine lv_aload_n hx hb dX9_init_35 rfl (lv_at hl 0 rfl) ?_
  refine lv_iconst (v := nI 4) hx hb dX9_init_36 (by decide) ?_
  refine va_newa (D := D) (cl := classes) (atype := .int) (ty := .int) (n := nI 4) (N' := 4) (a0 := (4, .inl (fun _ => 0))) hx hb (hts (.arrayClass .int) (inG (i := 127) (by decide +kernel) rfl)) rfl hK hP hD hS hA (na_int 4) (by decide) (by decide) (Nat.le_of_ble_eq_true rfl) (Nat.le_of_ble_eq_true rfl) (Nat.le_of_ble_eq_true rfl) dX9_init_37 (fun q4 c4 H hK hP hD hS => ?_)
  have hP : va_P D classes [(a, .inr (9, [.ref q0, .ref q1, .ref q2, .ref q3, .int 0, .null, .null, .null, .null, .int 0, .null, .int 0, .int 0])), (q0, .inl (c0, 8, .inl (fun _ => 0))), (q1, .inl (c1, 8, .inl (fun _ => 0))), (q2, .inl (c2, 8, .inl (fun _ => 0))), (q3, .inl (c3, 4, .inl (fun _ => 0))), (q4, .inl (c4, 4, .inl (fun _ => 0)))] H := hP
  have hD : va_D A [(a, .inr (9, [.ref q0, .ref q1, .ref q2, .ref q3, .int 0, .null, .null, .null, .null, .int 0, .null, .int 0, .int 0])), (q0, .inl (c0, 8, .inl (fun _ => 0))), (q1, .inl (c1, 8, .inl (fun _ => 0))), (q2, .inl (c2, 8, .inl (fun _ => 0))), (q3, .inl (c3, 4, .inl (fun _ => 0))), (q4, .inl (c4, 4, .inl (fun _ => 0)))] := hD
  have hK : va_K D classes [(c0, .int), (c1, .int), (c2, .int), (c3, .int), (c4, .int)] s := hK
  refine W.widen (k := 5) (n := 32) (Nat.le_of_ble_eq_true rfl) (Nat.le_of_ble_eq_true rfl) ?_
  refine va_putF (D := D) (cl := classes) (ci := 9) (v := .ref q4) (ty := .array .int) (C := RX9) (T := TX9) (N := 13) hx hb hts inX9 tyX9 tyX9_ok nmX9 hown hK hP hD hS 0 rfl rfl 5 (by decide) (hts (.fieldLink RX9 24 RX9 "strength" "[I") (inG (i := 84) (by decide +kernel) rfl)) (fun _ h9 => h9) rfl hinit rfl (by decide +kernel) rfl rfl (Nat.le_of_ble_eq_true rfl) dX9_init_39 (fun H locs hP hD hS => ?_)
  have hP : va_P D classes [(a, .inr (9, [.ref q0, .ref q1, .ref q2, .ref q3, .int 0, .ref q4, .null, .null, .null, .int 0, .null, .int 0, .int 0])), (q0, .inl (c0, 8, .inl (fun _ => 0))), (q1, .inl (c1, 8, .inl (fun _ => 0))), (q2, .inl (c2, 8, .inl (fun _ => 0))), (q3, .inl (c3, 4, .inl (fun _ => 0))), (q4, .inl (c4, 4, .inl (fun _ => 0)))] H := hP
  have hD : va_D A [(a, .inr (9, [.ref q0, .ref q1, .ref q2, .ref q3, .int 0, .ref q4, .null, .null, .null, .int 0, .null, .int 0, .int 0])), (q0, .inl (c0, 8, .inl (fun _ => 0))), (q1, .inl (c1, 8, .inl (fun _ => 0))), (q2, .inl (c2, 8, .inl (fun _ => 0))), (q3, .inl (c3, 4, .inl (fun _ => 0))), (q4, .inl (c4, 4, .inl (fun _ => 0)))] := hD
  refine lv_aload_n hx hb dX9_init_42 rfl (lv_at hl 0 rfl) ?_
  refine lv_iconst (v := nI 4) hx hb dX9_init_43 (by decide) ?_
  refine va_newa (D := D) (cl := classes) (atype := .int) (ty := .int) (n := nI 4) (N' := 4) (a0 := (4, .inl (fun _ => 0))) hx hb (hts (.arrayClass .int) (inG (i := 127) (by decide +kernel) rfl)) rfl hK hP hD hS hA (na_int 4) (by decide) (by decide) (Nat.le_of_ble_eq_true rfl) (Nat.le_of_ble_eq_true rfl) (Nat.le_of_ble_eq_true rfl) dX9_init_44 (fun q5 c5 H hK hP hD hS => ?_)
  have hP : va_P D classes [(a, .inr (9, [.ref q0, .ref q1, .ref q2, .ref q3, .int 0, .ref q4, .null, .null, .null, .int 0, .null, .int 0, .int 0])), (q0, .inl (c0, 8, .inl (fun _ => 0))), (q1, .inl (c1, 8, .inl (fun _ => 0))), (q2, .inl (c2, 8, .inl (fun _ => 0))), (q3, .inl (c3, 4, .inl (fun _ => 0))), (q4, .inl (c4, 4, .inl (fun _ => 0))), (q5, .inl (c5, 4, .inl (fun _ => 0)))] H := hP
  have hD : va_D A [(a, .inr (9, [.ref q0, .ref q1, .ref q2, .ref q3, .int 0, .ref q4, .null, .null, .null, .int 0, .null, .int 0, .int 0])), (q0, .inl (c0, 8, .inl (fun _ => 0))), (q1, .inl (c1, 8, .inl (fun _ => 0))), (q2, .inl (c2, 8, .inl (fun _ => 0))), (q3, .inl (c3, 4, .inl (fun _ => 0))), (q4, .inl (c4, 4, .inl (fun _ => 0))), (q5, .inl (c5, 4, .inl (fun _ => 0)))] := hD
  have hK : va_K D classes [(c0, .int), (c1, .int), (c2, .int), (c3, .int), (c4, .int), (c5, .int)] s := hK
  refine W.widen (k := 6) (n := 36) (Nat.le_of_ble_eq_true rfl) (Nat.le_of_ble_eq_true rfl) ?_
  refine va_putF (D := D) (cl := classes) (ci := 9) (v := .ref q5) (ty := .array .int) (C := RX9) (T := TX9) (N := 13) hx hb hts inX9 tyX9 tyX9_ok nmX9 hown hK hP hD hS 0 rfl rfl 6 (by decide) (hts (.fieldLink RX9 27 RX9 "hunger" "[I") (inG (i := 86) (by decide +kernel) rfl)) (fun _ h9 => h9) rfl hinit rfl (by decide +kernel) rfl rfl (Nat.le_of_ble_eq_true rfl) dX9_init_46 (fun H locs hP hD hS => ?_)
  have hP : va_P D classes [(a, .inr (9, [.ref q0, .ref q1, .ref q2, .ref q3, .int 0, .ref q4, .ref q5, .null, .null, .int 0, .null, .int 0, .int 0])), (q0, .inl (c0, 8, .inl (fun _ => 0))), (q1, .inl (c1, 8, .inl (fun _ => 0))), (q2, .inl (c2, 8, .inl (fun _ => 0))), (q3, .inl (c3, 4, .inl (fun _ => 0))), (q4, .inl (c4, 4, .inl (fun _ => 0))), (q5, .inl (c5, 4, .inl (fun _ => 0)))] H := hP
  have hD : va_D A [(a, .inr (9, [.ref q0, .ref q1, .ref q2, .ref q3, .int 0, .ref q4, .ref q5, .null, .null, .int 0, .null, .int 0, .int 0])), (q0, .inl (c0, 8, .inl (fun _ => 0))), (q1, .inl (c1, 8, .inl (fun _ => 0))), (q2, .inl (c2, 8, .inl (fun _ => 0))), (q3, .inl (c3, 4, .inl (fun _ => 0))), (q4, .inl (c4, 4, .inl (fun _ => 0))), (q5, .inl (c5, 4, .inl (fun _ => 0)))] := hD
  refine lv_aload_n hx hb dX9_init_49 rfl (lv_at hl 0 rfl) ?_
  refine lv_iconst (v := nI 4) hx hb dX9_init_50 (by decide) ?_
  refine va_newa (D := D) (cl := classes) (atype := .int) (ty := .int) (n := nI 4) (N' := 4) (a0 := (4, .inl (fun _ => 0))) hx hb (hts (.arrayClass .int) (inG (i := 127) (by decide +kernel) rfl)) rfl hK hP hD hS hA (na_int 4) (by decide) (by decide) (Nat.le_of_ble_eq_true rfl) (Nat.le_of_ble_eq_true rfl) (Nat.le_of_ble_eq_true rfl) dX9_init_51 (fun q6 c6 H hK hP hD hS => ?_)
  have hP : va_P D classes [(a, .inr (9, [.ref q0, .ref q1, .ref q2, .ref q3, .int 0, .ref q4, .ref q5, .null, .null, .int 0, .null, .int 0, .int 0])), (q0, .inl (c0, 8, .inl (fun _ => 0))), (q1, .inl (c1, 8, .inl (fun _ => 0))), (q2, .inl (c2, 8, .inl (fun _ => 0))), (q3, .inl (c3, 4, .inl (fun _ => 0))), (q4, .inl (c4, 4, .inl (fun _ => 0))), (q5, .inl (c5, 4, .inl (fun _ => 0))), (q6, .inl (c6, 4, .inl (fun _ => 0)))] H := hP
  have hD : va_D A [(a, .inr (9, [.ref q0, .ref q1, .ref q2, .ref q3, .int 0, .ref q4, .ref q5, .null, .null, .int 0, .null, .int 0, .int 0])), (q0, .inl (c0, 8, .inl (fun _ => 0))), (q1, .inl (c1, 8, .inl (fun _ => 0))), (q2, .inl (c2, 8, .inl (fun _ => 0))), (q3, .inl (c3, 4, .inl (fun _ => 0))), (q4, .inl (c4, 4, .inl (fun _ => 0))), (q5, .inl (c5, 4, .inl (fun _ => 0))), (q6, .inl (c6, 4, .inl (fun _ => 0)))] := hD
  have hK : va_K D classes [(c0, .int), (c1, .int), (c2, .int), (c3, .int), (c4, .int), (c5, .int), (c6, .int)] s := hK
  refine W.widen (k := 7) (n := 40) (Nat.le_of_ble_eq_true rfl) (Nat.le_of_ble_eq_true rfl) ?_
  refine va_putF (D := D) (cl := classes) (ci := 9) (v := .ref q6) (ty := .array .int) (C := RX9) (T := TX9) (N := 13) hx hb hts inX9 tyX9 tyX9_ok nmX9 hown hK hP hD hS 0 rfl rfl 7 (by decide) (hts (.fieldLink RX9 30 RX9 "home" "[I") (inG (i := 88) (by decide +kernel) rfl)) (fun _ h9 => h9) rfl hinit rfl (by decide +kernel) rfl rfl (Nat.le_of_ble_eq_true rfl) dX9_init_53 (fun H locs hP hD hS => ?_)
  have hP : va_P D classes [(a, .inr (9, [.ref q0, .ref q1, .ref q2, .ref q3, .int 0, .ref q4, .ref q5, .ref q6, .null, .int 0, .null, .int 0, .int 0])), (q0, .inl (c0, 8, .inl (fun _ => 0))), (q1, .inl (c1, 8, .inl (fun _ => 0))), (q2, .inl (c2, 8, .inl (fun _ => 0))), (q3, .inl (c3, 4, .inl (fun _ => 0))), (q4, .inl (c4, 4, .inl (fun _ => 0))), (q5, .inl (c5, 4, .inl (fun _ => 0))), (q6, .inl (c6, 4, .inl (fun _ => 0)))] H := hP
  have hD : va_D A [(a, .inr (9, [.ref q0, .ref q1, .ref q2, .ref q3, .int 0, .ref q4, .ref q5, .ref q6, .null, .int 0, .null, .int 0, .int 0])), (q0, .inl (c0, 8, .inl (fun _ => 0))), (q1, .inl (c1, 8, .inl (fun _ => 0))), (q2, .inl (c2, 8, .inl (fun _ => 0))), (q3, .inl (c3, 4, .inl (fun _ => 0))), (q4, .inl (c4, 4, .inl (fun _ => 0))), (q5, .inl (c5, 4, .inl (fun _ => 0))), (q6, .inl (c6, 4, .inl (fun _ => 0)))] := hD
  refine lv_aload_n hx hb dX9_init_56 rfl (lv_at hl 0 rfl) ?_
  refine lv_iconst (v := nI 4) hx hb dX9_init_57 (by decide) ?_
  refine va_newa (D := D) (cl := classes) (atype := .int) (ty := .int) (n := nI 4) (N' := 4) (a0 := (4, .inl (fun _ => 0))) hx hb (hts (.arrayClass .int) (inG (i := 127) (by decide +kernel) rfl)) rfl hK hP hD hS hA (na_int 4) (by decide) (by decide) (Nat.le_of_ble_eq_true rfl) (Nat.le_of_ble_eq_true rfl) (Nat.le_of_ble_eq_true rfl) dX9_init_58 (fun q7 c7 H hK hP hD hS => ?_)
  have hP : va_P D classes [(a, .inr (9, [.ref q0, .ref q1, .ref q2, .ref q3, .int 0, .ref q4, .ref q5, .ref q6, .null, .int 0, .null, .int 0, .int 0])), (q0, .inl (c0, 8, .inl (fun _ => 0))), (q1, .inl (c1, 8, .inl (fun _ => 0))), (q2, .inl (c2, 8, .inl (fun _ => 0))), (q3, .inl (c3, 4, .inl (fun _ => 0))), (q4, .inl (c4, 4, .inl (fun _ => 0))), (q5, .inl (c5, 4, .inl (fun _ => 0))), (q6, .inl (c6, 4, .inl (fun _ => 0))), (q7, .inl (c7, 4, .inl (fun _ => 0)))] H := hP
  have hD : va_D A [(a, .inr (9, [.ref q0, .ref q1, .ref q2, .ref q3, .int 0, .ref q4, .ref q5, .ref q6, .null, .int 0, .null, .int 0, .int 0])), (q0, .inl (c0, 8, .inl (fun _ => 0))), (q1, .inl (c1, 8, .inl (fun _ => 0))), (q2, .inl (c2, 8, .inl (fun _ => 0))), (q3, .inl (c3, 4, .inl (fun _ => 0))), (q4, .inl (c4, 4, .inl (fun _ => 0))), (q5, .inl (c5, 4, .inl (fun _ => 0))), (q6, .inl (c6, 4, .inl (fun _ => 0))), (q7, .inl (c7, 4, .inl (fun _ => 0)))] := hD
  have hK : va_K D classes [(c0, .int), (c1, .int), (c2, .int), (c3, .int), (c4, .int), (c5, .int), (c6, .int), (c7, .int)] s := hK
  refine W.widen (k := 8) (n := 44) (Nat.le_of_ble_eq_true rfl) (Nat.le_of_ble_eq_true rfl) ?_
  refine va_putF (D := D) (cl := classes) (ci := 9) (v := .ref q7) (ty := .array .int) (C := RX9) (T := TX9) (N := 13) hx hb hts inX9 tyX9 tyX9_ok nmX9 hown hK hP hD hS 0 rfl rfl 8 (by decide) (hts (.fieldLink RX9 33 RX9 "wary" "[I") (inG (i := 90) (by decide +kernel) rfl)) (fun _ h9 => h9) rfl hinit rfl (by decide +kernel) rfl rfl (Nat.le_of_ble_eq_true rfl) dX9_init_60 (fun H locs hP hD hS => ?_)
  have hP : va_P D classes [(a, .inr (9, [.ref q0, .ref q1, .ref q2, .ref q3, .int 0, .ref q4, .ref q5, .ref q6, .ref q7, .int 0, .null, .int 0, .int 0])), (q0, .inl (c0, 8, .inl (fun _ => 0))), (q1, .inl (c1, 8, .inl (fun _ => 0))), (q2, .inl (c2, 8, .inl (fun _ => 0))), (q3, .inl (c3, 4, .inl (fun _ => 0))), (q4, .inl (c4, 4, .inl (fun _ => 0))), (q5, .inl (c5, 4, .inl (fun _ => 0))), (q6, .inl (c6, 4, .inl (fun _ => 0))), (q7, .inl (c7, 4, .inl (fun _ => 0)))] H := hP
  have hD : va_D A [(a, .inr (9, [.ref q0, .ref q1, .ref q2, .ref q3, .int 0, .ref q4, .ref q5, .ref q6, .ref q7, .int 0, .null, .int 0, .int 0])), (q0, .inl (c0, 8, .inl (fun _ => 0))), (q1, .inl (c1, 8, .inl (fun _ => 0))), (q2, .inl (c2, 8, .inl (fun _ => 0))), (q3, .inl (c3, 4, .inl (fun _ => 0))), (q4, .inl (c4, 4, .inl (fun _ => 0))), (q5, .inl (c5, 4, .inl (fun _ => 0))), (q6, .inl (c6, 4, .inl (fun _ => 0))), (q7, .inl (c7, 4, .inl (fun _ => 0)))] := hD
  refine lv_aload_n hx hb dX9_init_63 rfl (lv_at hl 0 rfl) ?_
  refine lv_bipush (v := nI 7) hx hb dX9_init_64 (by decide) ?_
  refine va_newq (D := D) (cl := classes) (C := RX4) (n := nI 7) (N' := 7) hx hb hown (hts (.classLink RX9 36 RX4) (inG (i := 72) (by decide +kernel) rfl)) hAO hK hP hD hS hA (by decide) (by decide) (Nat.le_of_ble_eq_true rfl) (Nat.le_of_ble_eq_true rfl) (Nat.le_of_ble_eq_true rfl) dX9_init_66 (fun q8 c8 H hK hP hD hS => ?_)
  have hP : va_P D classes [(a, .inr (9, [.ref q0, .ref q1, .ref q2, .ref q3, .int 0, .ref q4, .ref q5, .ref q6, .ref q7, .int 0, .null, .int 0, .int 0])), (q0, .inl (c0, 8, .inl (fun _ => 0))), (q1, .inl (c1, 8, .inl (fun _ => 0))), (q2, .inl (c2, 8, .inl (fun _ => 0))), (q3, .inl (c3, 4, .inl (fun _ => 0))), (q4, .inl (c4, 4, .inl (fun _ => 0))), (q5, .inl (c5, 4, .inl (fun _ => 0))), (q6, .inl (c6, 4, .inl (fun _ => 0))), (q7, .inl (c7, 4, .inl (fun _ => 0))), (q8, .inl (c8, 7, .inr (.inr (.inr (.inr (fun _ => none))))))] H := hP
  have hD : va_D A [(a, .inr (9, [.ref q0, .ref q1, .ref q2, .ref q3, .int 0, .ref q4, .ref q5, .ref q6, .ref q7, .int 0, .null, .int 0, .int 0])), (q0, .inl (c0, 8, .inl (fun _ => 0))), (q1, .inl (c1, 8, .inl (fun _ => 0))), (q2, .inl (c2, 8, .inl (fun _ => 0))), (q3, .inl (c3, 4, .inl (fun _ => 0))), (q4, .inl (c4, 4, .inl (fun _ => 0))), (q5, .inl (c5, 4, .inl (fun _ => 0))), (q6, .inl (c6, 4, .inl (fun _ => 0))), (q7, .inl (c7, 4, .inl (fun _ => 0))), (q8, .inl (c8, 7, .inr (.inr (.inr (.inr (fun _ => none))))))] := hD
  have hK : va_K D classes [(c0, .int), (c1, .int), (c2, .int), (c3, .int), (c4, .int), (c5, .int), (c6, .int), (c7, .int), (c8, .object RX4)] s := hK
  refine W.widen (k := 9) (n := 51) (Nat.le_of_ble_eq_true rfl) (Nat.le_of_ble_eq_true rfl) ?_
  refine va_putF (D := D) (cl := classes) (ci := 9) (v := .ref q8) (ty := .array (.object RX4)) (C := RX9) (T := TX9) (N := 13) hx hb hts inX9 tyX9 tyX9_ok nmX9 hown hK hP hD hS 0 rfl rfl 10 (by decide) (hts (.fieldLink RX9 38 RX9 "flock" "[LMeatForDiamonds$Sheep;") (inG (i := 94) (by decide +kernel) rfl)) (fun _ h9 => h9) rfl hinit rfl (by decide +kernel) rfl rfl (Nat.le_of_ble_eq_true rfl) dX9_init_69 (fun H locs hP hD hS => ?_)
  have hP : va_P D classes [(a, .inr (9, [.ref q0, .ref q1, .ref q2, .ref q3, .int 0, .ref q4, .ref q5, .ref q6, .ref q7, .int 0, .ref q8, .int 0, .int 0])), (q0, .inl (c0, 8, .inl (fun _ => 0))), (q1, .inl (c1, 8, .inl (fun _ => 0))), (q2, .inl (c2, 8, .inl (fun _ => 0))), (q3, .inl (c3, 4, .inl (fun _ => 0))), (q4, .inl (c4, 4, .inl (fun _ => 0))), (q5, .inl (c5, 4, .inl (fun _ => 0))), (q6, .inl (c6, 4, .inl (fun _ => 0))), (q7, .inl (c7, 4, .inl (fun _ => 0))), (q8, .inl (c8, 7, .inr (.inr (.inr (.inr (fun _ => none))))))] H := hP
  have hD : va_D A [(a, .inr (9, [.ref q0, .ref q1, .ref q2, .ref q3, .int 0, .ref q4, .ref q5, .ref q6, .ref q7, .int 0, .ref q8, .int 0, .int 0])), (q0, .inl (c0, 8, .inl (fun _ => 0))), (q1, .inl (c1, 8, .inl (fun _ => 0))), (q2, .inl (c2, 8, .inl (fun _ => 0))), (q3, .inl (c3, 4, .inl (fun _ => 0))), (q4, .inl (c4, 4, .inl (fun _ => 0))), (q5, .inl (c5, 4, .inl (fun _ => 0))), (q6, .inl (c6, 4, .inl (fun _ => 0))), (q7, .inl (c7, 4, .inl (fun _ => 0))), (q8, .inl (c8, 7, .inr (.inr (.inr (.inr (fun _ => none))))))] := hD
  refine lv_aload_n hx hb dX9_init_72 rfl (lv_at hl 0 rfl) ?_
  refine lv_bipush (v := nI 6) hx hb dX9_init_73 (by decide) ?_
  refine va_put (D := D) (cl := classes) (ci := 9) (v := .int (nI 6)) (ty := .int) (C := RX9) (T := TX9) (N := 13) hx hb hts inX9 tyX9 tyX9_ok nmX9 hown hK hP hD hS 0 rfl rfl 11 (by decide) (hts (.fieldLink RX9 42 RX9 "hour" "I") (inG (i := 96) (by decide +kernel) rfl)) (fun _ h9 => h9) rfl (by decide +kernel) rfl rfl (Nat.le_of_ble_eq_true rfl) dX9_init_75 (fun H locs hP hD hS => ?_)
  have hP : va_P D classes [(a, .inr (9, [.ref q0, .ref q1, .ref q2, .ref q3, .int 0, .ref q4, .ref q5, .ref q6, .ref q7, .int 0, .ref q8, .int (nI 6), .int 0])), (q0, .inl (c0, 8, .inl (fun _ => 0))), (q1, .inl (c1, 8, .inl (fun _ => 0))), (q2, .inl (c2, 8, .inl (fun _ => 0))), (q3, .inl (c3, 4, .inl (fun _ => 0))), (q4, .inl (c4, 4, .inl (fun _ => 0))), (q5, .inl (c5, 4, .inl (fun _ => 0))), (q6, .inl (c6, 4, .inl (fun _ => 0))), (q7, .inl (c7, 4, .inl (fun _ => 0))), (q8, .inl (c8, 7, .inr (.inr (.inr (.inr (fun _ => none))))))] H := hP
  have hD : va_D A [(a, .inr (9, [.ref q0, .ref q1, .ref q2, .ref q3, .int 0, .ref q4, .ref q5, .ref q6, .ref q7, .int 0, .ref q8, .int (nI 6), .int 0])), (q0, .inl (c0, 8, .inl (fun _ => 0))), (q1, .inl (c1, 8, .inl (fun _ => 0))), (q2, .inl (c2, 8, .inl (fun _ => 0))), (q3, .inl (c3, 4, .inl (fun _ => 0))), (q4, .inl (c4, 4, .inl (fun _ => 0))), (q5, .inl (c5, 4, .inl (fun _ => 0))), (q6, .inl (c6, 4, .inl (fun _ => 0))), (q7, .inl (c7, 4, .inl (fun _ => 0))), (q8, .inl (c8, 7, .inr (.inr (.inr (.inr (fun _ => none))))))] := hD
  exact W.vret hx hb hr (fun t ht hW => ⟨⟨(fun t => [q0, q1, q2, q3, q4, q5, q6, q7, q8].getD t 0, fun t => [c0, c1, c2, c3, c4, c5, c6, c7, c8].getD t c0), rfl, trivial, by show va_P D classes _ t.heap; rw [ht]; exact hP, va_K.moved hW.alike hK, hD⟩, hS.F ht⟩) hS.2.2 dX9_init_78
theorem dX11_init_0 : decode cX11_init 0 = .ok (.aload_n 0, 1) := by decide +kernel
theorem dX11_init_1 : decode cX11_init 1 = .ok (.invokespecial 1, 3) := by decide +kernel
theorem dX11_init_4 : decode cX11_init 4 = .ok (.aload_n 0, 1) := by decide +kernel
theorem dX11_init_5 : decode cX11_init 5 = .ok (.bipush 62, 2) := by decide +kernel
theorem dX11_init_7 : decode cX11_init 7 = .ok (.newarray .int, 2) := by decide +kernel
theorem dX11_init_9 : decode cX11_init 9 = .ok (.putfield 9, 3) := by decide +kernel
theorem dX11_init_12 : decode cX11_init 12 = .ok (.aload_n 0, 1) := by decide +kernel
theorem dX11_init_13 : decode cX11_init 13 = .ok (.bipush 62, 2) := by decide +kernel
theorem dX11_init_15 : decode cX11_init 15 = .ok (.newarray .int, 2) := by decide +kernel
theorem dX11_init_17 : decode cX11_init 17 = .ok (.putfield 13, 3) := by decide +kernel
theorem dX11_init_20 : decode cX11_init 20 = .ok (.aload_n 0, 1) := by decide +kernel
theorem dX11_init_21 : decode cX11_init 21 = .ok (.bipush 62, 2) := by decide +kernel
theorem dX11_init_23 : decode cX11_init 23 = .ok (.newarray .int, 2) := by decide +kernel
theorem dX11_init_25 : decode cX11_init 25 = .ok (.putfield 16, 3) := by decide +kernel
theorem dX11_init_28 : decode cX11_init 28 = .ok (.aload_n 0, 1) := by decide +kernel
theorem dX11_init_29 : decode cX11_init 29 = .ok (.bipush 62, 2) := by decide +kernel
theorem dX11_init_31 : decode cX11_init 31 = .ok (.newarray .int, 2) := by decide +kernel
theorem dX11_init_33 : decode cX11_init 33 = .ok (.putfield 19, 3) := by decide +kernel
theorem dX11_init_36 : decode cX11_init 36 = .ok (.aload_n 0, 1) := by decide +kernel
theorem dX11_init_37 : decode cX11_init 37 = .ok (.bipush 62, 2) := by decide +kernel
theorem dX11_init_39 : decode cX11_init 39 = .ok (.newarray .int, 2) := by decide +kernel
theorem dX11_init_41 : decode cX11_init 41 = .ok (.putfield 22, 3) := by decide +kernel
theorem dX11_init_44 : decode cX11_init 44 = .ok (.aload_n 0, 1) := by decide +kernel
theorem dX11_init_45 : decode cX11_init 45 = .ok (.iconst 4, 1) := by decide +kernel
theorem dX11_init_46 : decode cX11_init 46 = .ok (.newarray .int, 2) := by decide +kernel
theorem dX11_init_48 : decode cX11_init 48 = .ok (.putfield 25, 3) := by decide +kernel
theorem dX11_init_51 : decode cX11_init 51 = .ok (.aload_n 0, 1) := by decide +kernel
theorem dX11_init_52 : decode cX11_init 52 = .ok (.sipush 200, 3) := by decide +kernel
theorem dX11_init_55 : decode cX11_init 55 = .ok (.newarray .boolean, 2) := by decide +kernel
theorem dX11_init_57 : decode cX11_init 57 = .ok (.putfield 28, 3) := by decide +kernel
theorem dX11_init_60 : decode cX11_init 60 = .ok (.aload_n 0, 1) := by decide +kernel
theorem dX11_init_61 : decode cX11_init 61 = .ok (.iconst 4, 1) := by decide +kernel
theorem dX11_init_62 : decode cX11_init 62 = .ok (.newarray .int, 2) := by decide +kernel
theorem dX11_init_64 : decode cX11_init 64 = .ok (.putfield 32, 3) := by decide +kernel
theorem dX11_init_67 : decode cX11_init 67 = .ok (.aload_n 0, 1) := by decide +kernel
theorem dX11_init_68 : decode cX11_init 68 = .ok (.bipush 8, 2) := by decide +kernel
theorem dX11_init_70 : decode cX11_init 70 = .ok (.newarray .int, 2) := by decide +kernel
theorem dX11_init_72 : decode cX11_init 72 = .ok (.putfield 35, 3) := by decide +kernel
theorem dX11_init_75 : decode cX11_init 75 = .ok (.aload_n 0, 1) := by decide +kernel
theorem dX11_init_76 : decode cX11_init 76 = .ok (.bipush 8, 2) := by decide +kernel
theorem dX11_init_78 : decode cX11_init 78 = .ok (.newarray .int, 2) := by decide +kernel
theorem dX11_init_80 : decode cX11_init 80 = .ok (.putfield 38, 3) := by decide +kernel
theorem dX11_init_83 : decode cX11_init 83 = .ok (.aload_n 0, 1) := by decide +kernel
theorem dX11_init_84 : decode cX11_init 84 = .ok (.bipush 8, 2) := by decide +kernel
theorem dX11_init_86 : decode cX11_init 86 = .ok (.newarray .int, 2) := by decide +kernel
theorem dX11_init_88 : decode cX11_init 88 = .ok (.putfield 41, 3) := by decide +kernel
theorem dX11_init_91 : decode cX11_init 91 = .ok (.aload_n 0, 1) := by decide +kernel
theorem dX11_init_92 : decode cX11_init 92 = .ok (.bipush 8, 2) := by decide +kernel
theorem dX11_init_94 : decode cX11_init 94 = .ok (.newarray .int, 2) := by decide +kernel
theorem dX11_init_96 : decode cX11_init 96 = .ok (.putfield 44, 3) := by decide +kernel
theorem dX11_init_99 : decode cX11_init 99 = .ok (.aload_n 0, 1) := by decide +kernel
theorem dX11_init_100 : decode cX11_init 100 = .ok (.bipush 8, 2) := by decide +kernel
theorem dX11_init_102 : decode cX11_init 102 = .ok (.newarray .int, 2) := by decide +kernel
theorem dX11_init_104 : decode cX11_init 104 = .ok (.putfield 47, 3) := by decide +kernel
theorem dX11_init_107 : decode cX11_init 107 = .ok (.aload_n 0, 1) := by decide +kernel
theorem dX11_init_108 : decode cX11_init 108 = .ok (.sipush 800, 3) := by decide +kernel
theorem dX11_init_111 : decode cX11_init 111 = .ok (.newarray .int, 2) := by decide +kernel
theorem dX11_init_113 : decode cX11_init 113 = .ok (.putfield 50, 3) := by decide +kernel
theorem dX11_init_116 : decode cX11_init 116 = .ok (.aload_n 0, 1) := by decide +kernel
theorem dX11_init_117 : decode cX11_init 117 = .ok (.getfield 9, 3) := by decide +kernel
theorem dX11_init_120 : decode cX11_init 120 = .ok (.iconst 2, 1) := by decide +kernel
theorem dX11_init_121 : decode cX11_init 121 = .ok (.bipush 6, 2) := by decide +kernel
theorem dX11_init_123 : decode cX11_init 123 = .ok (.iastore, 1) := by decide +kernel
theorem dX11_init_124 : decode cX11_init 124 = .ok (.return_, 1) := by decide +kernel
abbrev w110 (a : Nat) : va_W := [(a, .inr (11, [.null, .null, .null, .null, .null, .int 0, .int 0, .int 0, .int 0, .null, .int 0, .int 0, .int 0, .null, .null, .int 0, .null, .null, .null, .null, .null, .null, .int 0]))]
abbrev w111 (a : Nat) (u : (Nat → Nat) × (Nat → ClassId)) : va_W := [(a, .inr (11, [.ref (u.1 0), .ref (u.1 1), .ref (u.1 2), .ref (u.1 3), .ref (u.1 4), .int 0, .int 0, .int 0, .int 0, .ref (u.1 5), .int 0, .int 0, .int 0, .ref (u.1 6), .ref (u.1 7), .int 0, .ref (u.1 8), .ref (u.1 9), .ref (u.1 10), .ref (u.1 11), .ref (u.1 12), .ref (u.1 13), .int 0])), ((u.1 0), .inl ((u.2 0), 62, .inl (upd (fun _ => 0) 2 (nI 6)))), ((u.1 1), .inl ((u.2 1), 62, .inl (fun _ => 0))), ((u.1 2), .inl ((u.2 2), 62, .inl (fun _ => 0))), ((u.1 3), .inl ((u.2 3), 62, .inl (fun _ => 0))), ((u.1 4), .inl ((u.2 4), 62, .inl (fun _ => 0))), ((u.1 5), .inl ((u.2 5), 4, .inl (fun _ => 0))), ((u.1 6), .inl ((u.2 6), 200, .inl (fun _ => 0))), ((u.1 7), .inl ((u.2 7), 4, .inl (fun _ => 0))), ((u.1 8), .inl ((u.2 8), 8, .inl (fun _ => 0))), ((u.1 9), .inl ((u.2 9), 8, .inl (fun _ => 0))), ((u.1 10), .inl ((u.2 10), 8, .inl (fun _ => 0))), ((u.1 11), .inl ((u.2 11), 8, .inl (fun _ => 0))), ((u.1 12), .inl ((u.2 12), 8, .inl (fun _ => 0))), ((u.1 13), .inl ((u.2 13), 800, .inl (fun _ => 0)))]
abbrev t111 (u : (Nat → Nat) × (Nat → ClassId)) : List (ClassId × FieldType) := [((u.2 0), .int), ((u.2 1), .int), ((u.2 2), .int), ((u.2 3), .int), ((u.2 4), .int), ((u.2 5), .int), ((u.2 6), .boolean), ((u.2 7), .int), ((u.2 8), .int), ((u.2 9), .int), ((u.2 10), .int), ((u.2 11), .int), ((u.2 12), .int), ((u.2 13), .int)]
set_option maxHeartbeats 8000000 in
set_option maxRecDepth 100000 in
theorem c_X11i (l : Launch) (D : va_G) (a sz : Nat) : Met l yX11_init (Cond.code yX11_init cX11_init 1 none :: lw_g) ({ frames := 1, cells := 14, slots := 1358, locals := 12 }) (va_Pc [.ref a] (fun U => U.heap.size = sz ∧ va_P D classes (w110 a) U.heap ∧ va_K D classes [] U ∧ va_D (fun _ => True) (w110 a))) (va_Qv (fun _ : (Nat → Nat) × (Nat → ClassId) => True) (fun u t => va_P D classes (w111 a u) t.heap ∧ va_K D classes (t111 u) t ∧ va_D (va_A (w110 a) sz) (w111 a u)) (va_A (w110 a) sz)) 14 1358 (va_A (w110 a) sz) := by
  refine Met.ofW (cc := cX11_init) (maxL := 1) (ret := none) (by decide) rfl ?_
  intro p e s m args below meth c s₁ B hml hv
  obtain ⟨rfl, hsz, hP, hK, hD0⟩ := hv
  have hx := B.exec
  have hb := B.bytes
  have hr := B.returns
  have hts0 := atoms_spec (ws := Cond.code yX11_init cX11_init 1 none :: lw_g) B.pre
  have hts := fun w (hw : w ∈ lw_g) => hts0 w (List.mem_cons_of_mem _ hw)
  have hown : s.vm.findClass RX11 = some m.cls := findClass_of_methodNamed B.named
  have hinit : meth.name = "<init>" := (name_of_methodNamed B.named B.method).1
  subst hsz
  have hD := hD0.self (sz := s.heap.size)
  generalize hAe : va_A (w110 a) s.heap.size = A at hD ⊢
  have hA : ∀ q : Nat, s.heap.size ≤ q → A q := fun q h => by rw [← hAe]; exact Or.inr h
  have hS : va_S A s.heap s.heap [] := va_S.rf
  have hl := lv_entry ([.ref a]) (n := 1) (Nat.le_of_ble_eq_true rfl)
  rw [lg_entry_eq]
  generalize (lg_sl ([.ref a]) ++ List.replicate (1 - (lg_sl ([.ref a])).length) Slot.unset).toArray = ls at hl ⊢
  have hl : lv_has ls 1 [(0, .ref a)] := hl
  refine lv_aload_n hx hb dX11_init_0 rfl (lv_at hl 0 rfl) ?_
  refine W.objInit hx hb hown (hts (.methodLink RX11 1 objectInit) (inG (i := 918) (by decide +kernel) rfl)) (hts (.instanceMethod objectInit) (inG (i := 64) (by decide +kernel) rfl)) (hts (.code objectInit ⟨#[0xb1]⟩ 1 none) (inG (i := 65) (by decide +kernel) rfl)) rfl (by rw [hml]; exact hl.1) rfl dX11_init_1 (Nat.le_of_ble_eq_true rfl) (Nat.le_of_ble_eq_true rfl) ?_
  refine W.eq (g2 := F0 m 4 ls []) rfl ?_
  refine lv_aload_n hx hb dX11_init_4 rfl (lv_at hl 0 rfl) ?_
  refine lv_bipush (v := nI 62) hx hb dX11_init_5 (by decide) ?_
  refine va_newa (D := D) (cl := classes) (atype := .int) (ty := .int) (n := nI 62) (N' := 62) (a0 := (62, .inl (fun _ => 0))) hx hb (hts (.arrayClass .int) (inG (i := 127) (by decide +kernel) rfl)) rfl hK hP hD hS hA (na_int 62) (by decide) (by decide) (Nat.le_of_ble_eq_true rfl) (Nat.le_of_ble_eq_true rfl) (Nat.le_of_ble_eq_true rfl) dX11_init_7 (fun q0 c0 H hK hP hD hS => ?_)
  have hP : va_P D classes [(a, .inr (11, [.null, .null, .null, .null, .null, .int 0, .int 0, .int 0, .int 0, .null, .int 0, .int 0, .int 0, .null, .null, .int 0, .null, .null, .null, .null, .null, .null, .int 0])), (q0, .inl (c0, 62, .inl (fun _ => 0)))] H := hP
  have hD : va_D A [(a, .inr (11, [.null, .null, .null, .null, .null, .int 0, .int 0, .int 0, .int 0, .null, .int 0, .int 0, .int 0, .null, .null, .int 0, .null, .null, .null, .null, .null, .null, .int 0])), (q0, .inl (c0, 62, .inl (fun _ => 0)))] := hD
  have hK : va_K D classes [(c0, .int)] s := hK
  refine W.widen (k := 1) (n := 62) (Nat.le_of_ble_eq_true rfl) (Nat.le_of_ble_eq_true rfl) ?_
  refine va_putF (D := D) (cl := classes) (ci := 11) (v := .ref q0) (ty := .array .int) (C := RX11) (T := TX11) (N := 23) hx hb hts inX11 tyX11 tyX11_ok nmX11 hown hK hP hD hS 0 rfl rfl 0 (by decide) (hts (.fieldLink RX11 9 RX11 "s" "[I") (inG (i := 919) (by decide +kernel) rfl)) (fun _ h9 => h9) rfl hinit rfl (by decide +kernel) rfl rfl (Nat.le_of_ble_eq_true rfl) dX11_init_9 (fun H locs hP hD hS => ?_)
  have hP : va_P D classes [(a, .inr (11, [.ref q0, .null, .null, .null, .null, .int 0, .int 0, .int 0, .int 0, .null, .int 0, .int 0, .int 0, .null, .null, .int 0, .null, .null, .null, .null, .null, .null, .int 0])), (q0, .inl (c0, 62, .inl (fun _ => 0)))] H := hP
  have hD : va_D A [(a, .inr (11, [.ref q0, .null, .null, .null, .null, .int 0, .int 0, .int 0, .int 0, .null, .int 0, .int 0, .int 0, .null, .null, .int 0, .null, .null, .null, .null, .null, .null, .int 0])), (q0, .inl (c0, 62, .inl (fun _ => 0)))] := hD
  refine lv_aload_n hx hb dX11_init_12 rfl (lv_at hl 0 rfl) ?_
  refine lv_bipush (v := nI 62) hx hb dX11_init_13 (by decide) ?_
  refine va_newa (D := D) (cl := classes) (atype := .int) (ty := .int) (n := nI 62) (N' := 62) (a0 := (62, .inl (fun _ => 0))) hx hb (hts (.arrayClass .int) (inG (i := 127) (by decide +kernel) rfl)) rfl hK hP hD hS hA (na_int 62) (by decide) (by decide) (Nat.le_of_ble_eq_true rfl) (Nat.le_of_ble_eq_true rfl) (Nat.le_of_ble_eq_true rfl) dX11_init_15 (fun q1 c1 H hK hP hD hS => ?_)
  have hP : va_P D classes [(a, .inr (11, [.ref q0, .null, .null, .null, .null, .int 0, .int 0, .int 0, .int 0, .null, .int 0, .int 0, .int 0, .null, .null, .int 0, .null, .null, .null, .null, .null, .null, .int 0])), (q0, .inl (c0, 62, .inl (fun _ => 0))), (q1, .inl (c1, 62, .inl (fun _ => 0)))] H := hP
  have hD : va_D A [(a, .inr (11, [.ref q0, .null, .null, .null, .null, .int 0, .int 0, .int 0, .int 0, .null, .int 0, .int 0, .int 0, .null, .null, .int 0, .null, .null, .null, .null, .null, .null, .int 0])), (q0, .inl (c0, 62, .inl (fun _ => 0))), (q1, .inl (c1, 62, .inl (fun _ => 0)))] := hD
  have hK : va_K D classes [(c0, .int), (c1, .int)] s := hK
  refine W.widen (k := 2) (n := 124) (Nat.le_of_ble_eq_true rfl) (Nat.le_of_ble_eq_true rfl) ?_
  refine va_putF (D := D) (cl := classes) (ci := 11) (v := .ref q1) (ty := .array .int) (C := RX11) (T := TX11) (N := 23) hx hb hts inX11 tyX11 tyX11_ok nmX11 hown hK hP hD hS 0 rfl rfl 1 (by decide) (hts (.fieldLink RX11 13 RX11 "m" "[I") (inG (i := 920) (by decide +kernel) rfl)) (fun _ h9 => h9) rfl hinit rfl (by decide +kernel) rfl rfl (Nat.le_of_ble_eq_true rfl) dX11_init_17 (fun H locs hP hD hS => ?_)
  have hP : va_P D classes [(a, .inr (11, [.ref q0, .ref q1, .null, .null, .null, .int 0, .int 0, .int 0, .int 0, .null, .int 0, .int 0, .int 0, .null, .null, .int 0, .null, .null, .null, .null, .null, .null, .int 0])), (q0, .inl (c0, 62, .inl (fun _ => 0))), (q1, .inl (c1, 62, .inl (fun _ => 0)))] H := hP
  have hD : va_D A [(a, .inr (11, [.ref q0, .ref q1, .null, .null, .null, .int 0, .int 0, .int 0, .int 0, .null, .int 0, .int 0, .int 0, .null, .null, .int 0, .null, .null, .null, .null, .null, .null, .int 0])), (q0, .inl (c0, 62, .inl (fun _ => 0))), (q1, .inl (c1, 62, .inl (fun _ => 0)))] := hD
  refine lv_aload_n hx hb dX11_init_20 rfl (lv_at hl 0 rfl) ?_
  refine lv_bipush (v := nI 62) hx hb dX11_init_21 (by decide) ?_
  refine va_newa (D := D) (cl := classes) (atype := .int) (ty := .int) (n := nI 62) (N' := 62) (a0 := (62, .inl (fun _ => 0))) hx hb (hts (.arrayClass .int) (inG (i := 127) (by decide +kernel) rfl)) rfl hK hP hD hS hA (na_int 62) (by decide) (by decide) (Nat.le_of_ble_eq_true rfl) (Nat.le_of_ble_eq_true rfl) (Nat.le_of_ble_eq_true rfl) dX11_init_23 (fun q2 c2 H hK hP hD hS => ?_)
  have hP : va_P D classes [(a, .inr (11, [.ref q0, .ref q1, .null, .null, .null, .int 0, .int 0, .int 0, .int 0, .null, .int 0, .int 0, .int 0, .null, .null, .int 0, .null, .null, .null, .null, .null, .null, .int 0])), (q0, .inl (c0, 62, .inl (fun _ => 0))), (q1, .inl (c1, 62, .inl (fun _ => 0))), (q2, .inl (c2, 62, .inl (fun _ => 0)))] H := hP
  have hD : va_D A [(a, .inr (11, [.ref q0, .ref q1, .null, .null, .null, .int 0, .int 0, .int 0, .int 0, .null, .int 0, .int 0, .int 0, .null, .null, .int 0, .null, .null, .null, .null, .null, .null, .int 0])), (q0, .inl (c0, 62, .inl (fun _ => 0))), (q1, .inl (c1, 62, .inl (fun _ => 0))), (q2, .inl (c2, 62, .inl (fun _ => 0)))] := hD
  have hK : va_K D classes [(c0, .int), (c1, .int), (c2, .int)] s := hK
  refine W.widen (k := 3) (n := 186) (Nat.le_of_ble_eq_true rfl) (Nat.le_of_ble_eq_true rfl) ?_
  refine va_putF (D := D) (cl := classes) (ci := 11) (v := .ref q2) (ty := .array .int) (C := RX11) (T := TX11) (N := 23) hx hb hts inX11 tyX11 tyX11_ok nmX11 hown hK hP hD hS 0 rfl rfl 2 (by decide) (hts (.fieldLink RX11 16 RX11 "then" "[I") (inG (i := 921) (by decide +kernel) rfl)) (fun _ h9 => h9) rfl hinit rfl (by decide +kernel) rfl rfl (Nat.le_of_ble_eq_true rfl) dX11_init_25 (fun H locs hP hD hS => ?_)
  have hP : va_P D classes [(a, .inr (11, [.ref q0, .ref q1, .ref q2, .null, .null, .int 0, .int 0, .int 0, .int 0, .null, .int 0, .int 0, .int 0, .null, .null, .int 0, .null, .null, .null, .null, .null, .null, .int 0])), (q0, .inl (c0, 62, .inl (fun _ => 0))), (q1, .inl (c1, 62, .inl (fun _ => 0))), (q2, .inl (c2, 62, .inl (fun _ => 0)))] H := hP
  have hD : va_D A [(a, .inr (11, [.ref q0, .ref q1, .ref q2, .null, .null, .int 0, .int 0, .int 0, .int 0, .null, .int 0, .int 0, .int 0, .null, .null, .int 0, .null, .null, .null, .null, .null, .null, .int 0])), (q0, .inl (c0, 62, .inl (fun _ => 0))), (q1, .inl (c1, 62, .inl (fun _ => 0))), (q2, .inl (c2, 62, .inl (fun _ => 0)))] := hD
  refine lv_aload_n hx hb dX11_init_28 rfl (lv_at hl 0 rfl) ?_
  refine lv_bipush (v := nI 62) hx hb dX11_init_29 (by decide) ?_
  refine va_newa (D := D) (cl := classes) (atype := .int) (ty := .int) (n := nI 62) (N' := 62) (a0 := (62, .inl (fun _ => 0))) hx hb (hts (.arrayClass .int) (inG (i := 127) (by decide +kernel) rfl)) rfl hK hP hD hS hA (na_int 62) (by decide) (by decide) (Nat.le_of_ble_eq_true rfl) (Nat.le_of_ble_eq_true rfl) (Nat.le_of_ble_eq_true rfl) dX11_init_31 (fun q3 c3 H hK hP hD hS => ?_)
  have hP : va_P D classes [(a, .inr (11, [.ref q0, .ref q1, .ref q2, .null, .null, .int 0, .int 0, .int 0, .int 0, .null, .int 0, .int 0, .int 0, .null, .null, .int 0, .null, .null, .null, .null, .null, .null, .int 0])), (q0, .inl (c0, 62, .inl (fun _ => 0))), (q1, .inl (c1, 62, .inl (fun _ => 0))), (q2, .inl (c2, 62, .inl (fun _ => 0))), (q3, .inl (c3, 62, .inl (fun _ => 0)))] H := hP
  have hD : va_D A [(a, .inr (11, [.ref q0, .ref q1, .ref q2, .null, .null, .int 0, .int 0, .int 0, .int 0, .null, .int 0, .int 0, .int 0, .null, .null, .int 0, .null, .null, .null, .null, .null, .null, .int 0])), (q0, .inl (c0, 62, .inl (fun _ => 0))), (q1, .inl (c1, 62, .inl (fun _ => 0))), (q2, .inl (c2, 62, .inl (fun _ => 0))), (q3, .inl (c3, 62, .inl (fun _ => 0)))] := hD
  have hK : va_K D classes [(c0, .int), (c1, .int), (c2, .int), (c3, .int)] s := hK
  refine W.widen (k := 4) (n := 248) (Nat.le_of_ble_eq_true rfl) (Nat.le_of_ble_eq_true rfl) ?_
  refine va_putF (D := D) (cl := classes) (ci := 11) (v := .ref q3) (ty := .array .int) (C := RX11) (T := TX11) (N := 23) hx hb hts inX11 tyX11 tyX11_ok nmX11 hown hK hP hD hS 0 rfl rfl 3 (by decide) (hts (.fieldLink RX11 19 RX11 "image" "[I") (inG (i := 922) (by decide +kernel) rfl)) (fun _ h9 => h9) rfl hinit rfl (by decide +kernel) rfl rfl (Nat.le_of_ble_eq_true rfl) dX11_init_33 (fun H locs hP hD hS => ?_)
  have hP : va_P D classes [(a, .inr (11, [.ref q0, .ref q1, .ref q2, .ref q3, .null, .int 0, .int 0, .int 0, .int 0, .null, .int 0, .int 0, .int 0, .null, .null, .int 0, .null, .null, .null, .null, .null, .null, .int 0])), (q0, .inl (c0, 62, .inl (fun _ => 0))), (q1, .inl (c1, 62, .inl (fun _ => 0))), (q2, .inl (c2, 62, .inl (fun _ => 0))), (q3, .inl (c3, 62, .inl (fun _ => 0)))] H := hP
  have hD : va_D A [(a, .inr (11, [.ref q0, .ref q1, .ref q2, .ref q3, .null, .int 0, .int 0, .int 0, .int 0, .null, .int 0, .int 0, .int 0, .null, .null, .int 0, .null, .null, .null, .null, .null, .null, .int 0])), (q0, .inl (c0, 62, .inl (fun _ => 0))), (q1, .inl (c1, 62, .inl (fun _ => 0))), (q2, .inl (c2, 62, .inl (fun _ => 0))), (q3, .inl (c3, 62, .inl (fun _ => 0)))] := hD
  refine lv_aload_n hx hb dX11_init_36 rfl (lv_at hl 0 rfl) ?_
  refine lv_bipush (v := nI 62) hx hb dX11_init_37 (by decide) ?_
  refine va_newa (D := D) (cl := classes) (atype := .int) (ty := .int) (n := nI 62) (N' := 62) (a0 := (62, .inl (fun _ => 0))) hx hb (hts (.arrayClass .int) (inG (i := 127) (by decide +kernel) rfl)) rfl hK hP hD hS hA (na_int 62) (by decide) (by decide) (Nat.le_of_ble_eq_true rfl) (Nat.le_of_ble_eq_true rfl) (Nat.le_of_ble_eq_true rfl) dX11_init_39 (fun q4 c4 H hK hP hD hS => ?_)
  have hP : va_P D classes [(a, .inr (11, [.ref q0, .ref q1, .ref q2, .ref q3, .null, .int 0, .int 0, .int 0, .int 0, .null, .int 0, .int 0, .int 0, .null, .null, .int 0, .null, .null, .null, .null, .null, .null, .int 0])), (q0, .inl (c0, 62, .inl (fun _ => 0))), (q1, .inl (c1, 62, .inl (fun _ => 0))), (q2, .inl (c2, 62, .inl (fun _ => 0))), (q3, .inl (c3, 62, .inl (fun _ => 0))), (q4, .inl (c4, 62, .inl (fun _ => 0)))] H := hP
  have hD : va_D A [(a, .inr (11, [.ref q0, .ref q1, .ref q2, .ref q3, .null, .int 0, .int 0, .int 0, .int 0, .null, .int 0, .int 0, .int 0, .null, .null, .int 0, .null, .null, .null, .null, .null, .null, .int 0])), (q0, .inl (c0, 62, .inl (fun _ => 0))), (q1, .inl (c1, 62, .inl (fun _ => 0))), (q2, .inl (c2, 62, .inl (fun _ => 0))), (q3, .inl (c3, 62, .inl (fun _ => 0))), (q4, .inl (c4, 62, .inl (fun _ => 0)))] := hD
  have hK : va_K D classes [(c0, .int), (c1, .int), (c2, .int), (c3, .int), (c4, .int)] s := hK
  refine W.widen (k := 5) (n := 310) (Nat.le_of_ble_eq_true rfl) (Nat.le_of_ble_eq_true rfl) ?_
  refine va_putF (D := D) (cl := classes) (ci := 11) (v := .ref q4) (ty := .array .int) (C := RX11) (T := TX11) (N := 23) hx hb hts inX11 tyX11 tyX11_ok nmX11 hown hK hP hD hS 0 rfl rfl 4 (by decide) (hts (.fieldLink RX11 22 RX11 "was" "[I") (inG (i := 923) (by decide +kernel) rfl)) (fun _ h9 => h9) rfl hinit rfl (by decide +kernel) rfl rfl (Nat.le_of_ble_eq_true rfl) dX11_init_41 (fun H locs hP hD hS => ?_)
  have hP : va_P D classes [(a, .inr (11, [.ref q0, .ref q1, .ref q2, .ref q3, .ref q4, .int 0, .int 0, .int 0, .int 0, .null, .int 0, .int 0, .int 0, .null, .null, .int 0, .null, .null, .null, .null, .null, .null, .int 0])), (q0, .inl (c0, 62, .inl (fun _ => 0))), (q1, .inl (c1, 62, .inl (fun _ => 0))), (q2, .inl (c2, 62, .inl (fun _ => 0))), (q3, .inl (c3, 62, .inl (fun _ => 0))), (q4, .inl (c4, 62, .inl (fun _ => 0)))] H := hP
  have hD : va_D A [(a, .inr (11, [.ref q0, .ref q1, .ref q2, .ref q3, .ref q4, .int 0, .int 0, .int 0, .int 0, .null, .int 0, .int 0, .int 0, .null, .null, .int 0, .null, .null, .null, .null, .null, .null, .int 0])), (q0, .inl (c0, 62, .inl (fun _ => 0))), (q1, .inl (c1, 62, .inl (fun _ => 0))), (q2, .inl (c2, 62, .inl (fun _ => 0))), (q3, .inl (c3, 62, .inl (fun _ => 0))), (q4, .inl (c4, 62, .inl (fun _ => 0)))] := hD
  refine lv_aload_n hx hb dX11_init_44 rfl (lv_at hl 0 rfl) ?_
  refine lv_iconst (v := nI 4) hx hb dX11_init_45 (by decide) ?_
  refine va_newa (D := D) (cl := classes) (atype := .int) (ty := .int) (n := nI 4) (N' := 4) (a0 := (4, .inl (fun _ => 0))) hx hb (hts (.arrayClass .int) (inG (i := 127) (by decide +kernel) rfl)) rfl hK hP hD hS hA (na_int 4) (by decide) (by decide) (Nat.le_of_ble_eq_true rfl) (Nat.le_of_ble_eq_true rfl) (Nat.le_of_ble_eq_true rfl) dX11_init_46 (fun q5 c5 H hK hP hD hS => ?_)
  have hP : va_P D classes [(a, .inr (11, [.ref q0, .ref q1, .ref q2, .ref q3, .ref q4, .int 0, .int 0, .int 0, .int 0, .null, .int 0, .int 0, .int 0, .null, .null, .int 0, .null, .null, .null, .null, .null, .null, .int 0])), (q0, .inl (c0, 62, .inl (fun _ => 0))), (q1, .inl (c1, 62, .inl (fun _ => 0))), (q2, .inl (c2, 62, .inl (fun _ => 0))), (q3, .inl (c3, 62, .inl (fun _ => 0))), (q4, .inl (c4, 62, .inl (fun _ => 0))), (q5, .inl (c5, 4, .inl (fun _ => 0)))] H := hP
  have hD : va_D A [(a, .inr (11, [.ref q0, .ref q1, .ref q2, .ref q3, .ref q4, .int 0, .int 0, .int 0, .int 0, .null, .int 0, .int 0, .int 0, .null, .null, .int 0, .null, .null, .null, .null, .null, .null, .int 0])), (q0, .inl (c0, 62, .inl (fun _ => 0))), (q1, .inl (c1, 62, .inl (fun _ => 0))), (q2, .inl (c2, 62, .inl (fun _ => 0))), (q3, .inl (c3, 62, .inl (fun _ => 0))), (q4, .inl (c4, 62, .inl (fun _ => 0))), (q5, .inl (c5, 4, .inl (fun _ => 0)))] := hD
  have hK : va_K D classes [(c0, .int), (c1, .int), (c2, .int), (c3, .int), (c4, .int), (c5, .int)] s := hK
  refine W.widen (k := 6) (n := 314) (Nat.le_of_ble_eq_true rfl) (Nat.le_of_ble_eq_true rfl) ?_
  refine va_putF (D := D) (cl := classes) (ci := 11) (v := .ref q5) (ty := .array .int) (C := RX11) (T := TX11) (N := 23) hx hb hts inX11 tyX11 tyX11_ok nmX11 hown hK hP hD hS 0 rfl rfl 9 (by decide) (hts (.fieldLink RX11 25 RX11 "numbers" "[I") (inG (i := 928) (by decide +kernel) rfl)) (fun _ h9 => h9) rfl hinit rfl (by decide +kernel) rfl rfl (Nat.le_of_ble_eq_true rfl) dX11_init_48 (fun H locs hP hD hS => ?_)
  have hP : va_P D classes [(a, .inr (11, [.ref q0, .ref q1, .ref q2, .ref q3, .ref q4, .int 0, .int 0, .int 0, .int 0, .ref q5, .int 0, .int 0, .int 0, .null, .null, .int 0, .null, .null, .null, .null, .null, .null, .int 0])), (q0, .inl (c0, 62, .inl (fun _ => 0))), (q1, .inl (c1, 62, .inl (fun _ => 0))), (q2, .inl (c2, 62, .inl (fun _ => 0))), (q3, .inl (c3, 62, .inl (fun _ => 0))), (q4, .inl (c4, 62, .inl (fun _ => 0))), (q5, .inl (c5, 4, .inl (fun _ => 0)))] H := hP
  have hD : va_D A [(a, .inr (11, [.ref q0, .ref q1, .ref q2, .ref q3, .ref q4, .int 0, .int 0, .int 0, .int 0, .ref q5, .int 0, .int 0, .int 0, .null, .null, .int 0, .null, .null, .null, .null, .null, .null, .int 0])), (q0, .inl (c0, 62, .inl (fun _ => 0))), (q1, .inl (c1, 62, .inl (fun _ => 0))), (q2, .inl (c2, 62, .inl (fun _ => 0))), (q3, .inl (c3, 62, .inl (fun _ => 0))), (q4, .inl (c4, 62, .inl (fun _ => 0))), (q5, .inl (c5, 4, .inl (fun _ => 0)))] := hD
  refine lv_aload_n hx hb dX11_init_51 rfl (lv_at hl 0 rfl) ?_
  refine lv_sipush (v := nI 200) hx hb dX11_init_52 (by decide) ?_
  refine va_newa (D := D) (cl := classes) (atype := .boolean) (ty := .boolean) (n := nI 200) (N' := 200) (a0 := (200, .inl (fun _ => 0))) hx hb (hts (.arrayClass .boolean) (inG (i := 989) (by decide +kernel) rfl)) rfl hK hP hD hS hA (na_bool 200) (by decide) (by decide) (Nat.le_of_ble_eq_true rfl) (Nat.le_of_ble_eq_true rfl) (Nat.le_of_ble_eq_true rfl) dX11_init_55 (fun q6 c6 H hK hP hD hS => ?_)
  have hP : va_P D classes [(a, .inr (11, [.ref q0, .ref q1, .ref q2, .ref q3, .ref q4, .int 0, .int 0, .int 0, .int 0, .ref q5, .int 0, .int 0, .int 0, .null, .null, .int 0, .null, .null, .null, .null, .null, .null, .int 0])), (q0, .inl (c0, 62, .inl (fun _ => 0))), (q1, .inl (c1, 62, .inl (fun _ => 0))), (q2, .inl (c2, 62, .inl (fun _ => 0))), (q3, .inl (c3, 62, .inl (fun _ => 0))), (q4, .inl (c4, 62, .inl (fun _ => 0))), (q5, .inl (c5, 4, .inl (fun _ => 0))), (q6, .inl (c6, 200, .inl (fun _ => 0)))] H := hP
  have hD : va_D A [(a, .inr (11, [.ref q0, .ref q1, .ref q2, .ref q3, .ref q4, .int 0, .int 0, .int 0, .int 0, .ref q5, .int 0, .int 0, .int 0, .null, .null, .int 0, .null, .null, .null, .null, .null, .null, .int 0])), (q0, .inl (c0, 62, .inl (fun _ => 0))), (q1, .inl (c1, 62, .inl (fun _ => 0))), (q2, .inl (c2, 62, .inl (fun _ => 0))), (q3, .inl (c3, 62, .inl (fun _ => 0))), (q4, .inl (c4, 62, .inl (fun _ => 0))), (q5, .inl (c5, 4, .inl (fun _ => 0))), (q6, .inl (c6, 200, .inl (fun _ => 0)))] := hD
  have hK : va_K D classes [(c0, .int), (c1, .int), (c2, .int), (c3, .int), (c4, .int), (c5, .int), (c6, .boolean)] s := hK
  refine W.widen (k := 7) (n := 514) (Nat.le_of_ble_eq_true rfl) (Nat.le_of_ble_eq_true rfl) ?_
  refine va_putF (D := D) (cl := classes) (ci := 11) (v := .ref q6) (ty := .array .boolean) (C := RX11) (T := TX11) (N := 23) hx hb hts inX11 tyX11 tyX11_ok nmX11 hown hK hP hD hS 0 rfl rfl 13 (by decide) (hts (.fieldLink RX11 28 RX11 "told" "[Z") (inG (i := 932) (by decide +kernel) rfl)) (fun _ h9 => h9) rfl hinit rfl (by decide +kernel) rfl rfl (Nat.le_of_ble_eq_true rfl) dX11_init_57 (fun H locs hP hD hS => ?_)
  have hP : va_P D classes [(a, .inr (11, [.ref q0, .ref q1, .ref q2, .ref q3, .ref q4, .int 0, .int 0, .int 0, .int 0, .ref q5, .int 0, .int 0, .int 0, .ref q6, .null, .int 0, .null, .null, .null, .null, .null, .null, .int 0])), (q0, .inl (c0, 62, .inl (fun _ => 0))), (q1, .inl (c1, 62, .inl (fun _ => 0))), (q2, .inl (c2, 62, .inl (fun _ => 0))), (q3, .inl (c3, 62, .inl (fun _ => 0))), (q4, .inl (c4, 62, .inl (fun _ => 0))), (q5, .inl (c5, 4, .inl (fun _ => 0))), (q6, .inl (c6, 200, .inl (fun _ => 0)))] H := hP
  have hD : va_D A [(a, .inr (11, [.ref q0, .ref q1, .ref q2, .ref q3, .ref q4, .int 0, .int 0, .int 0, .int 0, .ref q5, .int 0, .int 0, .int 0, .ref q6, .null, .int 0, .null, .null, .null, .null, .null, .null, .int 0])), (q0, .inl (c0, 62, .inl (fun _ => 0))), (q1, .inl (c1, 62, .inl (fun _ => 0))), (q2, .inl (c2, 62, .inl (fun _ => 0))), (q3, .inl (c3, 62, .inl (fun _ => 0))), (q4, .inl (c4, 62, .inl (fun _ => 0))), (q5, .inl (c5, 4, .inl (fun _ => 0))), (q6, .inl (c6, 200, .inl (fun _ => 0)))] := hD
  refine lv_aload_n hx hb dX11_init_60 rfl (lv_at hl 0 rfl) ?_
  refine lv_iconst (v := nI 4) hx hb dX11_init_61 (by decide) ?_
  refine va_newa (D := D) (cl := classes) (atype := .int) (ty := .int) (n := nI 4) (N' := 4) (a0 := (4, .inl (fun _ => 0))) hx hb (hts (.arrayClass .int) (inG (i := 127) (by decide +kernel) rfl)) rfl hK hP hD hS hA (na_int 4) (by decide) (by decide) (Nat.le_of_ble_eq_true rfl) (Nat.le_of_ble_eq_true rfl) (Nat.le_of_ble_eq_true rfl) dX11_init_62 (fun q7 c7 H hK hP hD hS => ?_)
  have hP : va_P D classes [(a, .inr (11, [.ref q0, .ref q1, .ref q2, .ref q3, .ref q4, .int 0, .int 0, .int 0, .int 0, .ref q5, .int 0, .int 0, .int 0, .ref q6, .null, .int 0, .null, .null, .null, .null, .null, .null, .int 0])), (q0, .inl (c0, 62, .inl (fun _ => 0))), (q1, .inl (c1, 62, .inl (fun _ => 0))), (q2, .inl (c2, 62, .inl (fun _ => 0))), (q3, .inl (c3, 62, .inl (fun _ => 0))), (q4, .inl (c4, 62, .inl (fun _ => 0))), (q5, .inl (c5, 4, .inl (fun _ => 0))), (q6, .inl (c6, 200, .inl (fun _ => 0))), (q7, .inl (c7, 4, .inl (fun _ => 0)))] H := hP
  have hD : va_D A [(a, .inr (11, [.ref q0, .ref q1, .ref q2, .ref q3, .ref q4, .int 0, .int 0, .int 0, .int 0, .ref q5, .int 0, .int 0, .int 0, .ref q6, .null, .int 0, .null, .null, .null, .null, .null, .null, .int 0])), (q0, .inl (c0, 62, .inl (fun _ => 0))), (q1, .inl (c1, 62, .inl (fun _ => 0))), (q2, .inl (c2, 62, .inl (fun _ => 0))), (q3, .inl (c3, 62, .inl (fun _ => 0))), (q4, .inl (c4, 62, .inl (fun _ => 0))), (q5, .inl (c5, 4, .inl (fun _ => 0))), (q6, .inl (c6, 200, .inl (fun _ => 0))), (q7, .inl (c7, 4, .inl (fun _ => 0)))] := hD
  have hK : va_K D classes [(c0, .int), (c1, .int), (c2, .int), (c3, .int), (c4, .int), (c5, .int), (c6, .boolean), (c7, .int)] s := hK
  refine W.widen (k := 8) (n := 518) (Nat.le_of_ble_eq_true rfl) (Nat.le_of_ble_eq_true rfl) ?_
  refine va_putF (D := D) (cl := classes) (ci := 11) (v := .ref q7) (ty := .array .int) (C := RX11) (T := TX11) (N := 23) hx hb hts inX11 tyX11 tyX11_ok nmX11 hown hK hP hD hS 0 rfl rfl 14 (by decide) (hts (.fieldLink RX11 32 RX11 "sorted" "[I") (inG (i := 933) (by decide +kernel) rfl)) (fun _ h9 => h9) rfl hinit rfl (by decide +kernel) rfl rfl (Nat.le_of_ble_eq_true rfl) dX11_init_64 (fun H locs hP hD hS => ?_)
  have hP : va_P D classes [(a, .inr (11, [.ref q0, .ref q1, .ref q2, .ref q3, .ref q4, .int 0, .int 0, .int 0, .int 0, .ref q5, .int 0, .int 0, .int 0, .ref q6, .ref q7, .int 0, .null, .null, .null, .null, .null, .null, .int 0])), (q0, .inl (c0, 62, .inl (fun _ => 0))), (q1, .inl (c1, 62, .inl (fun _ => 0))), (q2, .inl (c2, 62, .inl (fun _ => 0))), (q3, .inl (c3, 62, .inl (fun _ => 0))), (q4, .inl (c4, 62, .inl (fun _ => 0))), (q5, .inl (c5, 4, .inl (fun _ => 0))), (q6, .inl (c6, 200, .inl (fun _ => 0))), (q7, .inl (c7, 4, .inl (fun _ => 0)))] H := hP
  have hD : va_D A [(a, .inr (11, [.ref q0, .ref q1, .ref q2, .ref q3, .ref q4, .int 0, .int 0, .int 0, .int 0, .ref q5, .int 0, .int 0, .int 0, .ref q6, .ref q7, .int 0, .null, .null, .null, .null, .null, .null, .int 0])), (q0, .inl (c0, 62, .inl (fun _ => 0))), (q1, .inl (c1, 62, .inl (fun _ => 0))), (q2, .inl (c2, 62, .inl (fun _ => 0))), (q3, .inl (c3, 62, .inl (fun _ => 0))), (q4, .inl (c4, 62, .inl (fun _ => 0))), (q5, .inl (c5, 4, .inl (fun _ => 0))), (q6, .inl (c6, 200, .inl (fun _ => 0))), (q7, .inl (c7, 4, .inl (fun _ => 0)))] := hD
  refine lv_aload_n hx hb dX11_init_67 rfl (lv_at hl 0 rfl) ?_
  refine lv_bipush (v := nI 8) hx hb dX11_init_68 (by decide) ?_
  refine va_newa (D := D) (cl := classes) (atype := .int) (ty := .int) (n := nI 8) (N' := 8) (a0 := (8, .inl (fun _ => 0))) hx hb (hts (.arrayClass .int) (inG (i := 127) (by decide +kernel) rfl)) rfl hK hP hD hS hA (na_int 8) (by decide) (by decide) (Nat.le_of_ble_eq_true rfl) (Nat.le_of_ble_eq_true rfl) (Nat.le_of_ble_eq_true rfl) dX11_init_70 (fun q8 c8 H hK hP hD hS => ?_)
  have hP : va_P D classes [(a, .inr (11, [.ref q0, .ref q1, .ref q2, .ref q3, .ref q4, .int 0, .int 0, .int 0, .int 0, .ref q5, .int 0, .int 0, .int 0, .ref q6, .ref q7, .int 0, .null, .null, .null, .null, .null, .null, .int 0])), (q0, .inl (c0, 62, .inl (fun _ => 0))), (q1, .inl (c1, 62, .inl (fun _ => 0))), (q2, .inl (c2, 62, .inl (fun _ => 0))), (q3, .inl (c3, 62, .inl (fun _ => 0))), (q4, .inl (c4, 62, .inl (fun _ => 0))), (q5, .inl (c5, 4, .inl (fun _ => 0))), (q6, .inl (c6, 200, .inl (fun _ => 0))), (q7, .inl (c7, 4, .inl (fun _ => 0))), (q8, .inl (c8, 8, .inl (fun _ => 0)))] H := hP
  have hD : va_D A [(a, .inr (11, [.ref q0, .ref q1, .ref q2, .ref q3, .ref q4, .int 0, .int 0, .int 0, .int 0, .ref q5, .int 0, .int 0, .int 0, .ref q6, .ref q7, .int 0, .null, .null, .null, .null, .null, .null, .int 0])), (q0, .inl (c0, 62, .inl (fun _ => 0))), (q1, .inl (c1, 62, .inl (fun _ => 0))), (q2, .inl (c2, 62, .inl (fun _ => 0))), (q3, .inl (c3, 62, .inl (fun _ => 0))), (q4, .inl (c4, 62, .inl (fun _ => 0))), (q5, .inl (c5, 4, .inl (fun _ => 0))), (q6, .inl (c6, 200, .inl (fun _ => 0))), (q7, .inl (c7, 4, .inl (fun _ => 0))), (q8, .inl (c8, 8, .inl (fun _ => 0)))] := hD
  have hK : va_K D classes [(c0, .int), (c1, .int), (c2, .int), (c3, .int), (c4, .int), (c5, .int), (c6, .boolean), (c7, .int), (c8, .int)] s := hK
  refine W.widen (k := 9) (n := 526) (Nat.le_of_ble_eq_true rfl) (Nat.le_of_ble_eq_true rfl) ?_
  refine va_putF (D := D) (cl := classes) (ci := 11) (v := .ref q8) (ty := .array .int) (C := RX11) (T := TX11) (N := 23) hx hb hts inX11 tyX11 tyX11_ok nmX11 hown hK hP hD hS 0 rfl rfl 16 (by decide) (hts (.fieldLink RX11 35 RX11 "kept" "[I") (inG (i := 935) (by decide +kernel) rfl)) (fun _ h9 => h9) rfl hinit rfl (by decide +kernel) rfl rfl (Nat.le_of_ble_eq_true rfl) dX11_init_72 (fun H locs hP hD hS => ?_)
  have hP : va_P D classes [(a, .inr (11, [.ref q0, .ref q1, .ref q2, .ref q3, .ref q4, .int 0, .int 0, .int 0, .int 0, .ref q5, .int 0, .int 0, .int 0, .ref q6, .ref q7, .int 0, .ref q8, .null, .null, .null, .null, .null, .int 0])), (q0, .inl (c0, 62, .inl (fun _ => 0))), (q1, .inl (c1, 62, .inl (fun _ => 0))), (q2, .inl (c2, 62, .inl (fun _ => 0))), (q3, .inl (c3, 62, .inl (fun _ => 0))), (q4, .inl (c4, 62, .inl (fun _ => 0))), (q5, .inl (c5, 4, .inl (fun _ => 0))), (q6, .inl (c6, 200, .inl (fun _ => 0))), (q7, .inl (c7, 4, .inl (fun _ => 0))), (q8, .inl (c8, 8, .inl (fun _ => 0)))] H := hP
  have hD : va_D A [(a, .inr (11, [.ref q0, .ref q1, .ref q2, .ref q3, .ref q4, .int 0, .int 0, .int 0, .int 0, .ref q5, .int 0, .int 0, .int 0, .ref q6, .ref q7, .int 0, .ref q8, .null, .null, .null, .null, .null, .int 0])), (q0, .inl (c0, 62, .inl (fun _ => 0))), (q1, .inl (c1, 62, .inl (fun _ => 0))), (q2, .inl (c2, 62, .inl (fun _ => 0))), (q3, .inl (c3, 62, .inl (fun _ => 0))), (q4, .inl (c4, 62, .inl (fun _ => 0))), (q5, .inl (c5, 4, .inl (fun _ => 0))), (q6, .inl (c6, 200, .inl (fun _ => 0))), (q7, .inl (c7, 4, .inl (fun _ => 0))), (q8, .inl (c8, 8, .inl (fun _ => 0)))] := hD
  refine lv_aload_n hx hb dX11_init_75 rfl (lv_at hl 0 rfl) ?_
  refine lv_bipush (v := nI 8) hx hb dX11_init_76 (by decide) ?_
  refine va_newa (D := D) (cl := classes) (atype := .int) (ty := .int) (n := nI 8) (N' := 8) (a0 := (8, .inl (fun _ => 0))) hx hb (hts (.arrayClass .int) (inG (i := 127) (by decide +kernel) rfl)) rfl hK hP hD hS hA (na_int 8) (by decide) (by decide) (Nat.le_of_ble_eq_true rfl) (Nat.le_of_ble_eq_true rfl) (Nat.le_of_ble_eq_true rfl) dX11_init_78 (fun q9 c9 H hK hP hD hS => ?_)
  have hP : va_P D classes [(a, .inr (11, [.ref q0, .ref q1, .ref q2, .ref q3, .ref q4, .int 0, .int 0, .int 0, .int 0, .ref q5, .int 0, .int 0, .int 0, .ref q6, .ref q7, .int 0, .ref q8, .null, .null, .null, .null, .null, .int 0])), (q0, .inl (c0, 62, .inl (fun _ => 0))), (q1, .inl (c1, 62, .inl (fun _ => 0))), (q2, .inl (c2, 62, .inl (fun _ => 0))), (q3, .inl (c3, 62, .inl (fun _ => 0))), (q4, .inl (c4, 62, .inl (fun _ => 0))), (q5, .inl (c5, 4, .inl (fun _ => 0))), (q6, .inl (c6, 200, .inl (fun _ => 0))), (q7, .inl (c7, 4, .inl (fun _ => 0))), (q8, .inl (c8, 8, .inl (fun _ => 0))), (q9, .inl (c9, 8, .inl (fun _ => 0)))] H := hP
  have hD : va_D A [(a, .inr (11, [.ref q0, .ref q1, .ref q2, .ref q3, .ref q4, .int 0, .int 0, .int 0, .int 0, .ref q5, .int 0, .int 0, .int 0, .ref q6, .ref q7, .int 0, .ref q8, .null, .null, .null, .null, .null, .int 0])), (q0, .inl (c0, 62, .inl (fun _ => 0))), (q1, .inl (c1, 62, .inl (fun _ => 0))), (q2, .inl (c2, 62, .inl (fun _ => 0))), (q3, .inl (c3, 62, .inl (fun _ => 0))), (q4, .inl (c4, 62, .inl (fun _ => 0))), (q5, .inl (c5, 4, .inl (fun _ => 0))), (q6, .inl (c6, 200, .inl (fun _ => 0))), (q7, .inl (c7, 4, .inl (fun _ => 0))), (q8, .inl (c8, 8, .inl (fun _ => 0))), (q9, .inl (c9, 8, .inl (fun _ => 0)))] := hD
  have hK : va_K D classes [(c0, .int), (c1, .int), (c2, .int), (c3, .int), (c4, .int), (c5, .int), (c6, .boolean), (c7, .int), (c8, .int), (c9, .int)] s := hK
  refine W.widen (k := 10) (n := 534) (Nat.le_of_ble_eq_true rfl) (Nat.le_of_ble_eq_true rfl) ?_
  refine va_putF (D := D) (cl := classes) (ci := 11) (v := .ref q9) (ty := .array .int) (C := RX11) (T := TX11) (N := 23) hx hb hts inX11 tyX11 tyX11_ok nmX11 hown hK hP hD hS 0 rfl rfl 17 (by decide) (hts (.fieldLink RX11 38 RX11 "keptKind" "[I") (inG (i := 936) (by decide +kernel) rfl)) (fun _ h9 => h9) rfl hinit rfl (by decide +kernel) rfl rfl (Nat.le_of_ble_eq_true rfl) dX11_init_80 (fun H locs hP hD hS => ?_)
  have hP : va_P D classes [(a, .inr (11, [.ref q0, .ref q1, .ref q2, .ref q3, .ref q4, .int 0, .int 0, .int 0, .int 0, .ref q5, .int 0, .int 0, .int 0, .ref q6, .ref q7, .int 0, .ref q8, .ref q9, .null, .null, .null, .null, .int 0])), (q0, .inl (c0, 62, .inl (fun _ => 0))), (q1, .inl (c1, 62, .inl (fun _ => 0))), (q2, .inl (c2, 62, .inl (fun _ => 0))), (q3, .inl (c3, 62, .inl (fun _ => 0))), (q4, .inl (c4, 62, .inl (fun _ => 0))), (q5, .inl (c5, 4, .inl (fun _ => 0))), (q6, .inl (c6, 200, .inl (fun _ => 0))), (q7, .inl (c7, 4, .inl (fun _ => 0))), (q8, .inl (c8, 8, .inl (fun _ => 0))), (q9, .inl (c9, 8, .inl (fun _ => 0)))] H := hP
  have hD : va_D A [(a, .inr (11, [.ref q0, .ref q1, .ref q2, .ref q3, .ref q4, .int 0, .int 0, .int 0, .int 0, .ref q5, .int 0, .int 0, .int 0, .ref q6, .ref q7, .int 0, .ref q8, .ref q9, .null, .null, .null, .null, .int 0])), (q0, .inl (c0, 62, .inl (fun _ => 0))), (q1, .inl (c1, 62, .inl (fun _ => 0))), (q2, .inl (c2, 62, .inl (fun _ => 0))), (q3, .inl (c3, 62, .inl (fun _ => 0))), (q4, .inl (c4, 62, .inl (fun _ => 0))), (q5, .inl (c5, 4, .inl (fun _ => 0))), (q6, .inl (c6, 200, .inl (fun _ => 0))), (q7, .inl (c7, 4, .inl (fun _ => 0))), (q8, .inl (c8, 8, .inl (fun _ => 0))), (q9, .inl (c9, 8, .inl (fun _ => 0)))] := hD
  refine lv_aload_n hx hb dX11_init_83 rfl (lv_at hl 0 rfl) ?_
  refine lv_bipush (v := nI 8) hx hb dX11_init_84 (by decide) ?_
  refine va_newa (D := D) (cl := classes) (atype := .int) (ty := .int) (n := nI 8) (N' := 8) (a0 := (8, .inl (fun _ => 0))) hx hb (hts (.arrayClass .int) (inG (i := 127) (by decide +kernel) rfl)) rfl hK hP hD hS hA (na_int 8) (by decide) (by decide) (Nat.le_of_ble_eq_true rfl) (Nat.le_of_ble_eq_true rfl) (Nat.le_of_ble_eq_true rfl) dX11_init_86 (fun q10 c10 H hK hP hD hS => ?_)
  have hP : va_P D classes [(a, .inr (11, [.ref q0, .ref q1, .ref q2, .ref q3, .ref q4, .int 0, .int 0, .int 0, .int 0, .ref q5, .int 0, .int 0, .int 0, .ref q6, .ref q7, .int 0, .ref q8, .ref q9, .null, .null, .null, .null, .int 0])), (q0, .inl (c0, 62, .inl (fun _ => 0))), (q1, .inl (c1, 62, .inl (fun _ => 0))), (q2, .inl (c2, 62, .inl (fun _ => 0))), (q3, .inl (c3, 62, .inl (fun _ => 0))), (q4, .inl (c4, 62, .inl (fun _ => 0))), (q5, .inl (c5, 4, .inl (fun _ => 0))), (q6, .inl (c6, 200, .inl (fun _ => 0))), (q7, .inl (c7, 4, .inl (fun _ => 0))), (q8, .inl (c8, 8, .inl (fun _ => 0))), (q9, .inl (c9, 8, .inl (fun _ => 0))), (q10, .inl (c10, 8, .inl (fun _ => 0)))] H := hP
  have hD : va_D A [(a, .inr (11, [.ref q0, .ref q1, .ref q2, .ref q3, .ref q4, .int 0, .int 0, .int 0, .int 0, .ref q5, .int 0, .int 0, .int 0, .ref q6, .ref q7, .int 0, .ref q8, .ref q9, .null, .null, .null, .null, .int 0])), (q0, .inl (c0, 62, .inl (fun _ => 0))), (q1, .inl (c1, 62, .inl (fun _ => 0))), (q2, .inl (c2, 62, .inl (fun _ => 0))), (q3, .inl (c3, 62, .inl (fun _ => 0))), (q4, .inl (c4, 62, .inl (fun _ => 0))), (q5, .inl (c5, 4, .inl (fun _ => 0))), (q6, .inl (c6, 200, .inl (fun _ => 0))), (q7, .inl (c7, 4, .inl (fun _ => 0))), (q8, .inl (c8, 8, .inl (fun _ => 0))), (q9, .inl (c9, 8, .inl (fun _ => 0))), (q10, .inl (c10, 8, .inl (fun _ => 0)))] := hD
  have hK : va_K D classes [(c0, .int), (c1, .int), (c2, .int), (c3, .int), (c4, .int), (c5, .int), (c6, .boolean), (c7, .int), (c8, .int), (c9, .int), (c10, .int)] s := hK
  refine W.widen (k := 11) (n := 542) (Nat.le_of_ble_eq_true rfl) (Nat.le_of_ble_eq_true rfl) ?_
  refine va_putF (D := D) (cl := classes) (ci := 11) (v := .ref q10) (ty := .array .int) (C := RX11) (T := TX11) (N := 23) hx hb hts inX11 tyX11 tyX11_ok nmX11 hown hK hP hD hS 0 rfl rfl 18 (by decide) (hts (.fieldLink RX11 41 RX11 "keptFigure" "[I") (inG (i := 937) (by decide +kernel) rfl)) (fun _ h9 => h9) rfl hinit rfl (by decide +kernel) rfl rfl (Nat.le_of_ble_eq_true rfl) dX11_init_88 (fun H locs hP hD hS => ?_)
  have hP : va_P D classes [(a, .inr (11, [.ref q0, .ref q1, .ref q2, .ref q3, .ref q4, .int 0, .int 0, .int 0, .int 0, .ref q5, .int 0, .int 0, .int 0, .ref q6, .ref q7, .int 0, .ref q8, .ref q9, .ref q10, .null, .null, .null, .int 0])), (q0, .inl (c0, 62, .inl (fun _ => 0))), (q1, .inl (c1, 62, .inl (fun _ => 0))), (q2, .inl (c2, 62, .inl (fun _ => 0))), (q3, .inl (c3, 62, .inl (fun _ => 0))), (q4, .inl (c4, 62, .inl (fun _ => 0))), (q5, .inl (c5, 4, .inl (fun _ => 0))), (q6, .inl (c6, 200, .inl (fun _ => 0))), (q7, .inl (c7, 4, .inl (fun _ => 0))), (q8, .inl (c8, 8, .inl (fun _ => 0))), (q9, .inl (c9, 8, .inl (fun _ => 0))), (q10, .inl (c10, 8, .inl (fun _ => 0)))] H := hP
  have hD : va_D A [(a, .inr (11, [.ref q0, .ref q1, .ref q2, .ref q3, .ref q4, .int 0, .int 0, .int 0, .int 0, .ref q5, .int 0, .int 0, .int 0, .ref q6, .ref q7, .int 0, .ref q8, .ref q9, .ref q10, .null, .null, .null, .int 0])), (q0, .inl (c0, 62, .inl (fun _ => 0))), (q1, .inl (c1, 62, .inl (fun _ => 0))), (q2, .inl (c2, 62, .inl (fun _ => 0))), (q3, .inl (c3, 62, .inl (fun _ => 0))), (q4, .inl (c4, 62, .inl (fun _ => 0))), (q5, .inl (c5, 4, .inl (fun _ => 0))), (q6, .inl (c6, 200, .inl (fun _ => 0))), (q7, .inl (c7, 4, .inl (fun _ => 0))), (q8, .inl (c8, 8, .inl (fun _ => 0))), (q9, .inl (c9, 8, .inl (fun _ => 0))), (q10, .inl (c10, 8, .inl (fun _ => 0)))] := hD
  refine lv_aload_n hx hb dX11_init_91 rfl (lv_at hl 0 rfl) ?_
  refine lv_bipush (v := nI 8) hx hb dX11_init_92 (by decide) ?_
  refine va_newa (D := D) (cl := classes) (atype := .int) (ty := .int) (n := nI 8) (N' := 8) (a0 := (8, .inl (fun _ => 0))) hx hb (hts (.arrayClass .int) (inG (i := 127) (by decide +kernel) rfl)) rfl hK hP hD hS hA (na_int 8) (by decide) (by decide) (Nat.le_of_ble_eq_true rfl) (Nat.le_of_ble_eq_true rfl) (Nat.le_of_ble_eq_true rfl) dX11_init_94 (fun q11 c11 H hK hP hD hS => ?_)
  have hP : va_P D classes [(a, .inr (11, [.ref q0, .ref q1, .ref q2, .ref q3, .ref q4, .int 0, .int 0, .int 0, .int 0, .ref q5, .int 0, .int 0, .int 0, .ref q6, .ref q7, .int 0, .ref q8, .ref q9, .ref q10, .null, .null, .null, .int 0])), (q0, .inl (c0, 62, .inl (fun _ => 0))), (q1, .inl (c1, 62, .inl (fun _ => 0))), (q2, .inl (c2, 62, .inl (fun _ => 0))), (q3, .inl (c3, 62, .inl (fun _ => 0))), (q4, .inl (c4, 62, .inl (fun _ => 0))), (q5, .inl (c5, 4, .inl (fun _ => 0))), (q6, .inl (c6, 200, .inl (fun _ => 0))), (q7, .inl (c7, 4, .inl (fun _ => 0))), (q8, .inl (c8, 8, .inl (fun _ => 0))), (q9, .inl (c9, 8, .inl (fun _ => 0))), (q10, .inl (c10, 8, .inl (fun _ => 0))), (q11, .inl (c11, 8, .inl (fun _ => 0)))] H := hP
  have hD : va_D A [(a, .inr (11, [.ref q0, .ref q1, .ref q2, .ref q3, .ref q4, .int 0, .int 0, .int 0, .int 0, .ref q5, .int 0, .int 0, .int 0, .ref q6, .ref q7, .int 0, .ref q8, .ref q9, .ref q10, .null, .null, .null, .int 0])), (q0, .inl (c0, 62, .inl (fun _ => 0))), (q1, .inl (c1, 62, .inl (fun _ => 0))), (q2, .inl (c2, 62, .inl (fun _ => 0))), (q3, .inl (c3, 62, .inl (fun _ => 0))), (q4, .inl (c4, 62, .inl (fun _ => 0))), (q5, .inl (c5, 4, .inl (fun _ => 0))), (q6, .inl (c6, 200, .inl (fun _ => 0))), (q7, .inl (c7, 4, .inl (fun _ => 0))), (q8, .inl (c8, 8, .inl (fun _ => 0))), (q9, .inl (c9, 8, .inl (fun _ => 0))), (q10, .inl (c10, 8, .inl (fun _ => 0))), (q11, .inl (c11, 8, .inl (fun _ => 0)))] := hD
  have hK : va_K D classes [(c0, .int), (c1, .int), (c2, .int), (c3, .int), (c4, .int), (c5, .int), (c6, .boolean), (c7, .int), (c8, .int), (c9, .int), (c10, .int), (c11, .int)] s := hK
  refine W.widen (k := 12) (n := 550) (Nat.le_of_ble_eq_true rfl) (Nat.le_of_ble_eq_true rfl) ?_
  refine va_putF (D := D) (cl := classes) (ci := 11) (v := .ref q11) (ty := .array .int) (C := RX11) (T := TX11) (N := 23) hx hb hts inX11 tyX11 tyX11_ok nmX11 hown hK hP hD hS 0 rfl rfl 19 (by decide) (hts (.fieldLink RX11 44 RX11 "sort" "[I") (inG (i := 938) (by decide +kernel) rfl)) (fun _ h9 => h9) rfl hinit rfl (by decide +kernel) rfl rfl (Nat.le_of_ble_eq_true rfl) dX11_init_96 (fun H locs hP hD hS => ?_)
  have hP : va_P D classes [(a, .inr (11, [.ref q0, .ref q1, .ref q2, .ref q3, .ref q4, .int 0, .int 0, .int 0, .int 0, .ref q5, .int 0, .int 0, .int 0, .ref q6, .ref q7, .int 0, .ref q8, .ref q9, .ref q10, .ref q11, .null, .null, .int 0])), (q0, .inl (c0, 62, .inl (fun _ => 0))), (q1, .inl (c1, 62, .inl (fun _ => 0))), (q2, .inl (c2, 62, .inl (fun _ => 0))), (q3, .inl (c3, 62, .inl (fun _ => 0))), (q4, .inl (c4, 62, .inl (fun _ => 0))), (q5, .inl (c5, 4, .inl (fun _ => 0))), (q6, .inl (c6, 200, .inl (fun _ => 0))), (q7, .inl (c7, 4, .inl (fun _ => 0))), (q8, .inl (c8, 8, .inl (fun _ => 0))), (q9, .inl (c9, 8, .inl (fun _ => 0))), (q10, .inl (c10, 8, .inl (fun _ => 0))), (q11, .inl (c11, 8, .inl (fun _ => 0)))] H := hP
  have hD : va_D A [(a, .inr (11, [.ref q0, .ref q1, .ref q2, .ref q3, .ref q4, .int 0, .int 0, .int 0, .int 0, .ref q5, .int 0, .int 0, .int 0, .ref q6, .ref q7, .int 0, .ref q8, .ref q9, .ref q10, .ref q11, .null, .null, .int 0])), (q0, .inl (c0, 62, .inl (fun _ => 0))), (q1, .inl (c1, 62, .inl (fun _ => 0))), (q2, .inl (c2, 62, .inl (fun _ => 0))), (q3, .inl (c3, 62, .inl (fun _ => 0))), (q4, .inl (c4, 62, .inl (fun _ => 0))), (q5, .inl (c5, 4, .inl (fun _ => 0))), (q6, .inl (c6, 200, .inl (fun _ => 0))), (q7, .inl (c7, 4, .inl (fun _ => 0))), (q8, .inl (c8, 8, .inl (fun _ => 0))), (q9, .inl (c9, 8, .inl (fun _ => 0))), (q10, .inl (c10, 8, .inl (fun _ => 0))), (q11, .inl (c11, 8, .inl (fun _ => 0)))] := hD
  refine lv_aload_n hx hb dX11_init_99 rfl (lv_at hl 0 rfl) ?_
  refine lv_bipush (v := nI 8) hx hb dX11_init_100 (by decide) ?_
  refine va_newa (D := D) (cl := classes) (atype := .int) (ty := .int) (n := nI 8) (N' := 8) (a0 := (8, .inl (fun _ => 0))) hx hb (hts (.arrayClass .int) (inG (i := 127) (by decide +kernel) rfl)) rfl hK hP hD hS hA (na_int 8) (by decide) (by decide) (Nat.le_of_ble_eq_true rfl) (Nat.le_of_ble_eq_true rfl) (Nat.le_of_ble_eq_true rfl) dX11_init_102 (fun q12 c12 H hK hP hD hS => ?_)
  have hP : va_P D classes [(a, .inr (11, [.ref q0, .ref q1, .ref q2, .ref q3, .ref q4, .int 0, .int 0, .int 0, .int 0, .ref q5, .int 0, .int 0, .int 0, .ref q6, .ref q7, .int 0, .ref q8, .ref q9, .ref q10, .ref q11, .null, .null, .int 0])), (q0, .inl (c0, 62, .inl (fun _ => 0))), (q1, .inl (c1, 62, .inl (fun _ => 0))), (q2, .inl (c2, 62, .inl (fun _ => 0))), (q3, .inl (c3, 62, .inl (fun _ => 0))), (q4, .inl (c4, 62, .inl (fun _ => 0))), (q5, .inl (c5, 4, .inl (fun _ => 0))), (q6, .inl (c6, 200, .inl (fun _ => 0))), (q7, .inl (c7, 4, .inl (fun _ => 0))), (q8, .inl (c8, 8, .inl (fun _ => 0))), (q9, .inl (c9, 8, .inl (fun _ => 0))), (q10, .inl (c10, 8, .inl (fun _ => 0))), (q11, .inl (c11, 8, .inl (fun _ => 0))), (q12, .inl (c12, 8, .inl (fun _ => 0)))] H := hP
  have hD : va_D A [(a, .inr (11, [.ref q0, .ref q1, .ref q2, .ref q3, .ref q4, .int 0, .int 0, .int 0, .int 0, .ref q5, .int 0, .int 0, .int 0, .ref q6, .ref q7, .int 0, .ref q8, .ref q9, .ref q10, .ref q11, .null, .null, .int 0])), (q0, .inl (c0, 62, .inl (fun _ => 0))), (q1, .inl (c1, 62, .inl (fun _ => 0))), (q2, .inl (c2, 62, .inl (fun _ => 0))), (q3, .inl (c3, 62, .inl (fun _ => 0))), (q4, .inl (c4, 62, .inl (fun _ => 0))), (q5, .inl (c5, 4, .inl (fun _ => 0))), (q6, .inl (c6, 200, .inl (fun _ => 0))), (q7, .inl (c7, 4, .inl (fun _ => 0))), (q8, .inl (c8, 8, .inl (fun _ => 0))), (q9, .inl (c9, 8, .inl (fun _ => 0))), (q10, .inl (c10, 8, .inl (fun _ => 0))), (q11, .inl (c11, 8, .inl (fun _ => 0))), (q12, .inl (c12, 8, .inl (fun _ => 0)))] := hD
  have hK : va_K D classes [(c0, .int), (c1, .int), (c2, .int), (c3, .int), (c4, .int), (c5, .int), (c6, .boolean), (c7, .int), (c8, .int), (c9, .int), (c10, .int), (c11, .int), (c12, .int)] s := hK
  refine W.widen (k := 13) (n := 558) (Nat.le_of_ble_eq_true rfl) (Nat.le_of_ble_eq_true rfl) ?_
  refine va_putF (D := D) (cl := classes) (ci := 11) (v := .ref q12) (ty := .array .int) (C := RX11) (T := TX11) (N := 23) hx hb hts inX11 tyX11 tyX11_ok nmX11 hown hK hP hD hS 0 rfl rfl 20 (by decide) (hts (.fieldLink RX11 47 RX11 "size" "[I") (inG (i := 939) (by decide +kernel) rfl)) (fun _ h9 => h9) rfl hinit rfl (by decide +kernel) rfl rfl (Nat.le_of_ble_eq_true rfl) dX11_init_104 (fun H locs hP hD hS => ?_)
  have hP : va_P D classes [(a, .inr (11, [.ref q0, .ref q1, .ref q2, .ref q3, .ref q4, .int 0, .int 0, .int 0, .int 0, .ref q5, .int 0, .int 0, .int 0, .ref q6, .ref q7, .int 0, .ref q8, .ref q9, .ref q10, .ref q11, .ref q12, .null, .int 0])), (q0, .inl (c0, 62, .inl (fun _ => 0))), (q1, .inl (c1, 62, .inl (fun _ => 0))), (q2, .inl (c2, 62, .inl (fun _ => 0))), (q3, .inl (c3, 62, .inl (fun _ => 0))), (q4, .inl (c4, 62, .inl (fun _ => 0))), (q5, .inl (c5, 4, .inl (fun _ => 0))), (q6, .inl (c6, 200, .inl (fun _ => 0))), (q7, .inl (c7, 4, .inl (fun _ => 0))), (q8, .inl (c8, 8, .inl (fun _ => 0))), (q9, .inl (c9, 8, .inl (fun _ => 0))), (q10, .inl (c10, 8, .inl (fun _ => 0))), (q11, .inl (c11, 8, .inl (fun _ => 0))), (q12, .inl (c12, 8, .inl (fun _ => 0)))] H := hP
  have hD : va_D A [(a, .inr (11, [.ref q0, .ref q1, .ref q2, .ref q3, .ref q4, .int 0, .int 0, .int 0, .int 0, .ref q5, .int 0, .int 0, .int 0, .ref q6, .ref q7, .int 0, .ref q8, .ref q9, .ref q10, .ref q11, .ref q12, .null, .int 0])), (q0, .inl (c0, 62, .inl (fun _ => 0))), (q1, .inl (c1, 62, .inl (fun _ => 0))), (q2, .inl (c2, 62, .inl (fun _ => 0))), (q3, .inl (c3, 62, .inl (fun _ => 0))), (q4, .inl (c4, 62, .inl (fun _ => 0))), (q5, .inl (c5, 4, .inl (fun _ => 0))), (q6, .inl (c6, 200, .inl (fun _ => 0))), (q7, .inl (c7, 4, .inl (fun _ => 0))), (q8, .inl (c8, 8, .inl (fun _ => 0))), (q9, .inl (c9, 8, .inl (fun _ => 0))), (q10, .inl (c10, 8, .inl (fun _ => 0))), (q11, .inl (c11, 8, .inl (fun _ => 0))), (q12, .inl (c12, 8, .inl (fun _ => 0)))] := hD
  refine lv_aload_n hx hb dX11_init_107 rfl (lv_at hl 0 rfl) ?_
  refine lv_sipush (v := nI 800) hx hb dX11_init_108 (by decide) ?_
  refine va_newa (D := D) (cl := classes) (atype := .int) (ty := .int) (n := nI 800) (N' := 800) (a0 := (800, .inl (fun _ => 0))) hx hb (hts (.arrayClass .int) (inG (i := 127) (by decide +kernel) rfl)) rfl hK hP hD hS hA (na_int 800) (by decide) (by decide) (Nat.le_of_ble_eq_true rfl) (Nat.le_of_ble_eq_true rfl) (Nat.le_of_ble_eq_true rfl) dX11_init_111 (fun q13 c13 H hK hP hD hS => ?_)
  have hP : va_P D classes [(a, .inr (11, [.ref q0, .ref q1, .ref q2, .ref q3, .ref q4, .int 0, .int 0, .int 0, .int 0, .ref q5, .int 0, .int 0, .int 0, .ref q6, .ref q7, .int 0, .ref q8, .ref q9, .ref q10, .ref q11, .ref q12, .null, .int 0])), (q0, .inl (c0, 62, .inl (fun _ => 0))), (q1, .inl (c1, 62, .inl (fun _ => 0))), (q2, .inl (c2, 62, .inl (fun _ => 0))), (q3, .inl (c3, 62, .inl (fun _ => 0))), (q4, .inl (c4, 62, .inl (fun _ => 0))), (q5, .inl (c5, 4, .inl (fun _ => 0))), (q6, .inl (c6, 200, .inl (fun _ => 0))), (q7, .inl (c7, 4, .inl (fun _ => 0))), (q8, .inl (c8, 8, .inl (fun _ => 0))), (q9, .inl (c9, 8, .inl (fun _ => 0))), (q10, .inl (c10, 8, .inl (fun _ => 0))), (q11, .inl (c11, 8, .inl (fun _ => 0))), (q12, .inl (c12, 8, .inl (fun _ => 0))), (q13, .inl (c13, 800, .inl (fun _ => 0)))] H := hP
  have hD : va_D A [(a, .inr (11, [.ref q0, .ref q1, .ref q2, .ref q3, .ref q4, .int 0, .int 0, .int 0, .int 0, .ref q5, .int 0, .int 0, .int 0, .ref q6, .ref q7, .int 0, .ref q8, .ref q9, .ref q10, .ref q11, .ref q12, .null, .int 0])), (q0, .inl (c0, 62, .inl (fun _ => 0))), (q1, .inl (c1, 62, .inl (fun _ => 0))), (q2, .inl (c2, 62, .inl (fun _ => 0))), (q3, .inl (c3, 62, .inl (fun _ => 0))), (q4, .inl (c4, 62, .inl (fun _ => 0))), (q5, .inl (c5, 4, .inl (fun _ => 0))), (q6, .inl (c6, 200, .inl (fun _ => 0))), (q7, .inl (c7, 4, .inl (fun _ => 0))), (q8, .inl (c8, 8, .inl (fun _ => 0))), (q9, .inl (c9, 8, .inl (fun _ => 0))), (q10, .inl (c10, 8, .inl (fun _ => 0))), (q11, .inl (c11, 8, .inl (fun _ => 0))), (q12, .inl (c12, 8, .inl (fun _ => 0))), (q13, .inl (c13, 800, .inl (fun _ => 0)))] := hD
  have hK : va_K D classes [(c0, .int), (c1, .int), (c2, .int), (c3, .int), (c4, .int), (c5, .int), (c6, .boolean), (c7, .int), (c8, .int), (c9, .int), (c10, .int), (c11, .int), (c12, .int), (c13, .int)] s := hK
  refine W.widen (k := 14) (n := 1358) (Nat.le_of_ble_eq_true rfl) (Nat.le_of_ble_eq_true rfl) ?_
  refine va_putF (D := D) (cl := classes) (ci := 11) (v := .ref q13) (ty := .array .int) (C := RX11) (T := TX11) (N := 23) hx hb hts inX11 tyX11 tyX11_ok nmX11 hown hK hP hD hS 0 rfl rfl 21 (by decide) (hts (.fieldLink RX11 50 RX11 "element" "[I") (inG (i := 940) (by decide +kernel) rfl)) (fun _ h9 => h9) rfl hinit rfl (by decide +kernel) rfl rfl (Nat.le_of_ble_eq_true rfl) dX11_init_113 (fun H locs hP hD hS => ?_)
  have hP : va_P D classes [(a, .inr (11, [.ref q0, .ref q1, .ref q2, .ref q3, .ref q4, .int 0, .int 0, .int 0, .int 0, .ref q5, .int 0, .int 0, .int 0, .ref q6, .ref q7, .int 0, .ref q8, .ref q9, .ref q10, .ref q11, .ref q12, .ref q13, .int 0])), (q0, .inl (c0, 62, .inl (fun _ => 0))), (q1, .inl (c1, 62, .inl (fun _ => 0))), (q2, .inl (c2, 62, .inl (fun _ => 0))), (q3, .inl (c3, 62, .inl (fun _ => 0))), (q4, .inl (c4, 62, .inl (fun _ => 0))), (q5, .inl (c5, 4, .inl (fun _ => 0))), (q6, .inl (c6, 200, .inl (fun _ => 0))), (q7, .inl (c7, 4, .inl (fun _ => 0))), (q8, .inl (c8, 8, .inl (fun _ => 0))), (q9, .inl (c9, 8, .inl (fun _ => 0))), (q10, .inl (c10, 8, .inl (fun _ => 0))), (q11, .inl (c11, 8, .inl (fun _ => 0))), (q12, .inl (c12, 8, .inl (fun _ => 0))), (q13, .inl (c13, 800, .inl (fun _ => 0)))] H := hP
  have hD : va_D A [(a, .inr (11, [.ref q0, .ref q1, .ref q2, .ref q3, .ref q4, .int 0, .int 0, .int 0, .int 0, .ref q5, .int 0, .int 0, .int 0, .ref q6, .ref q7, .int 0, .ref q8, .ref q9, .ref q10, .ref q11, .ref q12, .ref q13, .int 0])), (q0, .inl (c0, 62, .inl (fun _ => 0))), (q1, .inl (c1, 62, .inl (fun _ => 0))), (q2, .inl (c2, 62, .inl (fun _ => 0))), (q3, .inl (c3, 62, .inl (fun _ => 0))), (q4, .inl (c4, 62, .inl (fun _ => 0))), (q5, .inl (c5, 4, .inl (fun _ => 0))), (q6, .inl (c6, 200, .inl (fun _ => 0))), (q7, .inl (c7, 4, .inl (fun _ => 0))), (q8, .inl (c8, 8, .inl (fun _ => 0))), (q9, .inl (c9, 8, .inl (fun _ => 0))), (q10, .inl (c10, 8, .inl (fun _ => 0))), (q11, .inl (c11, 8, .inl (fun _ => 0))), (q12, .inl (c12, 8, .inl (fun _ => 0))), (q13, .inl (c13, 800, .inl (fun _ => 0)))] := hD
  refine lv_aload_n hx hb dX11_init_116 rfl (lv_at hl 0 rfl) ?_
  refine va_get (D := D) (cl := classes) (ci := 11) (v := .ref q0) (C := RX11) (T := TX11) (N := 23) hx hb hts inX11 hown hK hP 0 rfl rfl 0 (by decide) (hts (.fieldLink RX11 9 RX11 "s" "[I") (inG (i := 919) (by decide +kernel) rfl)) (fun _ h9 => h9) rfl dX11_init_117 ?_
  refine lv_iconst (v := nI 2) hx hb dX11_init_120 (by decide) ?_
  refine lv_bipush (v := nI 6) hx hb dX11_init_121 (by decide) ?_
  refine va_iast (D := D) (cl := classes) hx hb hK hP hD hS 1 0 rfl rfl (inR_vp (show inR (nI 2) 62 from ⟨by decide, by decide⟩)) dX11_init_123 (fun H locs hP hD hS => ?_)
  have hP : va_P D classes [(a, .inr (11, [.ref q0, .ref q1, .ref q2, .ref q3, .ref q4, .int 0, .int 0, .int 0, .int 0, .ref q5, .int 0, .int 0, .int 0, .ref q6, .ref q7, .int 0, .ref q8, .ref q9, .ref q10, .ref q11, .ref q12, .ref q13, .int 0])), (q0, .inl (c0, 62, .inl (upd (fun _ => 0) 2 (nI 6)))), (q1, .inl (c1, 62, .inl (fun _ => 0))), (q2, .inl (c2, 62, .inl (fun _ => 0))), (q3, .inl (c3, 62, .inl (fun _ => 0))), (q4, .inl (c4, 62, .inl (fun _ => 0))), (q5, .inl (c5, 4, .inl (fun _ => 0))), (q6, .inl (c6, 200, .inl (fun _ => 0))), (q7, .inl (c7, 4, .inl (fun _ => 0))), (q8, .inl (c8, 8, .inl (fun _ => 0))), (q9, .inl (c9, 8, .inl (fun _ => 0))), (q10, .inl (c10, 8, .inl (fun _ => 0))), (q11, .inl (c11, 8, .inl (fun _ => 0))), (q12, .inl (c12, 8, .inl (fun _ => 0))), (q13, .inl (c13, 800, .inl (fun _ => 0)))] H := hP
  have hD : va_D A [(a, .inr (11, [.ref q0, .ref q1, .ref q2, .ref q3, .ref q4, .int 0, .int 0, .int 0, .int 0, .ref q5, .int 0, .int 0, .int 0, .ref q6, .ref q7, .int 0, .ref q8, .ref q9, .ref q10, .ref q11, .ref q12, .ref q13, .int 0])), (q0, .inl (c0, 62, .inl (upd (fun _ => 0) 2 (nI 6)))), (q1, .inl (c1, 62, .inl (fun _ => 0))), (q2, .inl (c2, 62, .inl (fun _ => 0))), (q3, .inl (c3, 62, .inl (fun _ => 0))), (q4, .inl (c4, 62, .inl (fun _ => 0))), (q5, .inl (c5, 4, .inl (fun _ => 0))), (q6, .inl (c6, 200, .inl (fun _ => 0))), (q7, .inl (c7, 4, .inl (fun _ => 0))), (q8, .inl (c8, 8, .inl (fun _ => 0))), (q9, .inl (c9, 8, .inl (fun _ => 0))), (q10, .inl (c10, 8, .inl (fun _ => 0))), (q11, .inl (c11, 8, .inl (fun _ => 0))), (q12, .inl (c12, 8, .inl (fun _ => 0))), (q13, .inl (c13, 800, .inl (fun _ => 0)))] := hD
  exact W.vret hx hb hr (fun t ht hW => ⟨⟨(fun t => [q0, q1, q2, q3, q4, q5, q6, q7, q8, q9, q10, q11, q12, q13].getD t 0, fun t => [c0, c1, c2, c3, c4, c5, c6, c7, c8, c9, c10, c11, c12, c13].getD t c0), rfl, trivial, by show va_P D classes _ t.heap; rw [ht]; exact hP, va_K.moved hW.alike hK, hD⟩, hS.F ht⟩) hS.2.2 dX11_init_124
theorem dX10_init_0 : decode cX10_init 0 = .ok (.aload_n 0, 1) := by decide +kernel
theorem dX10_init_1 : decode cX10_init 1 = .ok (.invokespecial 1, 3) := by decide +kernel
theorem dX10_init_4 : decode cX10_init 4 = .ok (.aload_n 0, 1) := by decide +kernel
theorem dX10_init_5 : decode cX10_init 5 = .ok (.new 7, 3) := by decide +kernel
theorem dX10_init_8 : decode cX10_init 8 = .ok (.dup, 1) := by decide +kernel
theorem dX10_init_9 : decode cX10_init 9 = .ok (.invokespecial 9, 3) := by decide +kernel
theorem dX10_init_12 : decode cX10_init 12 = .ok (.putfield 10, 3) := by decide +kernel
theorem dX10_init_15 : decode cX10_init 15 = .ok (.aload_n 0, 1) := by decide +kernel
theorem dX10_init_16 : decode cX10_init 16 = .ok (.new 7, 3) := by decide +kernel
theorem dX10_init_19 : decode cX10_init 19 = .ok (.dup, 1) := by decide +kernel
theorem dX10_init_20 : decode cX10_init 20 = .ok (.invokespecial 9, 3) := by decide +kernel
theorem dX10_init_23 : decode cX10_init 23 = .ok (.putfield 16, 3) := by decide +kernel
theorem dX10_init_26 : decode cX10_init 26 = .ok (.aload_n 0, 1) := by decide +kernel
theorem dX10_init_27 : decode cX10_init 27 = .ok (.new 7, 3) := by decide +kernel
theorem dX10_init_30 : decode cX10_init 30 = .ok (.dup, 1) := by decide +kernel
theorem dX10_init_31 : decode cX10_init 31 = .ok (.invokespecial 9, 3) := by decide +kernel
theorem dX10_init_34 : decode cX10_init 34 = .ok (.putfield 19, 3) := by decide +kernel
theorem dX10_init_37 : decode cX10_init 37 = .ok (.aload_n 0, 1) := by decide +kernel
theorem dX10_init_38 : decode cX10_init 38 = .ok (.bipush 8, 2) := by decide +kernel
theorem dX10_init_40 : decode cX10_init 40 = .ok (.anewarray 22, 3) := by decide +kernel
theorem dX10_init_43 : decode cX10_init 43 = .ok (.putfield 24, 3) := by decide +kernel
theorem dX10_init_46 : decode cX10_init 46 = .ok (.aload_n 0, 1) := by decide +kernel
theorem dX10_init_47 : decode cX10_init 47 = .ok (.bipush 100, 2) := by decide +kernel
theorem dX10_init_49 : decode cX10_init 49 = .ok (.newarray .int, 2) := by decide +kernel
theorem dX10_init_51 : decode cX10_init 51 = .ok (.putfield 28, 3) := by decide +kernel
theorem dX10_init_54 : decode cX10_init 54 = .ok (.iconst 0, 1) := by decide +kernel
theorem dX10_init_55 : decode cX10_init 55 = .ok (.istore_n 1, 1) := by decide +kernel
theorem dX10_init_56 : decode cX10_init 56 = .ok (.iload_n 1, 1) := by decide +kernel
theorem dX10_init_57 : decode cX10_init 57 = .ok (.bipush 8, 2) := by decide +kernel
theorem dX10_init_59 : decode cX10_init 59 = .ok (.if_icmp .ge 22, 3) := by decide +kernel
theorem dX10_init_62 : decode cX10_init 62 = .ok (.aload_n 0, 1) := by decide +kernel
theorem dX10_init_63 : decode cX10_init 63 = .ok (.getfield 24, 3) := by decide +kernel
theorem dX10_init_66 : decode cX10_init 66 = .ok (.iload_n 1, 1) := by decide +kernel
theorem dX10_init_67 : decode cX10_init 67 = .ok (.new 22, 3) := by decide +kernel
theorem dX10_init_70 : decode cX10_init 70 = .ok (.dup, 1) := by decide +kernel
theorem dX10_init_71 : decode cX10_init 71 = .ok (.invokespecial 32, 3) := by decide +kernel
theorem dX10_init_74 : decode cX10_init 74 = .ok (.aastore, 1) := by decide +kernel
theorem dX10_init_75 : decode cX10_init 75 = .ok (.iinc 1 1, 3) := by decide +kernel
theorem dX10_init_78 : decode cX10_init 78 = .ok (.goto (-22), 3) := by decide +kernel
theorem dX10_init_81 : decode cX10_init 81 = .ok (.return_, 1) := by decide +kernel
abbrev w100 (a : Nat) : va_W := [(a, .inr (10, [.null, .null, .null, .int 0, .null, .null]))]
abbrev VU : Type := Nat × (Nat → Nat) × (Nat → ClassId)
/-- the component's cells but its shelves: the three valleys, the row of shelves, the rests -/
abbrev WBc (a : Nat) (v : Nat → VU) (qs qr : Nat) (cs cr : ClassId) (f : Nat → Option Nat) : va_W := (a, .inr (10, [.ref (v 0).1, .ref (v 1).1, .ref (v 2).1, .int 0, .ref qs, .ref qr])) :: (w91 (v 0).1 (v 0).2 ++ (w91 (v 1).1 (v 1).2 ++ (w91 (v 2).1 (v 2).2 ++ [(qs, .inl (cs, 8, .inr (.inr (.inr (.inr f))))), (qr, .inl (cr, 100, .inl (fun _ => 0)))])))
abbrev TB (v : Nat → VU) (cs cr : ClassId) : List (ClassId × FieldType) := t91 (v 0).2 ++ (t91 (v 1).2 ++ (t91 (v 2).2 ++ [(cs, .object RX5), (cr, .int)]))
def SL (us : List VU) : va_W := us.flatMap (fun u => w51 u.1 u.2)
def TS (us : List VU) : List (ClassId × FieldType) := us.flatMap (fun u => t51 u.2)
def fS (us : List VU) : Nat → Option Nat := fun i => us[i]?.map (fun u => u.1)
theorem SL_app (us : List VU) (u : VU) : SL (us ++ [u]) = SL us ++ w51 u.1 u.2 := by unfold SL; rw [List.flatMap_append]; rfl
theorem TS_app (us : List VU) (u : VU) : TS (us ++ [u]) = TS us ++ t51 u.2 := by unfold TS; rw [List.flatMap_append]; rfl
theorem fS_app (us : List VU) (u : VU) : va_up (fS us) us.length (some u.1) = fS (us ++ [u]) := by
  funext i
  unfold va_up fS
  by_cases h : i = us.length
  · subst h
    simp
  · rw [if_neg h]
    by_cases h2 : i < us.length
    · rw [List.getElem?_append_left h2]
    · rw [List.getElem?_eq_none_iff.mpr (by omega), List.getElem?_eq_none_iff.mpr (by rw [List.length_append]; simp; omega)]
set_option maxHeartbeats 8000000 in
set_option maxRecDepth 100000 in
theorem x10_lp (l : Launch) {p : Program} {e : Env} {R : Room} {s : State} {m : MethodId} {args : Array Value} {below : List Frame} {meth : Method} {c : Code} {Q : State → Prop} {D : va_G} {A : Nat → Prop} {H0 : Heap} (hx : p.tables.exec = Jvm.exec) (hb : c.code = cX10_init) (hml : c.maxLocals = 2) (hown : s.vm.findClass RX10 = some m.cls) (hts : ∀ w ∈ lw_g, w.before args s = true) (hr1 : 2 ≤ R.frames) (hr2 : 32 ≤ R.locals) (hr3 : 48 ≤ R.cells) (hr4 : 1140 ≤ R.slots) (hA : ∀ q : Nat, H0.size ≤ q → A q) (hN5 : va_Nw (.methodLinkNest RX10 32 yX5_init RX10) s) (a : Nat) (v : Nat → VU) (qs qr : Nat) (cs cr : ClassId)
    (kk : ∀ (us : List VU) (H : Heap) (locs : List Loc) (ls : Array Slot), us.length = 8 → va_K D classes (TB v cs cr ++ TS us) s → va_P D classes (WBc a v qs qr cs cr (fS us) ++ SL us) H → va_D A (WBc a v qs qr cs cr (fS us) ++ SL us) → va_S A H0 H locs → W p l e R s m args below meth c H locs 48 1140 Q (F0 m 81 ls [])) :
    ∀ (n : Nat) (us : List VU) (H : Heap) (locs : List Loc) (ls : Array Slot), us.length + n = 8 → va_K D classes (TB v cs cr ++ TS us) s → va_P D classes (WBc a v qs qr cs cr (fS us) ++ SL us) H → va_D A (WBc a v qs qr cs cr (fS us) ++ SL us) → va_S A H0 H locs → lv_has ls 2 [(1, .int (nI us.length)), (0, .ref a)] → W p l e R s m args below meth c H locs (32 + 2 * us.length) (300 + 105 * us.length) Q (F0 m 56 ls []) := by
  intro n
  induction n with
  | zero =>
    intro us H locs ls hn hK hP hD hS hl
    have h8 : us.length = 8 := by omega
    refine lv_iload_n hx hb dX10_init_56 rfl (lv_at hl 0 rfl) ?_
    refine lv_bipush (v := nI 8) hx hb dX10_init_57 (by decide) ?_
    refine lv_icmp_ge (tgt := 81) hx hb dX10_init_59 (by decide) (fun _ => ?_) (fun z => absurd (by rw [h8]; decide) z)
    refine W.widen (k := 48) (n := 1140) (by omega) (by omega) ?_
    exact kk us H locs ls h8 hK hP hD hS
  | succ n ih =>
    intro us H locs ls hn hK hP hD hS hl
    have h8 : us.length < 8 := by omega
    refine lv_iload_n hx hb dX10_init_56 rfl (lv_at hl 0 rfl) ?_
    refine lv_bipush (v := nI 8) hx hb dX10_init_57 (by decide) ?_
    have ek : (nI us.length).toInt = us.length := nI_toInt (by omega)
    refine lv_icmp_ge (tgt := 81) hx hb dX10_init_59 (by decide) (fun z => absurd (Int32.le_iff_toInt_le.mp z) (by rw [ek, nI_toInt (by omega)]; omega)) (fun _ => ?_)
    refine lv_aload_n hx hb dX10_init_62 rfl (lv_at hl 1 rfl) ?_
    refine va_get (D := D) (cl := classes) (ci := 10) (v := .ref qs) (C := RX10) (T := TX10) (N := 6) hx hb hts inX10 hown hK hP 0 rfl rfl 4 (by decide) (hts (.fieldLink RX10 24 RX10 "shelves" "[LMeatForDiamonds$Shelf;") (inG (i := 160) (by decide +kernel) rfl)) (fun _ h9 => h9) rfl dX10_init_63 ?_
    refine lv_iload_n hx hb dX10_init_66 rfl (lv_at hl 0 rfl) ?_
    refine va_new (D := D) (cl := classes) (ci := 5) (fs := [.null, .int 0, .int 0, .int 0, .null]) (C := RX5) (T := TX5) (N := 5) hx hb hts inX5 tyX5 tyX5_ok hown (hts (.classLink RX10 22 RX5) (inG (i := 128) (by decide +kernel) rfl)) (hts (.instantiable RX5 5) (inG (i := 130) (by decide +kernel) rfl)) (hts (.initialized RX5) (inG (i := 39) (by decide +kernel) rfl)) hK hP hD hS hA rfl (fun j hj => by rcases (show j = 0 ∨ j = 1 ∨ j = 2 ∨ j = 3 ∨ j = 4 by omega) with rfl | rfl | rfl | rfl | rfl <;> rfl) (by omega) (by omega) dX10_init_67 (fun q H hP hD hS => ?_)
    refine lv_dup hx hb dX10_init_70 rfl ?_
    have hFc := lastF hD hS hA
    have hKc : va_K D classes [] s := hK.sub (tys' := []) [] rfl
    refine va_callv (va_runIN (host := RX10) (As := []) (rest := [.ref q, .int (nI us.length), .ref qs]) ⟨hx, hb, hml, hown, hts⟩ (c_X5i l D q H.size) ⟨va_cnB (host := RX10) 0 hts (goodG (List.forall_mem_cons.mpr ⟨(inG (i := 133) (by decide +kernel) rfl), fun _ h => h⟩)) rfl rfl rfl hN5 (hts (.initialized RX5) (inG (i := 39) (by decide +kernel) rfl)) ⟨by decide, by decide, by decide +kernel⟩ ⟨Nat.le_trans (Nat.le_of_ble_eq_true rfl) hr1, Nat.le_trans (Nat.le_of_ble_eq_true rfl) hr2⟩, rfl, hts (.instanceMethod yX5_init) (inG (i := 132) (by decide +kernel) rfl)⟩ ⟨fun a U g mk q => by obtain ⟨q0, q1, qP, qK, qD⟩ := q; exact ⟨q0, q1, qP, va_K.moved (u := U) (U := U.calling g mk a) (Vm.Alike.refl U.vm) qK, qD⟩, fun U hU hW => ⟨rfl, by rw [hU], by rw [hU]; exact lastP hP, va_K.moved hW.alike hKc, (lastD hD).weaken (fun _ _ _ _ => trivial)⟩⟩ rfl rfl hl.1 rfl (lv_room (Nat.le_of_ble_eq_true rfl)) dX10_init_71 ⟨by omega, by omega⟩) hS (fun q _ h => hFc q h) hFc (fun uq t H1 locs ht hvm hw hB hz1 hk1 hS => ?_)
    obtain ⟨hP1, hK1, hD1⟩ := hB
    rw [ht] at hP1
    have hK1 := va_K.moved hvm.symm hK1
    obtain ⟨hP, hD⟩ := joinL2 hP hD hk1 hFc hP1 hD1
    have hK := hK.app hK1
    generalize H1 = H at hP hS ⊢
    have hin : inR (nI us.length) 8 := ⟨by rw [ek]; omega, by rw [ek]; omega⟩
    have ek2 : (nI us.length).toNatClampNeg = us.length := by
      show (nI us.length).toInt.toNat = us.length
      rw [ek]
      omega
    have hvq : (WBc a v qs qr cs cr (fS us) ++ SL us ++ w51 q uq)[(WBc a v qs qr cs cr (fS us) ++ SL us).length]? = some (q, .inr (5, [.null, .int 0, .int 0, .int 0, .ref (uq.1 0)])) := by rw [List.getElem?_append_right (Nat.le_refl _), Nat.sub_self]; rfl
    refine va_astq (D := D) (cl := classes) (r := (RX5, TX5, 5)) hx hb hK hP hD hS 31 27 _ 5 rfl rfl hvq rfl (inR_vp hin) dX10_init_74 (fun H locs hP hD hS => ?_)
    rw [ek2] at hP hD
    have ew : (WBc a v qs qr cs cr (fS us) ++ SL us ++ w51 q uq).set 31 (qs, .inl (cs, 8, .inr (.inr (.inr (.inr (va_up (fS us) us.length (some q))))))) = WBc a v qs qr cs cr (fS (us ++ [(q, uq)])) ++ SL (us ++ [(q, uq)]) := by
      rw [SL_app, ← fS_app, ← List.append_assoc]
      rfl
    have hP : va_P D classes (WBc a v qs qr cs cr (fS (us ++ [(q, uq)])) ++ SL (us ++ [(q, uq)])) H := ew ▸ hP
    have hD : va_D A (WBc a v qs qr cs cr (fS (us ++ [(q, uq)])) ++ SL (us ++ [(q, uq)])) := ew ▸ hD
    have hK : va_K D classes (TB v cs cr ++ TS (us ++ [(q, uq)])) s := by
      rw [TS_app, ← List.append_assoc]
      exact hK
    have el : (us ++ [(q, uq)]).length = us.length + 1 := by simp
    refine lv_iinc (v := nI (us.length + 1)) (lv' := [(1, .int (nI (us.length + 1))), (0, .ref a)]) hx hb dX10_init_75 hl (k := 0) rfl (nI_1 us.length) (by decide) rfl (fun ls hl => ?_)
    refine lv_goto (tgt := 56) hx hb dX10_init_78 (by decide) ?_
    refine W.widen (k := 32 + 2 * (us ++ [(q, uq)]).length) (n := 300 + 105 * (us ++ [(q, uq)]).length) (by rw [el]; omega) (by rw [el]; omega) ?_
    exact ih (us ++ [(q, uq)]) H locs ls (by rw [el]; omega) hK hP hD hS (by rw [el]; exact hl)
abbrev ZU : Type := (Nat → VU) × (Nat × Nat) × (ClassId × ClassId) × List VU
abbrev w101 (a : Nat) (z : ZU) : va_W := WBc a z.1 z.2.1.1 z.2.1.2 z.2.2.1.1 z.2.2.1.2 (fS z.2.2.2) ++ SL z.2.2.2
abbrev t101 (z : ZU) : List (ClassId × FieldType) := TB z.1 z.2.2.1.1 z.2.2.1.2 ++ TS z.2.2.2
set_option maxHeartbeats 8000000 in
set_option maxRecDepth 100000 in
theorem c_X10i (l : Launch) (D : va_G) (a sz : Nat) : Met l yX10_init (Cond.code yX10_init cX10_init 2 none :: lw_g) ({ frames := 2, cells := 48, slots := 1140, locals := 32 }) (va_Pc [.ref a] (fun U => U.heap.size = sz ∧ va_P D classes (w100 a) U.heap ∧ va_K D classes [] U ∧ va_D (fun _ => True) (w100 a) ∧ va_AO RX4 U ∧ va_AO RX5 U ∧ va_Nw (.methodLinkNest RX10 9 yX9_init RX10) U ∧ va_Nw (.methodLinkNest RX10 32 yX5_init RX10) U)) (va_Qv (fun z : ZU => z.2.2.2.length = 8) (fun z t => va_P D classes (w101 a z) t.heap ∧ va_K D classes (t101 z) t ∧ va_D (va_A (w100 a) sz) (w101 a z)) (va_A (w100 a) sz)) 48 1140 (va_A (w100 a) sz) := by
  refine Met.ofW (cc := cX10_init) (maxL := 2) (ret := none) (by decide) rfl ?_
  intro p e s m args below meth c s₁ B hml hv
  obtain ⟨rfl, hsz, hP, hK, hD0, hA4, hA5, hN9, hN5⟩ := hv
  have hx := B.exec
  have hb := B.bytes
  have hr := B.returns
  have hts0 := atoms_spec (ws := Cond.code yX10_init cX10_init 2 none :: lw_g) B.pre
  have hts := fun w (hw : w ∈ lw_g) => hts0 w (List.mem_cons_of_mem _ hw)
  have hown : s.vm.findClass RX10 = some m.cls := findClass_of_methodNamed B.named
  have hinit : meth.name = "<init>" := (name_of_methodNamed B.named B.method).1
  subst hsz
  have hD := hD0.self (sz := s.heap.size)
  generalize hAe : va_A (w100 a) s.heap.size = A at hD ⊢
  have hA : ∀ q : Nat, s.heap.size ≤ q → A q := fun q h => by rw [← hAe]; exact Or.inr h
  have hS : va_S A s.heap s.heap [] := va_S.rf
  have hl := lv_entry ([.ref a]) (n := 2) (Nat.le_of_ble_eq_true rfl)
  rw [lg_entry_eq]
  generalize (lg_sl ([.ref a]) ++ List.replicate (2 - (lg_sl ([.ref a])).length) Slot.unset).toArray = ls at hl ⊢
  have hl : lv_has ls 2 [(0, .ref a)] := hl
  refine lv_aload_n hx hb dX10_init_0 rfl (lv_at hl 0 rfl) ?_
  refine W.objInit hx hb hown (hts (.methodLink RX10 1 objectInit) (inG (i := 63) (by decide +kernel) rfl)) (hts (.instanceMethod objectInit) (inG (i := 64) (by decide +kernel) rfl)) (hts (.code objectInit ⟨#[0xb1]⟩ 1 none) (inG (i := 65) (by decide +kernel) rfl)) rfl (by rw [hml]; exact hl.1) rfl dX10_init_1 (Nat.le_of_ble_eq_true rfl) (Nat.le_of_ble_eq_true rfl) ?_
  refine W.eq (g2 := F0 m 4 ls []) rfl ?_
  refine lv_aload_n hx hb dX10_init_4 rfl (lv_at hl 0 rfl) ?_
  refine va_new (D := D) (cl := classes) (ci := 9) (fs := [.null, .null, .null, .null, .int 0, .null, .null, .null, .null, .int 0, .null, .int 0, .int 0]) (C := RX9) (T := TX9) (N := 13) hx hb hts inX9 tyX9 tyX9_ok hown (hts (.classLink RX10 7 RX9) (inG (i := 66) (by decide +kernel) rfl)) (hts (.instantiable RX9 13) (inG (i := 67) (by decide +kernel) rfl)) (hts (.initialized RX9) (inG (i := 38) (by decide +kernel) rfl)) hK hP hD hS hA rfl (fun j hj => by rcases (show j = 0 ∨ j = 1 ∨ j = 2 ∨ j = 3 ∨ j = 4 ∨ j = 5 ∨ j = 6 ∨ j = 7 ∨ j = 8 ∨ j = 9 ∨ j = 10 ∨ j = 11 ∨ j = 12 by omega) with rfl | rfl | rfl | rfl | rfl | rfl | rfl | rfl | rfl | rfl | rfl | rfl | rfl <;> rfl) (Nat.le_of_ble_eq_true rfl) (Nat.le_of_ble_eq_true rfl) dX10_init_5 (fun v0 H hP hD hS => ?_)
  refine lv_dup hx hb dX10_init_8 rfl ?_
  have hFc := lastF hD hS hA
  have hKc : va_K D classes [] s := hK.sub (tys' := []) [] rfl
  refine va_callv (va_runIN (host := RX10) (As := []) (rest := [.ref v0, .ref a]) ⟨hx, hb, hml, hown, hts⟩ (c_X9i l D v0 H.size) ⟨va_cnB (host := RX10) 0 hts (goodG (List.forall_mem_cons.mpr ⟨(inG (i := 70) (by decide +kernel) rfl), fun _ h => h⟩)) rfl rfl rfl hN9 (hts (.initialized RX9) (inG (i := 38) (by decide +kernel) rfl)) ⟨by decide, by decide, by decide +kernel⟩ ⟨Nat.le_of_ble_eq_true rfl, Nat.le_of_ble_eq_true rfl⟩, rfl, hts (.instanceMethod yX9_init) (inG (i := 69) (by decide +kernel) rfl)⟩ ⟨fun a U g mk q => by obtain ⟨q0, q1, qP, qK, qD, qA⟩ := q; exact ⟨q0, q1, qP, va_K.moved (u := U) (U := U.calling g mk a) (Vm.Alike.refl U.vm) qK, qD, va_AO.moved (u := U) (U := U.calling g mk a) (Vm.Alike.refl U.vm) qA⟩, fun U hU hW => ⟨rfl, by rw [hU], by rw [hU]; exact lastP hP, va_K.moved hW.alike hKc, (lastD hD).weaken (fun _ _ _ _ => trivial), va_AO.moved hW.alike hA4⟩⟩ rfl rfl hl.1 rfl (lv_room (Nat.le_of_ble_eq_true rfl)) dX10_init_9 ⟨Nat.le_of_ble_eq_true rfl, Nat.le_of_ble_eq_true rfl⟩) hS (fun q _ h => hFc q h) hFc (fun uv0 t H1 locs ht hvm hw hB hz1 hk1 hS => ?_)
  obtain ⟨hP1, hK1, hD1⟩ := hB
  rw [ht] at hP1
  have hK1 := va_K.moved hvm.symm hK1
  obtain ⟨hP, hD⟩ := joinL2 hP hD hk1 hFc hP1 hD1
  have hK := hK.app hK1
  generalize H1 = H at hP hS ⊢
  have hP : va_P D classes ((a, .inr (10, [.null, .null, .null, .int 0, .null, .null])) :: (w91 v0 uv0)) H := hP
  have hD : va_D A ((a, .inr (10, [.null, .null, .null, .int 0, .null, .null])) :: (w91 v0 uv0)) := hD
  have hK : va_K D classes ((t91 uv0)) s := hK
  refine W.widen (k := 10) (n := 64) (Nat.le_of_ble_eq_true rfl) (Nat.le_of_ble_eq_true rfl) ?_
  refine va_putF (D := D) (cl := classes) (ci := 10) (v := .ref v0) (ty := .object RX9) (C := RX10) (T := TX10) (N := 6) hx hb hts inX10 tyX10 tyX10_ok nmX10 hown hK hP hD hS 0 rfl rfl 0 (by decide) (hts (.fieldLink RX10 10 RX10 "now" "LMeatForDiamonds$Valley;") (inG (i := 156) (by decide +kernel) rfl)) (fun _ h9 => h9) rfl hinit rfl (by decide +kernel) rfl rfl (Nat.le_of_ble_eq_true rfl) dX10_init_12 (fun H locs hP hD hS => ?_)
  have hP : va_P D classes ((a, .inr (10, [.ref v0, .null, .null, .int 0, .null, .null])) :: (w91 v0 uv0)) H := hP
  have hD : va_D A ((a, .inr (10, [.ref v0, .null, .null, .int 0, .null, .null])) :: (w91 v0 uv0)) := hD
  refine lv_aload_n hx hb dX10_init_15 rfl (lv_at hl 0 rfl) ?_
  refine va_new (D := D) (cl := classes) (ci := 9) (fs := [.null, .null, .null, .null, .int 0, .null, .null, .null, .null, .int 0, .null, .int 0, .int 0]) (C := RX9) (T := TX9) (N := 13) hx hb hts inX9 tyX9 tyX9_ok hown (hts (.classLink RX10 7 RX9) (inG (i := 66) (by decide +kernel) rfl)) (hts (.instantiable RX9 13) (inG (i := 67) (by decide +kernel) rfl)) (hts (.initialized RX9) (inG (i := 38) (by decide +kernel) rfl)) hK hP hD hS hA rfl (fun j hj => by rcases (show j = 0 ∨ j = 1 ∨ j = 2 ∨ j = 3 ∨ j = 4 ∨ j = 5 ∨ j = 6 ∨ j = 7 ∨ j = 8 ∨ j = 9 ∨ j = 10 ∨ j = 11 ∨ j = 12 by omega) with rfl | rfl | rfl | rfl | rfl | rfl | rfl | rfl | rfl | rfl | rfl | rfl | rfl <;> rfl) (Nat.le_of_ble_eq_true rfl) (Nat.le_of_ble_eq_true rfl) dX10_init_16 (fun v1 H hP hD hS => ?_)
  refine lv_dup hx hb dX10_init_19 rfl ?_
  have hFc := lastF hD hS hA
  have hKc : va_K D classes [] s := hK.sub (tys' := []) [] rfl
  refine va_callv (va_runIN (host := RX10) (As := []) (rest := [.ref v1, .ref a]) ⟨hx, hb, hml, hown, hts⟩ (c_X9i l D v1 H.size) ⟨va_cnB (host := RX10) 0 hts (goodG (List.forall_mem_cons.mpr ⟨(inG (i := 70) (by decide +kernel) rfl), fun _ h => h⟩)) rfl rfl rfl hN9 (hts (.initialized RX9) (inG (i := 38) (by decide +kernel) rfl)) ⟨by decide, by decide, by decide +kernel⟩ ⟨Nat.le_of_ble_eq_true rfl, Nat.le_of_ble_eq_true rfl⟩, rfl, hts (.instanceMethod yX9_init) (inG (i := 69) (by decide +kernel) rfl)⟩ ⟨fun a U g mk q => by obtain ⟨q0, q1, qP, qK, qD, qA⟩ := q; exact ⟨q0, q1, qP, va_K.moved (u := U) (U := U.calling g mk a) (Vm.Alike.refl U.vm) qK, qD, va_AO.moved (u := U) (U := U.calling g mk a) (Vm.Alike.refl U.vm) qA⟩, fun U hU hW => ⟨rfl, by rw [hU], by rw [hU]; exact lastP hP, va_K.moved hW.alike hKc, (lastD hD).weaken (fun _ _ _ _ => trivial), va_AO.moved hW.alike hA4⟩⟩ rfl rfl hl.1 rfl (lv_room (Nat.le_of_ble_eq_true rfl)) dX10_init_20 ⟨Nat.le_of_ble_eq_true rfl, Nat.le_of_ble_eq_true rfl⟩) hS (fun q _ h => hFc q h) hFc (fun uv1 t H1 locs ht hvm hw hB hz1 hk1 hS => ?_)
  obtain ⟨hP1, hK1, hD1⟩ := hB
  rw [ht] at hP1
  have hK1 := va_K.moved hvm.symm hK1
  obtain ⟨hP, hD⟩ := joinL2 hP hD hk1 hFc hP1 hD1
  have hK := hK.app hK1
  generalize H1 = H at hP hS ⊢
  have hP : va_P D classes ((a, .inr (10, [.ref v0, .null, .null, .int 0, .null, .null])) :: (w91 v0 uv0 ++ (w91 v1 uv1))) H := hP
  have hD : va_D A ((a, .inr (10, [.ref v0, .null, .null, .int 0, .null, .null])) :: (w91 v0 uv0 ++ (w91 v1 uv1))) := hD
  have hK : va_K D classes ((t91 uv0 ++ (t91 uv1))) s := hK
  refine W.widen (k := 20) (n := 128) (Nat.le_of_ble_eq_true rfl) (Nat.le_of_ble_eq_true rfl) ?_
  refine va_putF (D := D) (cl := classes) (ci := 10) (v := .ref v1) (ty := .object RX9) (C := RX10) (T := TX10) (N := 6) hx hb hts inX10 tyX10 tyX10_ok nmX10 hown hK hP hD hS 0 rfl rfl 1 (by decide) (hts (.fieldLink RX10 16 RX10 "mind" "LMeatForDiamonds$Valley;") (inG (i := 157) (by decide +kernel) rfl)) (fun _ h9 => h9) rfl hinit rfl (by decide +kernel) rfl rfl (Nat.le_of_ble_eq_true rfl) dX10_init_23 (fun H locs hP hD hS => ?_)
  have hP : va_P D classes ((a, .inr (10, [.ref v0, .ref v1, .null, .int 0, .null, .null])) :: (w91 v0 uv0 ++ (w91 v1 uv1))) H := hP
  have hD : va_D A ((a, .inr (10, [.ref v0, .ref v1, .null, .int 0, .null, .null])) :: (w91 v0 uv0 ++ (w91 v1 uv1))) := hD
  refine lv_aload_n hx hb dX10_init_26 rfl (lv_at hl 0 rfl) ?_
  refine va_new (D := D) (cl := classes) (ci := 9) (fs := [.null, .null, .null, .null, .int 0, .null, .null, .null, .null, .int 0, .null, .int 0, .int 0]) (C := RX9) (T := TX9) (N := 13) hx hb hts inX9 tyX9 tyX9_ok hown (hts (.classLink RX10 7 RX9) (inG (i := 66) (by decide +kernel) rfl)) (hts (.instantiable RX9 13) (inG (i := 67) (by decide +kernel) rfl)) (hts (.initialized RX9) (inG (i := 38) (by decide +kernel) rfl)) hK hP hD hS hA rfl (fun j hj => by rcases (show j = 0 ∨ j = 1 ∨ j = 2 ∨ j = 3 ∨ j = 4 ∨ j = 5 ∨ j = 6 ∨ j = 7 ∨ j = 8 ∨ j = 9 ∨ j = 10 ∨ j = 11 ∨ j = 12 by omega) with rfl | rfl | rfl | rfl | rfl | rfl | rfl | rfl | rfl | rfl | rfl | rfl | rfl <;> rfl) (Nat.le_of_ble_eq_true rfl) (Nat.le_of_ble_eq_true rfl) dX10_init_27 (fun v2 H hP hD hS => ?_)
  refine lv_dup hx hb dX10_init_30 rfl ?_
  have hFc := lastF hD hS hA
  have hKc : va_K D classes [] s := hK.sub (tys' := []) [] rfl
  refine va_callv (va_runIN (host := RX10) (As := []) (rest := [.ref v2, .ref a]) ⟨hx, hb, hml, hown, hts⟩ (c_X9i l D v2 H.size) ⟨va_cnB (host := RX10) 0 hts (goodG (List.forall_mem_cons.mpr ⟨(inG (i := 70) (by decide +kernel) rfl), fun _ h => h⟩)) rfl rfl rfl hN9 (hts (.initialized RX9) (inG (i := 38) (by decide +kernel) rfl)) ⟨by decide, by decide, by decide +kernel⟩ ⟨Nat.le_of_ble_eq_true rfl, Nat.le_of_ble_eq_true rfl⟩, rfl, hts (.instanceMethod yX9_init) (inG (i := 69) (by decide +kernel) rfl)⟩ ⟨fun a U g mk q => by obtain ⟨q0, q1, qP, qK, qD, qA⟩ := q; exact ⟨q0, q1, qP, va_K.moved (u := U) (U := U.calling g mk a) (Vm.Alike.refl U.vm) qK, qD, va_AO.moved (u := U) (U := U.calling g mk a) (Vm.Alike.refl U.vm) qA⟩, fun U hU hW => ⟨rfl, by rw [hU], by rw [hU]; exact lastP hP, va_K.moved hW.alike hKc, (lastD hD).weaken (fun _ _ _ _ => trivial), va_AO.moved hW.alike hA4⟩⟩ rfl rfl hl.1 rfl (lv_room (Nat.le_of_ble_eq_true rfl)) dX10_init_31 ⟨Nat.le_of_ble_eq_true rfl, Nat.le_of_ble_eq_true rfl⟩) hS (fun q _ h => hFc q h) hFc (fun uv2 t H1 locs ht hvm hw hB hz1 hk1 hS => ?_)
  obtain ⟨hP1, hK1, hD1⟩ := hB
  rw [ht] at hP1
  have hK1 := va_K.moved hvm.symm hK1
  obtain ⟨hP, hD⟩ := joinL2 hP hD hk1 hFc hP1 hD1
  have hK := hK.app hK1
  generalize H1 = H at hP hS ⊢
  have hP : va_P D classes ((a, .inr (10, [.ref v0, .ref v1, .null, .int 0, .null, .null])) :: (w91 v0 uv0 ++ (w91 v1 uv1 ++ (w91 v2 uv2)))) H := hP
  have hD : va_D A ((a, .inr (10, [.ref v0, .ref v1, .null, .int 0, .null, .null])) :: (w91 v0 uv0 ++ (w91 v1 uv1 ++ (w91 v2 uv2)))) := hD
  have hK : va_K D classes ((t91 uv0 ++ (t91 uv1 ++ (t91 uv2)))) s := hK
  refine W.widen (k := 30) (n := 192) (Nat.le_of_ble_eq_true rfl) (Nat.le_of_ble_eq_true rfl) ?_
  refine va_putF (D := D) (cl := classes) (ci := 10) (v := .ref v2) (ty := .object RX9) (C := RX10) (T := TX10) (N := 6) hx hb hts inX10 tyX10 tyX10_ok nmX10 hown hK hP hD hS 0 rfl rfl 2 (by decide) (hts (.fieldLink RX10 19 RX10 "kept" "LMeatForDiamonds$Valley;") (inG (i := 158) (by decide +kernel) rfl)) (fun _ h9 => h9) rfl hinit rfl (by decide +kernel) rfl rfl (Nat.le_of_ble_eq_true rfl) dX10_init_34 (fun H locs hP hD hS => ?_)
  have hP : va_P D classes ((a, .inr (10, [.ref v0, .ref v1, .ref v2, .int 0, .null, .null])) :: (w91 v0 uv0 ++ (w91 v1 uv1 ++ (w91 v2 uv2)))) H := hP
  have hD : va_D A ((a, .inr (10, [.ref v0, .ref v1, .ref v2, .int 0, .null, .null])) :: (w91 v0 uv0 ++ (w91 v1 uv1 ++ (w91 v2 uv2)))) := hD
  refine lv_aload_n hx hb dX10_init_37 rfl (lv_at hl 0 rfl) ?_
  refine lv_bipush (v := nI 8) hx hb dX10_init_38 (by decide) ?_
  refine va_newq (D := D) (cl := classes) (C := RX5) (n := nI 8) (N' := 8) hx hb hown (hts (.classLink RX10 22 RX5) (inG (i := 128) (by decide +kernel) rfl)) hA5 hK hP hD hS hA (by decide) (by decide) (Nat.le_of_ble_eq_true rfl) (Nat.le_of_ble_eq_true rfl) (Nat.le_of_ble_eq_true rfl) dX10_init_40 (fun qs cs H hK hP hD hS => ?_)
  have hP : va_P D classes ((a, .inr (10, [.ref v0, .ref v1, .ref v2, .int 0, .null, .null])) :: (w91 v0 uv0 ++ (w91 v1 uv1 ++ (w91 v2 uv2 ++ ([(qs, .inl (cs, 8, .inr (.inr (.inr (.inr (fS []))))))]))))) H := hP
  have hD : va_D A ((a, .inr (10, [.ref v0, .ref v1, .ref v2, .int 0, .null, .null])) :: (w91 v0 uv0 ++ (w91 v1 uv1 ++ (w91 v2 uv2 ++ ([(qs, .inl (cs, 8, .inr (.inr (.inr (.inr (fS []))))))]))))) := hD
  have hK : va_K D classes ((t91 uv0 ++ (t91 uv1 ++ (t91 uv2 ++ ([(cs, .object RX5)]))))) s := hK
  refine W.widen (k := 31) (n := 200) (Nat.le_of_ble_eq_true rfl) (Nat.le_of_ble_eq_true rfl) ?_
  refine va_putF (D := D) (cl := classes) (ci := 10) (v := .ref qs) (ty := .array (.object RX5)) (C := RX10) (T := TX10) (N := 6) hx hb hts inX10 tyX10 tyX10_ok nmX10 hown hK hP hD hS 0 rfl rfl 4 (by decide) (hts (.fieldLink RX10 24 RX10 "shelves" "[LMeatForDiamonds$Shelf;") (inG (i := 160) (by decide +kernel) rfl)) (fun _ h9 => h9) rfl hinit rfl (by decide +kernel) rfl rfl (Nat.le_of_ble_eq_true rfl) dX10_init_43 (fun H locs hP hD hS => ?_)
  have hP : va_P D classes ((a, .inr (10, [.ref v0, .ref v1, .ref v2, .int 0, .ref qs, .null])) :: (w91 v0 uv0 ++ (w91 v1 uv1 ++ (w91 v2 uv2 ++ ([(qs, .inl (cs, 8, .inr (.inr (.inr (.inr (fS []))))))]))))) H := hP
  have hD : va_D A ((a, .inr (10, [.ref v0, .ref v1, .ref v2, .int 0, .ref qs, .null])) :: (w91 v0 uv0 ++ (w91 v1 uv1 ++ (w91 v2 uv2 ++ ([(qs, .inl (cs, 8, .inr (.inr (.inr (.inr (fS []))))))]))))) := hD
  refine lv_aload_n hx hb dX10_init_46 rfl (lv_at hl 0 rfl) ?_
  refine lv_bipush (v := nI 100) hx hb dX10_init_47 (by decide) ?_
  refine va_newa (D := D) (cl := classes) (atype := .int) (ty := .int) (n := nI 100) (N' := 100) (a0 := (100, .inl (fun _ => 0))) hx hb (hts (.arrayClass .int) (inG (i := 127) (by decide +kernel) rfl)) rfl hK hP hD hS hA (na_int 100) (by decide) (by decide) (Nat.le_of_ble_eq_true rfl) (Nat.le_of_ble_eq_true rfl) (Nat.le_of_ble_eq_true rfl) dX10_init_49 (fun qr cr H hK hP hD hS => ?_)
  have hP : va_P D classes ((a, .inr (10, [.ref v0, .ref v1, .ref v2, .int 0, .ref qs, .null])) :: (w91 v0 uv0 ++ (w91 v1 uv1 ++ (w91 v2 uv2 ++ ([(qs, .inl (cs, 8, .inr (.inr (.inr (.inr (fS [])))))), (qr, .inl (cr, 100, .inl (fun _ => 0)))]))))) H := hP
  have hD : va_D A ((a, .inr (10, [.ref v0, .ref v1, .ref v2, .int 0, .ref qs, .null])) :: (w91 v0 uv0 ++ (w91 v1 uv1 ++ (w91 v2 uv2 ++ ([(qs, .inl (cs, 8, .inr (.inr (.inr (.inr (fS [])))))), (qr, .inl (cr, 100, .inl (fun _ => 0)))]))))) := hD
  have hK : va_K D classes ((t91 uv0 ++ (t91 uv1 ++ (t91 uv2 ++ ([(cs, .object RX5), (cr, .int)]))))) s := hK
  refine W.widen (k := 32) (n := 300) (Nat.le_of_ble_eq_true rfl) (Nat.le_of_ble_eq_true rfl) ?_
  refine va_putF (D := D) (cl := classes) (ci := 10) (v := .ref qr) (ty := .array .int) (C := RX10) (T := TX10) (N := 6) hx hb hts inX10 tyX10 tyX10_ok nmX10 hown hK hP hD hS 0 rfl rfl 5 (by decide) (hts (.fieldLink RX10 28 RX10 "rests" "[I") (inG (i := 161) (by decide +kernel) rfl)) (fun _ h9 => h9) rfl hinit rfl (by decide +kernel) rfl rfl (Nat.le_of_ble_eq_true rfl) dX10_init_51 (fun H locs hP hD hS => ?_)
  have hP : va_P D classes ((a, .inr (10, [.ref v0, .ref v1, .ref v2, .int 0, .ref qs, .ref qr])) :: (w91 v0 uv0 ++ (w91 v1 uv1 ++ (w91 v2 uv2 ++ ([(qs, .inl (cs, 8, .inr (.inr (.inr (.inr (fS [])))))), (qr, .inl (cr, 100, .inl (fun _ => 0)))]))))) H := hP
  have hD : va_D A ((a, .inr (10, [.ref v0, .ref v1, .ref v2, .int 0, .ref qs, .ref qr])) :: (w91 v0 uv0 ++ (w91 v1 uv1 ++ (w91 v2 uv2 ++ ([(qs, .inl (cs, 8, .inr (.inr (.inr (.inr (fS [])))))), (qr, .inl (cr, 100, .inl (fun _ => 0)))]))))) := hD
  refine lv_iconst (v := nI 0) hx hb dX10_init_54 (by decide) ?_
  refine lv_istore_n (lv' := [(1, .int (nI 0)), (0, .ref a)]) hx hb dX10_init_55 rfl hl (by decide) rfl (fun ls hl => ?_)
  refine x10_lp l (D := D) (A := A) (H0 := s.heap) hx hb hml hown hts (Nat.le_of_ble_eq_true rfl) (Nat.le_of_ble_eq_true rfl) (Nat.le_of_ble_eq_true rfl) (Nat.le_of_ble_eq_true rfl) hA hN5 a (fun t => match t with | 0 => (v0, uv0) | 1 => (v1, uv1) | _ => (v2, uv2)) qs qr cs cr (fun us H locs ls h8 hK hP hD hS => ?_) 8 [] H locs ls rfl ?_ ?_ ?_ hS hl
  · exact W.vret hx hb hr (fun t ht hW => ⟨⟨((fun t => match t with | 0 => (v0, uv0) | 1 => (v1, uv1) | _ => (v2, uv2)), (qs, qr), (cs, cr), us), rfl, h8, by show va_P D classes _ t.heap; rw [ht]; exact hP, va_K.moved hW.alike hK, hD⟩, hS.F ht⟩) hS.2.2 dX10_init_81
  · show va_K D classes (((t91 uv0 ++ (t91 uv1 ++ (t91 uv2 ++ ([(cs, .object RX5), (cr, .int)]))))) ++ []) s
    rw [List.append_nil]; exact hK
  · show va_P D classes (((a, .inr (10, [.ref v0, .ref v1, .ref v2, .int 0, .ref qs, .ref qr])) :: (w91 v0 uv0 ++ (w91 v1 uv1 ++ (w91 v2 uv2 ++ ([(qs, .inl (cs, 8, .inr (.inr (.inr (.inr (fS [])))))), (qr, .inl (cr, 100, .inl (fun _ => 0)))]))))) ++ []) H
    rw [List.append_nil]; exact hP
  · show va_D A (((a, .inr (10, [.ref v0, .ref v1, .ref v2, .int 0, .ref qs, .ref qr])) :: (w91 v0 uv0 ++ (w91 v1 uv1 ++ (w91 v2 uv2 ++ ([(qs, .inl (cs, 8, .inr (.inr (.inr (.inr (fS [])))))), (qr, .inl (cr, 100, .inl (fun _ => 0)))]))))) ++ [])
    rw [List.append_nil]; exact hD

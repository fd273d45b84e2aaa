/-! ===== the constructors of sheep: over a world of one cell ===== -/
abbrev sW (a ci : Nat) (fs : List Value) : va_W := [(a, .inr (ci, fs))]
theorem dX4_init_0 : decode cX4_init 0 = .ok (.aload_n 0, 1) := by decide +kernel
theorem dX4_init_1 : decode cX4_init 1 = .ok (.invokespecial 1, 3) := by decide +kernel
theorem dX4_init_4 : decode cX4_init 4 = .ok (.aload_n 0, 1) := by decide +kernel
theorem dX4_init_5 : decode cX4_init 5 = .ok (.iload_n 1, 1) := by decide +kernel
theorem dX4_init_6 : decode cX4_init 6 = .ok (.putfield 7, 3) := by decide +kernel
theorem dX4_init_9 : decode cX4_init 9 = .ok (.aload_n 0, 1) := by decide +kernel
theorem dX4_init_10 : decode cX4_init 10 = .ok (.iload_n 2, 1) := by decide +kernel
theorem dX4_init_11 : decode cX4_init 11 = .ok (.putfield 13, 3) := by decide +kernel
theorem dX4_init_14 : decode cX4_init 14 = .ok (.aload_n 0, 1) := by decide +kernel
theorem dX4_init_15 : decode cX4_init 15 = .ok (.bipush 6, 2) := by decide +kernel
theorem dX4_init_17 : decode cX4_init 17 = .ok (.iload_n 2, 1) := by decide +kernel
theorem dX4_init_18 : decode cX4_init 18 = .ok (.iadd, 1) := by decide +kernel
theorem dX4_init_19 : decode cX4_init 19 = .ok (.putfield 16, 3) := by decide +kernel
theorem dX4_init_22 : decode cX4_init 22 = .ok (.aload_n 0, 1) := by decide +kernel
theorem dX4_init_23 : decode cX4_init 23 = .ok (.iconst 1, 1) := by decide +kernel
theorem dX4_init_24 : decode cX4_init 24 = .ok (.iload_n 2, 1) := by decide +kernel
theorem dX4_init_25 : decode cX4_init 25 = .ok (.iconst 3, 1) := by decide +kernel
theorem dX4_init_26 : decode cX4_init 26 = .ok (.idiv, 1) := by decide +kernel
theorem dX4_init_27 : decode cX4_init 27 = .ok (.iadd, 1) := by decide +kernel
theorem dX4_init_28 : decode cX4_init 28 = .ok (.putfield 19, 3) := by decide +kernel
theorem dX4_init_31 : decode cX4_init 31 = .ok (.aload_n 0, 1) := by decide +kernel
theorem dX4_init_32 : decode cX4_init 32 = .ok (.iconst 4, 1) := by decide +kernel
theorem dX4_init_33 : decode cX4_init 33 = .ok (.putfield 22, 3) := by decide +kernel
theorem dX4_init_36 : decode cX4_init 36 = .ok (.aload_n 0, 1) := by decide +kernel
theorem dX4_init_37 : decode cX4_init 37 = .ok (.iconst 5, 1) := by decide +kernel
theorem dX4_init_38 : decode cX4_init 38 = .ok (.putfield 25, 3) := by decide +kernel
theorem dX4_init_41 : decode cX4_init 41 = .ok (.aload_n 0, 1) := by decide +kernel
theorem dX4_init_42 : decode cX4_init 42 = .ok (.iconst 3, 1) := by decide +kernel
theorem dX4_init_43 : decode cX4_init 43 = .ok (.putfield 28, 3) := by decide +kernel
theorem dX4_init_46 : decode cX4_init 46 = .ok (.return_, 1) := by decide +kernel
set_option maxHeartbeats 4000000 in
set_option maxRecDepth 100000 in
theorem c_X4 (l : Launch) (D : va_G) (a ci sz : Nat) {C : String} (hC : classes[ci]? = some (C, TX4, 7)) (hin : ∀ w ∈ u_ws C TX4 7, w ∈ lw_g) (k f : Int32) : Met l yX4_init (Cond.code yX4_init cX4_init 3 none :: lw_g) ({ frames := 1, cells := 0, slots := 0, locals := 12 }) (va_Pc [.ref a, .int k, .int f] (fun U => U.heap.size = sz ∧ va_P D classes (sW a ci [.int (0), .int (0), .int (0), .int (0), .int (0), .int (0), .int (0)]) U.heap ∧ va_K D classes [] U ∧ va_D (fun _ => True) (sW a ci [.int (0), .int (0), .int (0), .int (0), .int (0), .int (0), .int (0)]))) (va_Qv (fun _ : Unit => True) (fun _ t => va_P D classes (sW a ci [.int (k), .int (f), .int ((6 + f)), .int ((1 + (f / 3))), .int (4), .int (5), .int (3)]) t.heap) (va_A (sW a ci [.int (0), .int (0), .int (0), .int (0), .int (0), .int (0), .int (0)]) sz)) 0 0 (va_A (sW a ci [.int (0), .int (0), .int (0), .int (0), .int (0), .int (0), .int (0)]) sz) := by
  refine Met.ofW (cc := cX4_init) (maxL := 3) (ret := none) (by decide) rfl ?_
  intro p e s m args below meth c s₁ B hml hv
  obtain ⟨rfl, hsz, hP, hK, hD0⟩ := hv
  have hx := B.exec
  have hb := B.bytes
  have hr := B.returns
  have hts0 := atoms_spec (ws := Cond.code yX4_init cX4_init 3 none :: lw_g) B.pre
  have hts := fun w (hw : w ∈ lw_g) => hts0 w (List.mem_cons_of_mem _ hw)
  have hown : s.vm.findClass RX4 = some m.cls := findClass_of_methodNamed B.named
  have hinit : meth.name = "<init>" := (name_of_methodNamed B.named B.method).1
  have hlocks := B.notSynchronized
  subst hsz
  have hD := hD0.self (sz := s.heap.size)
  generalize hAe : va_A (sW a ci [.int (0), .int (0), .int (0), .int (0), .int (0), .int (0), .int (0)]) s.heap.size = A at hD ⊢
  have hA : ∀ q : Nat, s.heap.size ≤ q → A q := fun q h => by rw [← hAe]; exact Or.inr h
  have hS : va_S A s.heap s.heap [] := va_S.rf
  have hP : va_P D classes (sW a ci [.int (0), .int (0), .int (0), .int (0), .int (0), .int (0), .int (0)]) s.heap := hP
  have hl := lv_entry ([.ref a, .int k, .int f]) (n := 3) (Nat.le_of_ble_eq_true rfl)
  rw [lg_entry_eq]
  generalize (lg_sl ([.ref a, .int k, .int f]) ++ List.replicate (3 - (lg_sl ([.ref a, .int k, .int f])).length) Slot.unset).toArray = ls at hl ⊢
  have hl : lv_has ls 3 [(0, .ref a), (1, .int k), (2, .int f)] := hl
  refine lv_aload_n hx hb dX4_init_0 rfl (lv_at hl 0 rfl) ?_
  refine W.objInit hx hb hown (hts (.methodLink RX4 1 objectInit) (by decide +kernel)) (hts (.instanceMethod objectInit) (by decide +kernel)) (hts (.code objectInit ⟨#[0xb1]⟩ 1 none) (by decide +kernel)) rfl (by rw [hml]; exact hl.1) rfl dX4_init_1 (Nat.le_of_ble_eq_true rfl) (Nat.le_of_ble_eq_true rfl) ?_
  refine W.eq (g2 := F0 m 4 ls []) rfl ?_
  refine lv_aload_n hx hb dX4_init_4 rfl (lv_at hl 0 rfl) ?_
  refine lv_iload_n hx hb dX4_init_5 rfl (lv_at hl 1 rfl) ?_
  refine va_putF (D := D) (cl := classes) (ci := ci) (ty := .int) (C := C) (T := TX4) (N := 7) hx hb hts hin tyX4 tyX4_ok nmX4 hown hK hP hD hS 0 rfl hC 0 (by decide) (hts (.fieldLink RX4 7 RX4 "kind" "I") (inG (i := 247) (by decide +kernel) rfl)) (fun _ h9 => h9) rfl hinit rfl (by decide +kernel) rfl rfl (Nat.le_of_ble_eq_true rfl) dX4_init_6 (fun H locs hP hD hS => ?_)
  have hP : va_P D classes (sW a ci [.int (k), .int (0), .int (0), .int (0), .int (0), .int (0), .int (0)]) H := hP
  have hD : va_D A (sW a ci [.int (k), .int (0), .int (0), .int (0), .int (0), .int (0), .int (0)]) := hD
  refine lv_aload_n hx hb dX4_init_9 rfl (lv_at hl 0 rfl) ?_
  refine lv_iload_n hx hb dX4_init_10 rfl (lv_at hl 2 rfl) ?_
  refine va_putF (D := D) (cl := classes) (ci := ci) (ty := .int) (C := C) (T := TX4) (N := 7) hx hb hts hin tyX4 tyX4_ok nmX4 hown hK hP hD hS 0 rfl hC 1 (by decide) (hts (.fieldLink RX4 13 RX4 "figure" "I") (inG (i := 249) (by decide +kernel) rfl)) (fun _ h9 => h9) rfl hinit rfl (by decide +kernel) rfl rfl (Nat.le_of_ble_eq_true rfl) dX4_init_11 (fun H locs hP hD hS => ?_)
  have hP : va_P D classes (sW a ci [.int (k), .int (f), .int (0), .int (0), .int (0), .int (0), .int (0)]) H := hP
  have hD : va_D A (sW a ci [.int (k), .int (f), .int (0), .int (0), .int (0), .int (0), .int (0)]) := hD
  refine lv_aload_n hx hb dX4_init_14 rfl (lv_at hl 0 rfl) ?_
  refine lv_bipush (v := 6) hx hb dX4_init_15 (by decide) ?_
  refine lv_iload_n hx hb dX4_init_17 rfl (lv_at hl 2 rfl) ?_
  refine lv_iadd hx hb dX4_init_18 ?_
  refine va_put (D := D) (cl := classes) (ci := ci) (ty := .int) (C := C) (T := TX4) (N := 7) hx hb hts hin tyX4 tyX4_ok nmX4 hown hK hP hD hS 0 rfl hC 2 (by decide) (hts (.fieldLink RX4 16 RX4 "weight" "I") (inG (i := 265) (by decide +kernel) rfl)) (fun _ h9 => h9) rfl (by decide +kernel) rfl rfl (Nat.le_of_ble_eq_true rfl) dX4_init_19 (fun H locs hP hD hS => ?_)
  have hP : va_P D classes (sW a ci [.int (k), .int (f), .int ((6 + f)), .int (0), .int (0), .int (0), .int (0)]) H := hP
  have hD : va_D A (sW a ci [.int (k), .int (f), .int ((6 + f)), .int (0), .int (0), .int (0), .int (0)]) := hD
  refine lv_aload_n hx hb dX4_init_22 rfl (lv_at hl 0 rfl) ?_
  refine lv_iconst (v := 1) hx hb dX4_init_23 (by decide) ?_
  refine lv_iload_n hx hb dX4_init_24 rfl (lv_at hl 2 rfl) ?_
  refine lv_iconst (v := 3) hx hb dX4_init_25 (by decide) ?_
  refine lv_idiv hx hb dX4_init_26 (by decide) ?_
  refine lv_iadd hx hb dX4_init_27 ?_
  refine va_put (D := D) (cl := classes) (ci := ci) (ty := .int) (C := C) (T := TX4) (N := 7) hx hb hts hin tyX4 tyX4_ok nmX4 hown hK hP hD hS 0 rfl hC 3 (by decide) (hts (.fieldLink RX4 19 RX4 "sticks" "I") (inG (i := 278) (by decide +kernel) rfl)) (fun _ h9 => h9) rfl (by decide +kernel) rfl rfl (Nat.le_of_ble_eq_true rfl) dX4_init_28 (fun H locs hP hD hS => ?_)
  have hP : va_P D classes (sW a ci [.int (k), .int (f), .int ((6 + f)), .int ((1 + (f / 3))), .int (0), .int (0), .int (0)]) H := hP
  have hD : va_D A (sW a ci [.int (k), .int (f), .int ((6 + f)), .int ((1 + (f / 3))), .int (0), .int (0), .int (0)]) := hD
  refine lv_aload_n hx hb dX4_init_31 rfl (lv_at hl 0 rfl) ?_
  refine lv_iconst (v := 4) hx hb dX4_init_32 (by decide) ?_
  refine va_put (D := D) (cl := classes) (ci := ci) (ty := .int) (C := C) (T := TX4) (N := 7) hx hb hts hin tyX4 tyX4_ok nmX4 hown hK hP hD hS 0 rfl hC 4 (by decide) (hts (.fieldLink RX4 22 RX4 "flies" "I") (inG (i := 291) (by decide +kernel) rfl)) (fun _ h9 => h9) rfl (by decide +kernel) rfl rfl (Nat.le_of_ble_eq_true rfl) dX4_init_33 (fun H locs hP hD hS => ?_)
  have hP : va_P D classes (sW a ci [.int (k), .int (f), .int ((6 + f)), .int ((1 + (f / 3))), .int (4), .int (0), .int (0)]) H := hP
  have hD : va_D A (sW a ci [.int (k), .int (f), .int ((6 + f)), .int ((1 + (f / 3))), .int (4), .int (0), .int (0)]) := hD
  refine lv_aload_n hx hb dX4_init_36 rfl (lv_at hl 0 rfl) ?_
  refine lv_iconst (v := 5) hx hb dX4_init_37 (by decide) ?_
  refine va_put (D := D) (cl := classes) (ci := ci) (ty := .int) (C := C) (T := TX4) (N := 7) hx hb hts hin tyX4 tyX4_ok nmX4 hown hK hP hD hS 0 rfl hC 5 (by decide) (hts (.fieldLink RX4 25 RX4 "price" "I") (inG (i := 302) (by decide +kernel) rfl)) (fun _ h9 => h9) rfl (by decide +kernel) rfl rfl (Nat.le_of_ble_eq_true rfl) dX4_init_38 (fun H locs hP hD hS => ?_)
  have hP : va_P D classes (sW a ci [.int (k), .int (f), .int ((6 + f)), .int ((1 + (f / 3))), .int (4), .int (5), .int (0)]) H := hP
  have hD : va_D A (sW a ci [.int (k), .int (f), .int ((6 + f)), .int ((1 + (f / 3))), .int (4), .int (5), .int (0)]) := hD
  refine lv_aload_n hx hb dX4_init_41 rfl (lv_at hl 0 rfl) ?_
  refine lv_iconst (v := 3) hx hb dX4_init_42 (by decide) ?_
  refine va_put (D := D) (cl := classes) (ci := ci) (ty := .int) (C := C) (T := TX4) (N := 7) hx hb hts hin tyX4 tyX4_ok nmX4 hown hK hP hD hS 0 rfl hC 6 (by decide) (hts (.fieldLink RX4 28 RX4 "costs" "I") (inG (i := 319) (by decide +kernel) rfl)) (fun _ h9 => h9) rfl (by decide +kernel) rfl rfl (Nat.le_of_ble_eq_true rfl) dX4_init_43 (fun H locs hP hD hS => ?_)
  have hP : va_P D classes (sW a ci [.int (k), .int (f), .int ((6 + f)), .int ((1 + (f / 3))), .int (4), .int (5), .int (3)]) H := hP
  have hD : va_D A (sW a ci [.int (k), .int (f), .int ((6 + f)), .int ((1 + (f / 3))), .int (4), .int (5), .int (3)]) := hD
  exact W.vret hx hb hr (fun t ht hW => ⟨⟨(), rfl, trivial, by show va_P D classes _ t.heap; rw [ht]; exact hP⟩, hS.F ht⟩) hS.2.2 dX4_init_46
theorem dX7_init_0 : decode cX7_init 0 = .ok (.aload_n 0, 1) := by decide +kernel
theorem dX7_init_1 : decode cX7_init 1 = .ok (.iload_n 1, 1) := by decide +kernel
theorem dX7_init_2 : decode cX7_init 2 = .ok (.iload_n 2, 1) := by decide +kernel
theorem dX7_init_3 : decode cX7_init 3 = .ok (.invokespecial 1, 3) := by decide +kernel
theorem dX7_init_6 : decode cX7_init 6 = .ok (.aload_n 0, 1) := by decide +kernel
theorem dX7_init_7 : decode cX7_init 7 = .ok (.dup, 1) := by decide +kernel
theorem dX7_init_8 : decode cX7_init 8 = .ok (.getfield 7, 3) := by decide +kernel
theorem dX7_init_11 : decode cX7_init 11 = .ok (.iconst 3, 1) := by decide +kernel
theorem dX7_init_12 : decode cX7_init 12 = .ok (.isub, 1) := by decide +kernel
theorem dX7_init_13 : decode cX7_init 13 = .ok (.putfield 7, 3) := by decide +kernel
theorem dX7_init_16 : decode cX7_init 16 = .ok (.aload_n 0, 1) := by decide +kernel
theorem dX7_init_17 : decode cX7_init 17 = .ok (.dup, 1) := by decide +kernel
theorem dX7_init_18 : decode cX7_init 18 = .ok (.getfield 13, 3) := by decide +kernel
theorem dX7_init_21 : decode cX7_init 21 = .ok (.iconst 1, 1) := by decide +kernel
theorem dX7_init_22 : decode cX7_init 22 = .ok (.isub, 1) := by decide +kernel
theorem dX7_init_23 : decode cX7_init 23 = .ok (.putfield 13, 3) := by decide +kernel
theorem dX7_init_26 : decode cX7_init 26 = .ok (.aload_n 0, 1) := by decide +kernel
theorem dX7_init_27 : decode cX7_init 27 = .ok (.dup, 1) := by decide +kernel
theorem dX7_init_28 : decode cX7_init 28 = .ok (.getfield 16, 3) := by decide +kernel
theorem dX7_init_31 : decode cX7_init 31 = .ok (.iconst 2, 1) := by decide +kernel
theorem dX7_init_32 : decode cX7_init 32 = .ok (.iadd, 1) := by decide +kernel
theorem dX7_init_33 : decode cX7_init 33 = .ok (.putfield 16, 3) := by decide +kernel
theorem dX7_init_36 : decode cX7_init 36 = .ok (.aload_n 0, 1) := by decide +kernel
theorem dX7_init_37 : decode cX7_init 37 = .ok (.dup, 1) := by decide +kernel
theorem dX7_init_38 : decode cX7_init 38 = .ok (.getfield 19, 3) := by decide +kernel
theorem dX7_init_41 : decode cX7_init 41 = .ok (.iconst 2, 1) := by decide +kernel
theorem dX7_init_42 : decode cX7_init 42 = .ok (.isub, 1) := by decide +kernel
theorem dX7_init_43 : decode cX7_init 43 = .ok (.putfield 19, 3) := by decide +kernel
theorem dX7_init_46 : decode cX7_init 46 = .ok (.aload_n 0, 1) := by decide +kernel
theorem dX7_init_47 : decode cX7_init 47 = .ok (.dup, 1) := by decide +kernel
theorem dX7_init_48 : decode cX7_init 48 = .ok (.getfield 22, 3) := by decide +kernel
theorem dX7_init_51 : decode cX7_init 51 = .ok (.iconst 1, 1) := by decide +kernel
theorem dX7_init_52 : decode cX7_init 52 = .ok (.isub, 1) := by decide +kernel
theorem dX7_init_53 : decode cX7_init 53 = .ok (.putfield 22, 3) := by decide +kernel
theorem dX7_init_56 : decode cX7_init 56 = .ok (.return_, 1) := by decide +kernel
set_option maxHeartbeats 4000000 in
set_option maxRecDepth 100000 in
theorem c_X7 (l : Launch) (D : va_G) (a ci sz : Nat) {C : String} (hC : classes[ci]? = some (C, TX4, 7)) (hin : ∀ w ∈ u_ws C TX4 7, w ∈ lw_g) (k f : Int32) : Met l yX7_init (Cond.code yX7_init cX7_init 3 none :: lw_g) ({ frames := 2, cells := 0, slots := 0, locals := 34 }) (va_Pc [.ref a, .int k, .int f] (fun U => U.heap.size = sz ∧ va_P D classes (sW a ci [.int (0), .int (0), .int (0), .int (0), .int (0), .int (0), .int (0)]) U.heap ∧ va_K D classes [] U ∧ va_D (fun _ => True) (sW a ci [.int (0), .int (0), .int (0), .int (0), .int (0), .int (0), .int (0)]))) (va_Qv (fun _ : Unit => True) (fun _ t => va_P D classes (sW a ci [.int (k), .int (f), .int (((6 + f) - 3)), .int (((1 + (f / 3)) - 1)), .int ((4 + 2)), .int ((5 - 2)), .int ((3 - 1))]) t.heap) (va_A (sW a ci [.int (0), .int (0), .int (0), .int (0), .int (0), .int (0), .int (0)]) sz)) 0 0 (va_A (sW a ci [.int (0), .int (0), .int (0), .int (0), .int (0), .int (0), .int (0)]) sz) := by
  refine Met.ofW (cc := cX7_init) (maxL := 3) (ret := none) (by decide) rfl ?_
  intro p e s m args below meth c s₁ B hml hv
  obtain ⟨rfl, hsz, hP, hK, hD0⟩ := hv
  have hx := B.exec
  have hb := B.bytes
  have hr := B.returns
  have hts0 := atoms_spec (ws := Cond.code yX7_init cX7_init 3 none :: lw_g) B.pre
  have hts := fun w (hw : w ∈ lw_g) => hts0 w (List.mem_cons_of_mem _ hw)
  have hown : s.vm.findClass RX7 = some m.cls := findClass_of_methodNamed B.named
  have hinit : meth.name = "<init>" := (name_of_methodNamed B.named B.method).1
  have hlocks := B.notSynchronized
  subst hsz
  have hD := hD0.self (sz := s.heap.size)
  generalize hAe : va_A (sW a ci [.int (0), .int (0), .int (0), .int (0), .int (0), .int (0), .int (0)]) s.heap.size = A at hD ⊢
  have hA : ∀ q : Nat, s.heap.size ≤ q → A q := fun q h => by rw [← hAe]; exact Or.inr h
  have hS : va_S A s.heap s.heap [] := va_S.rf
  have hP : va_P D classes (sW a ci [.int (0), .int (0), .int (0), .int (0), .int (0), .int (0), .int (0)]) s.heap := hP
  have hl := lv_entry ([.ref a, .int k, .int f]) (n := 3) (Nat.le_of_ble_eq_true rfl)
  rw [lg_entry_eq]
  generalize (lg_sl ([.ref a, .int k, .int f]) ++ List.replicate (3 - (lg_sl ([.ref a, .int k, .int f])).length) Slot.unset).toArray = ls at hl ⊢
  have hl : lv_has ls 3 [(0, .ref a), (1, .int k), (2, .int f)] := hl
  refine lv_aload_n hx hb dX7_init_0 rfl (lv_at hl 0 rfl) ?_
  refine lv_iload_n hx hb dX7_init_1 rfl (lv_at hl 1 rfl) ?_
  refine lv_iload_n hx hb dX7_init_2 rfl (lv_at hl 2 rfl) ?_
  have hFc := va_free (wc := (sW a ci [.int (0), .int (0), .int (0), .int (0), .int (0), .int (0), .int (0)])) hD hS hA [0] rfl
  refine va_callv (va_runI (As := [.int k, .int f]) (rest := []) ⟨hx, hb, hml, hown, hts⟩ (c_X4 l D a ci s.heap.size hC hin k f) (cwI 2 hts (goodG (List.forall_mem_cons.mpr ⟨(inG (i := 245) (by decide +kernel) rfl), fun _ h => h⟩)) rfl rfl rfl (hts (.initialized RX4) (inG (i := 42) (by decide +kernel) rfl)) (hts (.methodLink RX7 1 yX4_init) (inG (i := 347) (by decide +kernel) rfl)) (hts (.instanceMethod yX4_init) (inG (i := 244) (by decide +kernel) rfl)) rfl (by decide +kernel) ⟨Nat.le_of_ble_eq_true rfl, Nat.le_of_ble_eq_true rfl⟩) ⟨fun a U g mk q => by obtain ⟨q0, q1, qP, qK, qD⟩ := q; exact ⟨q0, q1, qP, va_K.moved (u := U) (U := U.calling g mk a) (Vm.Alike.refl U.vm) qK, qD⟩, fun U hU hW => ⟨rfl, by rw [hU], by rw [hU]; exact hP, va_K.moved hW.alike hK, hD.weaken (fun _ _ _ _ => trivial)⟩⟩ rfl rfl hl.1 rfl (lv_room (Nat.le_of_ble_eq_true rfl)) dX7_init_3 ⟨Nat.le_refl _, Nat.le_refl _⟩) hS (fun q _ h => hFc q h) hFc (fun u t H1 locs ht hvm hw hB hz1 hk1 hS => ?_)
  rw [ht] at hB
  have hD : va_D A (sW a ci [.int (k), .int (f), .int ((6 + f)), .int ((1 + (f / 3))), .int (4), .int (5), .int (3)]) := hD.set (p := 0) (e := .inr (ci, [.int (k), .int (f), .int ((6 + f)), .int ((1 + (f / 3))), .int (4), .int (5), .int (3)])) rfl
  have hP : va_P D classes (sW a ci [.int (k), .int (f), .int ((6 + f)), .int ((1 + (f / 3))), .int (4), .int (5), .int (3)]) H1 := hB
  generalize H1 = H at hP hS ⊢
  refine lv_aload_n hx hb dX7_init_6 rfl (lv_at hl 0 rfl) ?_
  refine lv_dup hx hb dX7_init_7 rfl ?_
  refine va_get (D := D) (cl := classes) (ci := ci) (C := C) (T := TX4) (N := 7) hx hb hts hin hown hK hP 0 rfl hC 2 (by decide) (hts (.fieldLink RX7 7 RX7 "weight" "I") (inG (i := 255) (by decide +kernel) rfl)) (fun x9 h9 => u_same (hts (.sameField RX7 RX4 "weight" "I") (inG (i := 256) (by decide +kernel) rfl)) x9 h9) rfl dX7_init_8 ?_
  refine lv_iconst (v := 3) hx hb dX7_init_11 (by decide) ?_
  refine lv_isub hx hb dX7_init_12 ?_
  refine va_put (D := D) (cl := classes) (ci := ci) (ty := .int) (C := C) (T := TX4) (N := 7) hx hb hts hin tyX4 tyX4_ok nmX4 hown hK hP hD hS 0 rfl hC 2 (by decide) (hts (.fieldLink RX7 7 RX7 "weight" "I") (inG (i := 255) (by decide +kernel) rfl)) (fun x9 h9 => u_same (hts (.sameField RX7 RX4 "weight" "I") (inG (i := 256) (by decide +kernel) rfl)) x9 h9) rfl (by decide +kernel) rfl rfl (Nat.le_of_ble_eq_true rfl) dX7_init_13 (fun H locs hP hD hS => ?_)
  have hP : va_P D classes (sW a ci [.int (k), .int (f), .int (((6 + f) - 3)), .int ((1 + (f / 3))), .int (4), .int (5), .int (3)]) H := hP
  have hD : va_D A (sW a ci [.int (k), .int (f), .int (((6 + f) - 3)), .int ((1 + (f / 3))), .int (4), .int (5), .int (3)]) := hD
  refine lv_aload_n hx hb dX7_init_16 rfl (lv_at hl 0 rfl) ?_
  refine lv_dup hx hb dX7_init_17 rfl ?_
  refine va_get (D := D) (cl := classes) (ci := ci) (C := C) (T := TX4) (N := 7) hx hb hts hin hown hK hP 0 rfl hC 3 (by decide) (hts (.fieldLink RX7 13 RX7 "sticks" "I") (inG (i := 272) (by decide +kernel) rfl)) (fun x9 h9 => u_same (hts (.sameField RX7 RX4 "sticks" "I") (inG (i := 273) (by decide +kernel) rfl)) x9 h9) rfl dX7_init_18 ?_
  refine lv_iconst (v := 1) hx hb dX7_init_21 (by decide) ?_
  refine lv_isub hx hb dX7_init_22 ?_
  refine va_put (D := D) (cl := classes) (ci := ci) (ty := .int) (C := C) (T := TX4) (N := 7) hx hb hts hin tyX4 tyX4_ok nmX4 hown hK hP hD hS 0 rfl hC 3 (by decide) (hts (.fieldLink RX7 13 RX7 "sticks" "I") (inG (i := 272) (by decide +kernel) rfl)) (fun x9 h9 => u_same (hts (.sameField RX7 RX4 "sticks" "I") (inG (i := 273) (by decide +kernel) rfl)) x9 h9) rfl (by decide +kernel) rfl rfl (Nat.le_of_ble_eq_true rfl) dX7_init_23 (fun H locs hP hD hS => ?_)
  have hP : va_P D classes (sW a ci [.int (k), .int (f), .int (((6 + f) - 3)), .int (((1 + (f / 3)) - 1)), .int (4), .int (5), .int (3)]) H := hP
  have hD : va_D A (sW a ci [.int (k), .int (f), .int (((6 + f) - 3)), .int (((1 + (f / 3)) - 1)), .int (4), .int (5), .int (3)]) := hD
  refine lv_aload_n hx hb dX7_init_26 rfl (lv_at hl 0 rfl) ?_
  refine lv_dup hx hb dX7_init_27 rfl ?_
  refine va_get (D := D) (cl := classes) (ci := ci) (C := C) (T := TX4) (N := 7) hx hb hts hin hown hK hP 0 rfl hC 4 (by decide) (hts (.fieldLink RX7 16 RX7 "flies" "I") (inG (i := 285) (by decide +kernel) rfl)) (fun x9 h9 => u_same (hts (.sameField RX7 RX4 "flies" "I") (inG (i := 286) (by decide +kernel) rfl)) x9 h9) rfl dX7_init_28 ?_
  refine lv_iconst (v := 2) hx hb dX7_init_31 (by decide) ?_
  refine lv_iadd hx hb dX7_init_32 ?_
  refine va_put (D := D) (cl := classes) (ci := ci) (ty := .int) (C := C) (T := TX4) (N := 7) hx hb hts hin tyX4 tyX4_ok nmX4 hown hK hP hD hS 0 rfl hC 4 (by decide) (hts (.fieldLink RX7 16 RX7 "flies" "I") (inG (i := 285) (by decide +kernel) rfl)) (fun x9 h9 => u_same (hts (.sameField RX7 RX4 "flies" "I") (inG (i := 286) (by decide +kernel) rfl)) x9 h9) rfl (by decide +kernel) rfl rfl (Nat.le_of_ble_eq_true rfl) dX7_init_33 (fun H locs hP hD hS => ?_)
  have hP : va_P D classes (sW a ci [.int (k), .int (f), .int (((6 + f) - 3)), .int (((1 + (f / 3)) - 1)), .int ((4 + 2)), .int (5), .int (3)]) H := hP
  have hD : va_D A (sW a ci [.int (k), .int (f), .int (((6 + f) - 3)), .int (((1 + (f / 3)) - 1)), .int ((4 + 2)), .int (5), .int (3)]) := hD
  refine lv_aload_n hx hb dX7_init_36 rfl (lv_at hl 0 rfl) ?_
  refine lv_dup hx hb dX7_init_37 rfl ?_
  refine va_get (D := D) (cl := classes) (ci := ci) (C := C) (T := TX4) (N := 7) hx hb hts hin hown hK hP 0 rfl hC 5 (by decide) (hts (.fieldLink RX7 19 RX7 "price" "I") (inG (i := 303) (by decide +kernel) rfl)) (fun x9 h9 => u_same (hts (.sameField RX7 RX4 "price" "I") (inG (i := 304) (by decide +kernel) rfl)) x9 h9) rfl dX7_init_38 ?_
  refine lv_iconst (v := 2) hx hb dX7_init_41 (by decide) ?_
  refine lv_isub hx hb dX7_init_42 ?_
  refine va_put (D := D) (cl := classes) (ci := ci) (ty := .int) (C := C) (T := TX4) (N := 7) hx hb hts hin tyX4 tyX4_ok nmX4 hown hK hP hD hS 0 rfl hC 5 (by decide) (hts (.fieldLink RX7 19 RX7 "price" "I") (inG (i := 303) (by decide +kernel) rfl)) (fun x9 h9 => u_same (hts (.sameField RX7 RX4 "price" "I") (inG (i := 304) (by decide +kernel) rfl)) x9 h9) rfl (by decide +kernel) rfl rfl (Nat.le_of_ble_eq_true rfl) dX7_init_43 (fun H locs hP hD hS => ?_)
  have hP : va_P D classes (sW a ci [.int (k), .int (f), .int (((6 + f) - 3)), .int (((1 + (f / 3)) - 1)), .int ((4 + 2)), .int ((5 - 2)), .int (3)]) H := hP
  have hD : va_D A (sW a ci [.int (k), .int (f), .int (((6 + f) - 3)), .int (((1 + (f / 3)) - 1)), .int ((4 + 2)), .int ((5 - 2)), .int (3)]) := hD
  refine lv_aload_n hx hb dX7_init_46 rfl (lv_at hl 0 rfl) ?_
  refine lv_dup hx hb dX7_init_47 rfl ?_
  refine va_get (D := D) (cl := classes) (ci := ci) (C := C) (T := TX4) (N := 7) hx hb hts hin hown hK hP 0 rfl hC 6 (by decide) (hts (.fieldLink RX7 22 RX7 "costs" "I") (inG (i := 320) (by decide +kernel) rfl)) (fun x9 h9 => u_same (hts (.sameField RX7 RX4 "costs" "I") (inG (i := 321) (by decide +kernel) rfl)) x9 h9) rfl dX7_init_48 ?_
  refine lv_iconst (v := 1) hx hb dX7_init_51 (by decide) ?_
  refine lv_isub hx hb dX7_init_52 ?_
  refine va_put (D := D) (cl := classes) (ci := ci) (ty := .int) (C := C) (T := TX4) (N := 7) hx hb hts hin tyX4 tyX4_ok nmX4 hown hK hP hD hS 0 rfl hC 6 (by decide) (hts (.fieldLink RX7 22 RX7 "costs" "I") (inG (i := 320) (by decide +kernel) rfl)) (fun x9 h9 => u_same (hts (.sameField RX7 RX4 "costs" "I") (inG (i := 321) (by decide +kernel) rfl)) x9 h9) rfl (by decide +kernel) rfl rfl (Nat.le_of_ble_eq_true rfl) dX7_init_53 (fun H locs hP hD hS => ?_)
  have hP : va_P D classes (sW a ci [.int (k), .int (f), .int (((6 + f) - 3)), .int (((1 + (f / 3)) - 1)), .int ((4 + 2)), .int ((5 - 2)), .int ((3 - 1))]) H := hP
  have hD : va_D A (sW a ci [.int (k), .int (f), .int (((6 + f) - 3)), .int (((1 + (f / 3)) - 1)), .int ((4 + 2)), .int ((5 - 2)), .int ((3 - 1))]) := hD
  exact W.vret hx hb hr (fun t ht hW => ⟨⟨(), rfl, trivial, by show va_P D classes _ t.heap; rw [ht]; exact hP⟩, hS.F ht⟩) hS.2.2 dX7_init_56
theorem dX2_init_0 : decode cX2_init 0 = .ok (.aload_n 0, 1) := by decide +kernel
theorem dX2_init_1 : decode cX2_init 1 = .ok (.iload_n 1, 1) := by decide +kernel
theorem dX2_init_2 : decode cX2_init 2 = .ok (.iload_n 2, 1) := by decide +kernel
theorem dX2_init_3 : decode cX2_init 3 = .ok (.invokespecial 1, 3) := by decide +kernel
theorem dX2_init_6 : decode cX2_init 6 = .ok (.aload_n 0, 1) := by decide +kernel
theorem dX2_init_7 : decode cX2_init 7 = .ok (.dup, 1) := by decide +kernel
theorem dX2_init_8 : decode cX2_init 8 = .ok (.getfield 7, 3) := by decide +kernel
theorem dX2_init_11 : decode cX2_init 11 = .ok (.iconst 4, 1) := by decide +kernel
theorem dX2_init_12 : decode cX2_init 12 = .ok (.iadd, 1) := by decide +kernel
theorem dX2_init_13 : decode cX2_init 13 = .ok (.putfield 7, 3) := by decide +kernel
theorem dX2_init_16 : decode cX2_init 16 = .ok (.aload_n 0, 1) := by decide +kernel
theorem dX2_init_17 : decode cX2_init 17 = .ok (.dup, 1) := by decide +kernel
theorem dX2_init_18 : decode cX2_init 18 = .ok (.getfield 13, 3) := by decide +kernel
theorem dX2_init_21 : decode cX2_init 21 = .ok (.iconst 2, 1) := by decide +kernel
theorem dX2_init_22 : decode cX2_init 22 = .ok (.iadd, 1) := by decide +kernel
theorem dX2_init_23 : decode cX2_init 23 = .ok (.putfield 13, 3) := by decide +kernel
theorem dX2_init_26 : decode cX2_init 26 = .ok (.aload_n 0, 1) := by decide +kernel
theorem dX2_init_27 : decode cX2_init 27 = .ok (.dup, 1) := by decide +kernel
theorem dX2_init_28 : decode cX2_init 28 = .ok (.getfield 16, 3) := by decide +kernel
theorem dX2_init_31 : decode cX2_init 31 = .ok (.iconst 1, 1) := by decide +kernel
theorem dX2_init_32 : decode cX2_init 32 = .ok (.isub, 1) := by decide +kernel
theorem dX2_init_33 : decode cX2_init 33 = .ok (.putfield 16, 3) := by decide +kernel
theorem dX2_init_36 : decode cX2_init 36 = .ok (.aload_n 0, 1) := by decide +kernel
theorem dX2_init_37 : decode cX2_init 37 = .ok (.dup, 1) := by decide +kernel
theorem dX2_init_38 : decode cX2_init 38 = .ok (.getfield 19, 3) := by decide +kernel
theorem dX2_init_41 : decode cX2_init 41 = .ok (.iload_n 2, 1) := by decide +kernel
theorem dX2_init_42 : decode cX2_init 42 = .ok (.iadd, 1) := by decide +kernel
theorem dX2_init_43 : decode cX2_init 43 = .ok (.putfield 19, 3) := by decide +kernel
theorem dX2_init_46 : decode cX2_init 46 = .ok (.aload_n 0, 1) := by decide +kernel
theorem dX2_init_47 : decode cX2_init 47 = .ok (.dup, 1) := by decide +kernel
theorem dX2_init_48 : decode cX2_init 48 = .ok (.getfield 22, 3) := by decide +kernel
theorem dX2_init_51 : decode cX2_init 51 = .ok (.iload_n 2, 1) := by decide +kernel
theorem dX2_init_52 : decode cX2_init 52 = .ok (.iadd, 1) := by decide +kernel
theorem dX2_init_53 : decode cX2_init 53 = .ok (.putfield 22, 3) := by decide +kernel
theorem dX2_init_56 : decode cX2_init 56 = .ok (.return_, 1) := by decide +kernel
set_option maxHeartbeats 4000000 in
set_option maxRecDepth 100000 in
theorem c_X2 (l : Launch) (D : va_G) (a ci sz : Nat) {C : String} (hC : classes[ci]? = some (C, TX4, 7)) (hin : ∀ w ∈ u_ws C TX4 7, w ∈ lw_g) (k f : Int32) : Met l yX2_init (Cond.code yX2_init cX2_init 3 none :: lw_g) ({ frames := 2, cells := 0, slots := 0, locals := 34 }) (va_Pc [.ref a, .int k, .int f] (fun U => U.heap.size = sz ∧ va_P D classes (sW a ci [.int (0), .int (0), .int (0), .int (0), .int (0), .int (0), .int (0)]) U.heap ∧ va_K D classes [] U ∧ va_D (fun _ => True) (sW a ci [.int (0), .int (0), .int (0), .int (0), .int (0), .int (0), .int (0)]))) (va_Qv (fun _ : Unit => True) (fun _ t => va_P D classes (sW a ci [.int (k), .int (f), .int (((6 + f) + 4)), .int (((1 + (f / 3)) + 2)), .int ((4 - 1)), .int ((5 + f)), .int ((3 + f))]) t.heap) (va_A (sW a ci [.int (0), .int (0), .int (0), .int (0), .int (0), .int (0), .int (0)]) sz)) 0 0 (va_A (sW a ci [.int (0), .int (0), .int (0), .int (0), .int (0), .int (0), .int (0)]) sz) := by
  refine Met.ofW (cc := cX2_init) (maxL := 3) (ret := none) (by decide) rfl ?_
  intro p e s m args below meth c s₁ B hml hv
  obtain ⟨rfl, hsz, hP, hK, hD0⟩ := hv
  have hx := B.exec
  have hb := B.bytes
  have hr := B.returns
  have hts0 := atoms_spec (ws := Cond.code yX2_init cX2_init 3 none :: lw_g) B.pre
  have hts := fun w (hw : w ∈ lw_g) => hts0 w (List.mem_cons_of_mem _ hw)
  have hown : s.vm.findClass RX2 = some m.cls := findClass_of_methodNamed B.named
  have hinit : meth.name = "<init>" := (name_of_methodNamed B.named B.method).1
  have hlocks := B.notSynchronized
  subst hsz
  have hD := hD0.self (sz := s.heap.size)
  generalize hAe : va_A (sW a ci [.int (0), .int (0), .int (0), .int (0), .int (0), .int (0), .int (0)]) s.heap.size = A at hD ⊢
  have hA : ∀ q : Nat, s.heap.size ≤ q → A q := fun q h => by rw [← hAe]; exact Or.inr h
  have hS : va_S A s.heap s.heap [] := va_S.rf
  have hP : va_P D classes (sW a ci [.int (0), .int (0), .int (0), .int (0), .int (0), .int (0), .int (0)]) s.heap := hP
  have hl := lv_entry ([.ref a, .int k, .int f]) (n := 3) (Nat.le_of_ble_eq_true rfl)
  rw [lg_entry_eq]
  generalize (lg_sl ([.ref a, .int k, .int f]) ++ List.replicate (3 - (lg_sl ([.ref a, .int k, .int f])).length) Slot.unset).toArray = ls at hl ⊢
  have hl : lv_has ls 3 [(0, .ref a), (1, .int k), (2, .int f)] := hl
  refine lv_aload_n hx hb dX2_init_0 rfl (lv_at hl 0 rfl) ?_
  refine lv_iload_n hx hb dX2_init_1 rfl (lv_at hl 1 rfl) ?_
  refine lv_iload_n hx hb dX2_init_2 rfl (lv_at hl 2 rfl) ?_
  have hFc := va_free (wc := (sW a ci [.int (0), .int (0), .int (0), .int (0), .int (0), .int (0), .int (0)])) hD hS hA [0] rfl
  refine va_callv (va_runI (As := [.int k, .int f]) (rest := []) ⟨hx, hb, hml, hown, hts⟩ (c_X4 l D a ci s.heap.size hC hin k f) (cwI 2 hts (goodG (List.forall_mem_cons.mpr ⟨(inG (i := 245) (by decide +kernel) rfl), fun _ h => h⟩)) rfl rfl rfl (hts (.initialized RX4) (inG (i := 42) (by decide +kernel) rfl)) (hts (.methodLink RX2 1 yX4_init) (inG (i := 361) (by decide +kernel) rfl)) (hts (.instanceMethod yX4_init) (inG (i := 244) (by decide +kernel) rfl)) rfl (by decide +kernel) ⟨Nat.le_of_ble_eq_true rfl, Nat.le_of_ble_eq_true rfl⟩) ⟨fun a U g mk q => by obtain ⟨q0, q1, qP, qK, qD⟩ := q; exact ⟨q0, q1, qP, va_K.moved (u := U) (U := U.calling g mk a) (Vm.Alike.refl U.vm) qK, qD⟩, fun U hU hW => ⟨rfl, by rw [hU], by rw [hU]; exact hP, va_K.moved hW.alike hK, hD.weaken (fun _ _ _ _ => trivial)⟩⟩ rfl rfl hl.1 rfl (lv_room (Nat.le_of_ble_eq_true rfl)) dX2_init_3 ⟨Nat.le_refl _, Nat.le_refl _⟩) hS (fun q _ h => hFc q h) hFc (fun u t H1 locs ht hvm hw hB hz1 hk1 hS => ?_)
  rw [ht] at hB
  have hD : va_D A (sW a ci [.int (k), .int (f), .int ((6 + f)), .int ((1 + (f / 3))), .int (4), .int (5), .int (3)]) := hD.set (p := 0) (e := .inr (ci, [.int (k), .int (f), .int ((6 + f)), .int ((1 + (f / 3))), .int (4), .int (5), .int (3)])) rfl
  have hP : va_P D classes (sW a ci [.int (k), .int (f), .int ((6 + f)), .int ((1 + (f / 3))), .int (4), .int (5), .int (3)]) H1 := hB
  generalize H1 = H at hP hS ⊢
  refine lv_aload_n hx hb dX2_init_6 rfl (lv_at hl 0 rfl) ?_
  refine lv_dup hx hb dX2_init_7 rfl ?_
  refine va_get (D := D) (cl := classes) (ci := ci) (C := C) (T := TX4) (N := 7) hx hb hts hin hown hK hP 0 rfl hC 2 (by decide) (hts (.fieldLink RX2 7 RX2 "weight" "I") (inG (i := 257) (by decide +kernel) rfl)) (fun x9 h9 => u_same (hts (.sameField RX2 RX4 "weight" "I") (inG (i := 258) (by decide +kernel) rfl)) x9 h9) rfl dX2_init_8 ?_
  refine lv_iconst (v := 4) hx hb dX2_init_11 (by decide) ?_
  refine lv_iadd hx hb dX2_init_12 ?_
  refine va_put (D := D) (cl := classes) (ci := ci) (ty := .int) (C := C) (T := TX4) (N := 7) hx hb hts hin tyX4 tyX4_ok nmX4 hown hK hP hD hS 0 rfl hC 2 (by decide) (hts (.fieldLink RX2 7 RX2 "weight" "I") (inG (i := 257) (by decide +kernel) rfl)) (fun x9 h9 => u_same (hts (.sameField RX2 RX4 "weight" "I") (inG (i := 258) (by decide +kernel) rfl)) x9 h9) rfl (by decide +kernel) rfl rfl (Nat.le_of_ble_eq_true rfl) dX2_init_13 (fun H locs hP hD hS => ?_)
  have hP : va_P D classes (sW a ci [.int (k), .int (f), .int (((6 + f) + 4)), .int ((1 + (f / 3))), .int (4), .int (5), .int (3)]) H := hP
  have hD : va_D A (sW a ci [.int (k), .int (f), .int (((6 + f) + 4)), .int ((1 + (f / 3))), .int (4), .int (5), .int (3)]) := hD
  refine lv_aload_n hx hb dX2_init_16 rfl (lv_at hl 0 rfl) ?_
  refine lv_dup hx hb dX2_init_17 rfl ?_
  refine va_get (D := D) (cl := classes) (ci := ci) (C := C) (T := TX4) (N := 7) hx hb hts hin hown hK hP 0 rfl hC 3 (by decide) (hts (.fieldLink RX2 13 RX2 "sticks" "I") (inG (i := 274) (by decide +kernel) rfl)) (fun x9 h9 => u_same (hts (.sameField RX2 RX4 "sticks" "I") (inG (i := 275) (by decide +kernel) rfl)) x9 h9) rfl dX2_init_18 ?_
  refine lv_iconst (v := 2) hx hb dX2_init_21 (by decide) ?_
  refine lv_iadd hx hb dX2_init_22 ?_
  refine va_put (D := D) (cl := classes) (ci := ci) (ty := .int) (C := C) (T := TX4) (N := 7) hx hb hts hin tyX4 tyX4_ok nmX4 hown hK hP hD hS 0 rfl hC 3 (by decide) (hts (.fieldLink RX2 13 RX2 "sticks" "I") (inG (i := 274) (by decide +kernel) rfl)) (fun x9 h9 => u_same (hts (.sameField RX2 RX4 "sticks" "I") (inG (i := 275) (by decide +kernel) rfl)) x9 h9) rfl (by decide +kernel) rfl rfl (Nat.le_of_ble_eq_true rfl) dX2_init_23 (fun H locs hP hD hS => ?_)
  have hP : va_P D classes (sW a ci [.int (k), .int (f), .int (((6 + f) + 4)), .int (((1 + (f / 3)) + 2)), .int (4), .int (5), .int (3)]) H := hP
  have hD : va_D A (sW a ci [.int (k), .int (f), .int (((6 + f) + 4)), .int (((1 + (f / 3)) + 2)), .int (4), .int (5), .int (3)]) := hD
  refine lv_aload_n hx hb dX2_init_26 rfl (lv_at hl 0 rfl) ?_
  refine lv_dup hx hb dX2_init_27 rfl ?_
  refine va_get (D := D) (cl := classes) (ci := ci) (C := C) (T := TX4) (N := 7) hx hb hts hin hown hK hP 0 rfl hC 4 (by decide) (hts (.fieldLink RX2 16 RX2 "flies" "I") (inG (i := 287) (by decide +kernel) rfl)) (fun x9 h9 => u_same (hts (.sameField RX2 RX4 "flies" "I") (inG (i := 288) (by decide +kernel) rfl)) x9 h9) rfl dX2_init_28 ?_
  refine lv_iconst (v := 1) hx hb dX2_init_31 (by decide) ?_
  refine lv_isub hx hb dX2_init_32 ?_
  refine va_put (D := D) (cl := classes) (ci := ci) (ty := .int) (C := C) (T := TX4) (N := 7) hx hb hts hin tyX4 tyX4_ok nmX4 hown hK hP hD hS 0 rfl hC 4 (by decide) (hts (.fieldLink RX2 16 RX2 "flies" "I") (inG (i := 287) (by decide +kernel) rfl)) (fun x9 h9 => u_same (hts (.sameField RX2 RX4 "flies" "I") (inG (i := 288) (by decide +kernel) rfl)) x9 h9) rfl (by decide +kernel) rfl rfl (Nat.le_of_ble_eq_true rfl) dX2_init_33 (fun H locs hP hD hS => ?_)
  have hP : va_P D classes (sW a ci [.int (k), .int (f), .int (((6 + f) + 4)), .int (((1 + (f / 3)) + 2)), .int ((4 - 1)), .int (5), .int (3)]) H := hP
  have hD : va_D A (sW a ci [.int (k), .int (f), .int (((6 + f) + 4)), .int (((1 + (f / 3)) + 2)), .int ((4 - 1)), .int (5), .int (3)]) := hD
  refine lv_aload_n hx hb dX2_init_36 rfl (lv_at hl 0 rfl) ?_
  refine lv_dup hx hb dX2_init_37 rfl ?_
  refine va_get (D := D) (cl := classes) (ci := ci) (C := C) (T := TX4) (N := 7) hx hb hts hin hown hK hP 0 rfl hC 5 (by decide) (hts (.fieldLink RX2 19 RX2 "price" "I") (inG (i := 305) (by decide +kernel) rfl)) (fun x9 h9 => u_same (hts (.sameField RX2 RX4 "price" "I") (inG (i := 306) (by decide +kernel) rfl)) x9 h9) rfl dX2_init_38 ?_
  refine lv_iload_n hx hb dX2_init_41 rfl (lv_at hl 2 rfl) ?_
  refine lv_iadd hx hb dX2_init_42 ?_
  refine va_put (D := D) (cl := classes) (ci := ci) (ty := .int) (C := C) (T := TX4) (N := 7) hx hb hts hin tyX4 tyX4_ok nmX4 hown hK hP hD hS 0 rfl hC 5 (by decide) (hts (.fieldLink RX2 19 RX2 "price" "I") (inG (i := 305) (by decide +kernel) rfl)) (fun x9 h9 => u_same (hts (.sameField RX2 RX4 "price" "I") (inG (i := 306) (by decide +kernel) rfl)) x9 h9) rfl (by decide +kernel) rfl rfl (Nat.le_of_ble_eq_true rfl) dX2_init_43 (fun H locs hP hD hS => ?_)
  have hP : va_P D classes (sW a ci [.int (k), .int (f), .int (((6 + f) + 4)), .int (((1 + (f / 3)) + 2)), .int ((4 - 1)), .int ((5 + f)), .int (3)]) H := hP
  have hD : va_D A (sW a ci [.int (k), .int (f), .int (((6 + f) + 4)), .int (((1 + (f / 3)) + 2)), .int ((4 - 1)), .int ((5 + f)), .int (3)]) := hD
  refine lv_aload_n hx hb dX2_init_46 rfl (lv_at hl 0 rfl) ?_
  refine lv_dup hx hb dX2_init_47 rfl ?_
  refine va_get (D := D) (cl := classes) (ci := ci) (C := C) (T := TX4) (N := 7) hx hb hts hin hown hK hP 0 rfl hC 6 (by decide) (hts (.fieldLink RX2 22 RX2 "costs" "I") (inG (i := 322) (by decide +kernel) rfl)) (fun x9 h9 => u_same (hts (.sameField RX2 RX4 "costs" "I") (inG (i := 323) (by decide +kernel) rfl)) x9 h9) rfl dX2_init_48 ?_
  refine lv_iload_n hx hb dX2_init_51 rfl (lv_at hl 2 rfl) ?_
  refine lv_iadd hx hb dX2_init_52 ?_
  refine va_put (D := D) (cl := classes) (ci := ci) (ty := .int) (C := C) (T := TX4) (N := 7) hx hb hts hin tyX4 tyX4_ok nmX4 hown hK hP hD hS 0 rfl hC 6 (by decide) (hts (.fieldLink RX2 22 RX2 "costs" "I") (inG (i := 322) (by decide +kernel) rfl)) (fun x9 h9 => u_same (hts (.sameField RX2 RX4 "costs" "I") (inG (i := 323) (by decide +kernel) rfl)) x9 h9) rfl (by decide +kernel) rfl rfl (Nat.le_of_ble_eq_true rfl) dX2_init_53 (fun H locs hP hD hS => ?_)
  have hP : va_P D classes (sW a ci [.int (k), .int (f), .int (((6 + f) + 4)), .int (((1 + (f / 3)) + 2)), .int ((4 - 1)), .int ((5 + f)), .int ((3 + f))]) H := hP
  have hD : va_D A (sW a ci [.int (k), .int (f), .int (((6 + f) + 4)), .int (((1 + (f / 3)) + 2)), .int ((4 - 1)), .int ((5 + f)), .int ((3 + f))]) := hD
  exact W.vret hx hb hr (fun t ht hW => ⟨⟨(), rfl, trivial, by show va_P D classes _ t.heap; rw [ht]; exact hP⟩, hS.F ht⟩) hS.2.2 dX2_init_56
theorem dX0_init_0 : decode cX0_init 0 = .ok (.aload_n 0, 1) := by decide +kernel
theorem dX0_init_1 : decode cX0_init 1 = .ok (.iload_n 1, 1) := by decide +kernel
theorem dX0_init_2 : decode cX0_init 2 = .ok (.iload_n 2, 1) := by decide +kernel
theorem dX0_init_3 : decode cX0_init 3 = .ok (.invokespecial 1, 3) := by decide +kernel
theorem dX0_init_6 : decode cX0_init 6 = .ok (.aload_n 0, 1) := by decide +kernel
theorem dX0_init_7 : decode cX0_init 7 = .ok (.iconst 2, 1) := by decide +kernel
theorem dX0_init_8 : decode cX0_init 8 = .ok (.putfield 7, 3) := by decide +kernel
theorem dX0_init_11 : decode cX0_init 11 = .ok (.aload_n 0, 1) := by decide +kernel
theorem dX0_init_12 : decode cX0_init 12 = .ok (.iconst 0, 1) := by decide +kernel
theorem dX0_init_13 : decode cX0_init 13 = .ok (.putfield 13, 3) := by decide +kernel
theorem dX0_init_16 : decode cX0_init 16 = .ok (.aload_n 0, 1) := by decide +kernel
theorem dX0_init_17 : decode cX0_init 17 = .ok (.dup, 1) := by decide +kernel
theorem dX0_init_18 : decode cX0_init 18 = .ok (.getfield 16, 3) := by decide +kernel
theorem dX0_init_21 : decode cX0_init 21 = .ok (.iconst 3, 1) := by decide +kernel
theorem dX0_init_22 : decode cX0_init 22 = .ok (.iadd, 1) := by decide +kernel
theorem dX0_init_23 : decode cX0_init 23 = .ok (.putfield 16, 3) := by decide +kernel
theorem dX0_init_26 : decode cX0_init 26 = .ok (.aload_n 0, 1) := by decide +kernel
theorem dX0_init_27 : decode cX0_init 27 = .ok (.dup, 1) := by decide +kernel
theorem dX0_init_28 : decode cX0_init 28 = .ok (.getfield 19, 3) := by decide +kernel
theorem dX0_init_31 : decode cX0_init 31 = .ok (.iconst 4, 1) := by decide +kernel
theorem dX0_init_32 : decode cX0_init 32 = .ok (.isub, 1) := by decide +kernel
theorem dX0_init_33 : decode cX0_init 33 = .ok (.putfield 19, 3) := by decide +kernel
theorem dX0_init_36 : decode cX0_init 36 = .ok (.aload_n 0, 1) := by decide +kernel
theorem dX0_init_37 : decode cX0_init 37 = .ok (.dup, 1) := by decide +kernel
theorem dX0_init_38 : decode cX0_init 38 = .ok (.getfield 22, 3) := by decide +kernel
theorem dX0_init_41 : decode cX0_init 41 = .ok (.iconst 2, 1) := by decide +kernel
theorem dX0_init_42 : decode cX0_init 42 = .ok (.isub, 1) := by decide +kernel
theorem dX0_init_43 : decode cX0_init 43 = .ok (.putfield 22, 3) := by decide +kernel
theorem dX0_init_46 : decode cX0_init 46 = .ok (.return_, 1) := by decide +kernel
set_option maxHeartbeats 4000000 in
set_option maxRecDepth 100000 in
theorem c_X0 (l : Launch) (D : va_G) (a ci sz : Nat) {C : String} (hC : classes[ci]? = some (C, TX4, 7)) (hin : ∀ w ∈ u_ws C TX4 7, w ∈ lw_g) (k f : Int32) : Met l yX0_init (Cond.code yX0_init cX0_init 3 none :: lw_g) ({ frames := 2, cells := 0, slots := 0, locals := 34 }) (va_Pc [.ref a, .int k, .int f] (fun U => U.heap.size = sz ∧ va_P D classes (sW a ci [.int (0), .int (0), .int (0), .int (0), .int (0), .int (0), .int (0)]) U.heap ∧ va_K D classes [] U ∧ va_D (fun _ => True) (sW a ci [.int (0), .int (0), .int (0), .int (0), .int (0), .int (0), .int (0)]))) (va_Qv (fun _ : Unit => True) (fun _ t => va_P D classes (sW a ci [.int (k), .int (f), .int (2), .int (0), .int ((4 + 3)), .int ((5 - 4)), .int ((3 - 2))]) t.heap) (va_A (sW a ci [.int (0), .int (0), .int (0), .int (0), .int (0), .int (0), .int (0)]) sz)) 0 0 (va_A (sW a ci [.int (0), .int (0), .int (0), .int (0), .int (0), .int (0), .int (0)]) sz) := by
  refine Met.ofW (cc := cX0_init) (maxL := 3) (ret := none) (by decide) rfl ?_
  intro p e s m args below meth c s₁ B hml hv
  obtain ⟨rfl, hsz, hP, hK, hD0⟩ := hv
  have hx := B.exec
  have hb := B.bytes
  have hr := B.returns
  have hts0 := atoms_spec (ws := Cond.code yX0_init cX0_init 3 none :: lw_g) B.pre
  have hts := fun w (hw : w ∈ lw_g) => hts0 w (List.mem_cons_of_mem _ hw)
  have hown : s.vm.findClass RX0 = some m.cls := findClass_of_methodNamed B.named
  have hinit : meth.name = "<init>" := (name_of_methodNamed B.named B.method).1
  have hlocks := B.notSynchronized
  subst hsz
  have hD := hD0.self (sz := s.heap.size)
  generalize hAe : va_A (sW a ci [.int (0), .int (0), .int (0), .int (0), .int (0), .int (0), .int (0)]) s.heap.size = A at hD ⊢
  have hA : ∀ q : Nat, s.heap.size ≤ q → A q := fun q h => by rw [← hAe]; exact Or.inr h
  have hS : va_S A s.heap s.heap [] := va_S.rf
  have hP : va_P D classes (sW a ci [.int (0), .int (0), .int (0), .int (0), .int (0), .int (0), .int (0)]) s.heap := hP
  have hl := lv_entry ([.ref a, .int k, .int f]) (n := 3) (Nat.le_of_ble_eq_true rfl)
  rw [lg_entry_eq]
  generalize (lg_sl ([.ref a, .int k, .int f]) ++ List.replicate (3 - (lg_sl ([.ref a, .int k, .int f])).length) Slot.unset).toArray = ls at hl ⊢
  have hl : lv_has ls 3 [(0, .ref a), (1, .int k), (2, .int f)] := hl
  refine lv_aload_n hx hb dX0_init_0 rfl (lv_at hl 0 rfl) ?_
  refine lv_iload_n hx hb dX0_init_1 rfl (lv_at hl 1 rfl) ?_
  refine lv_iload_n hx hb dX0_init_2 rfl (lv_at hl 2 rfl) ?_
  have hFc := va_free (wc := (sW a ci [.int (0), .int (0), .int (0), .int (0), .int (0), .int (0), .int (0)])) hD hS hA [0] rfl
  refine va_callv (va_runI (As := [.int k, .int f]) (rest := []) ⟨hx, hb, hml, hown, hts⟩ (c_X4 l D a ci s.heap.size hC hin k f) (cwI 2 hts (goodG (List.forall_mem_cons.mpr ⟨(inG (i := 245) (by decide +kernel) rfl), fun _ h => h⟩)) rfl rfl rfl (hts (.initialized RX4) (inG (i := 42) (by decide +kernel) rfl)) (hts (.methodLink RX0 1 yX4_init) (inG (i := 431) (by decide +kernel) rfl)) (hts (.instanceMethod yX4_init) (inG (i := 244) (by decide +kernel) rfl)) rfl (by decide +kernel) ⟨Nat.le_of_ble_eq_true rfl, Nat.le_of_ble_eq_true rfl⟩) ⟨fun a U g mk q => by obtain ⟨q0, q1, qP, qK, qD⟩ := q; exact ⟨q0, q1, qP, va_K.moved (u := U) (U := U.calling g mk a) (Vm.Alike.refl U.vm) qK, qD⟩, fun U hU hW => ⟨rfl, by rw [hU], by rw [hU]; exact hP, va_K.moved hW.alike hK, hD.weaken (fun _ _ _ _ => trivial)⟩⟩ rfl rfl hl.1 rfl (lv_room (Nat.le_of_ble_eq_true rfl)) dX0_init_3 ⟨Nat.le_refl _, Nat.le_refl _⟩) hS (fun q _ h => hFc q h) hFc (fun u t H1 locs ht hvm hw hB hz1 hk1 hS => ?_)
  rw [ht] at hB
  have hD : va_D A (sW a ci [.int (k), .int (f), .int ((6 + f)), .int ((1 + (f / 3))), .int (4), .int (5), .int (3)]) := hD.set (p := 0) (e := .inr (ci, [.int (k), .int (f), .int ((6 + f)), .int ((1 + (f / 3))), .int (4), .int (5), .int (3)])) rfl
  have hP : va_P D classes (sW a ci [.int (k), .int (f), .int ((6 + f)), .int ((1 + (f / 3))), .int (4), .int (5), .int (3)]) H1 := hB
  generalize H1 = H at hP hS ⊢
  refine lv_aload_n hx hb dX0_init_6 rfl (lv_at hl 0 rfl) ?_
  refine lv_iconst (v := 2) hx hb dX0_init_7 (by decide) ?_
  refine va_put (D := D) (cl := classes) (ci := ci) (ty := .int) (C := C) (T := TX4) (N := 7) hx hb hts hin tyX4 tyX4_ok nmX4 hown hK hP hD hS 0 rfl hC 2 (by decide) (hts (.fieldLink RX0 7 RX0 "weight" "I") (inG (i := 263) (by decide +kernel) rfl)) (fun x9 h9 => u_same (hts (.sameField RX0 RX4 "weight" "I") (inG (i := 264) (by decide +kernel) rfl)) x9 h9) rfl (by decide +kernel) rfl rfl (Nat.le_of_ble_eq_true rfl) dX0_init_8 (fun H locs hP hD hS => ?_)
  have hP : va_P D classes (sW a ci [.int (k), .int (f), .int (2), .int ((1 + (f / 3))), .int (4), .int (5), .int (3)]) H := hP
  have hD : va_D A (sW a ci [.int (k), .int (f), .int (2), .int ((1 + (f / 3))), .int (4), .int (5), .int (3)]) := hD
  refine lv_aload_n hx hb dX0_init_11 rfl (lv_at hl 0 rfl) ?_
  refine lv_iconst (v := 0) hx hb dX0_init_12 (by decide) ?_
  refine va_put (D := D) (cl := classes) (ci := ci) (ty := .int) (C := C) (T := TX4) (N := 7) hx hb hts hin tyX4 tyX4_ok nmX4 hown hK hP hD hS 0 rfl hC 3 (by decide) (hts (.fieldLink RX0 13 RX0 "sticks" "I") (inG (i := 270) (by decide +kernel) rfl)) (fun x9 h9 => u_same (hts (.sameField RX0 RX4 "sticks" "I") (inG (i := 271) (by decide +kernel) rfl)) x9 h9) rfl (by decide +kernel) rfl rfl (Nat.le_of_ble_eq_true rfl) dX0_init_13 (fun H locs hP hD hS => ?_)
  have hP : va_P D classes (sW a ci [.int (k), .int (f), .int (2), .int (0), .int (4), .int (5), .int (3)]) H := hP
  have hD : va_D A (sW a ci [.int (k), .int (f), .int (2), .int (0), .int (4), .int (5), .int (3)]) := hD
  refine lv_aload_n hx hb dX0_init_16 rfl (lv_at hl 0 rfl) ?_
  refine lv_dup hx hb dX0_init_17 rfl ?_
  refine va_get (D := D) (cl := classes) (ci := ci) (C := C) (T := TX4) (N := 7) hx hb hts hin hown hK hP 0 rfl hC 4 (by decide) (hts (.fieldLink RX0 16 RX0 "flies" "I") (inG (i := 283) (by decide +kernel) rfl)) (fun x9 h9 => u_same (hts (.sameField RX0 RX4 "flies" "I") (inG (i := 284) (by decide +kernel) rfl)) x9 h9) rfl dX0_init_18 ?_
  refine lv_iconst (v := 3) hx hb dX0_init_21 (by decide) ?_
  refine lv_iadd hx hb dX0_init_22 ?_
  refine va_put (D := D) (cl := classes) (ci := ci) (ty := .int) (C := C) (T := TX4) (N := 7) hx hb hts hin tyX4 tyX4_ok nmX4 hown hK hP hD hS 0 rfl hC 4 (by decide) (hts (.fieldLink RX0 16 RX0 "flies" "I") (inG (i := 283) (by decide +kernel) rfl)) (fun x9 h9 => u_same (hts (.sameField RX0 RX4 "flies" "I") (inG (i := 284) (by decide +kernel) rfl)) x9 h9) rfl (by decide +kernel) rfl rfl (Nat.le_of_ble_eq_true rfl) dX0_init_23 (fun H locs hP hD hS => ?_)
  have hP : va_P D classes (sW a ci [.int (k), .int (f), .int (2), .int (0), .int ((4 + 3)), .int (5), .int (3)]) H := hP
  have hD : va_D A (sW a ci [.int (k), .int (f), .int (2), .int (0), .int ((4 + 3)), .int (5), .int (3)]) := hD
  refine lv_aload_n hx hb dX0_init_26 rfl (lv_at hl 0 rfl) ?_
  refine lv_dup hx hb dX0_init_27 rfl ?_
  refine va_get (D := D) (cl := classes) (ci := ci) (C := C) (T := TX4) (N := 7) hx hb hts hin hown hK hP 0 rfl hC 5 (by decide) (hts (.fieldLink RX0 19 RX0 "price" "I") (inG (i := 300) (by decide +kernel) rfl)) (fun x9 h9 => u_same (hts (.sameField RX0 RX4 "price" "I") (inG (i := 301) (by decide +kernel) rfl)) x9 h9) rfl dX0_init_28 ?_
  refine lv_iconst (v := 4) hx hb dX0_init_31 (by decide) ?_
  refine lv_isub hx hb dX0_init_32 ?_
  refine va_put (D := D) (cl := classes) (ci := ci) (ty := .int) (C := C) (T := TX4) (N := 7) hx hb hts hin tyX4 tyX4_ok nmX4 hown hK hP hD hS 0 rfl hC 5 (by decide) (hts (.fieldLink RX0 19 RX0 "price" "I") (inG (i := 300) (by decide +kernel) rfl)) (fun x9 h9 => u_same (hts (.sameField RX0 RX4 "price" "I") (inG (i := 301) (by decide +kernel) rfl)) x9 h9) rfl (by decide +kernel) rfl rfl (Nat.le_of_ble_eq_true rfl) dX0_init_33 (fun H locs hP hD hS => ?_)
  have hP : va_P D classes (sW a ci [.int (k), .int (f), .int (2), .int (0), .int ((4 + 3)), .int ((5 - 4)), .int (3)]) H := hP
  have hD : va_D A (sW a ci [.int (k), .int (f), .int (2), .int (0), .int ((4 + 3)), .int ((5 - 4)), .int (3)]) := hD
  refine lv_aload_n hx hb dX0_init_36 rfl (lv_at hl 0 rfl) ?_
  refine lv_dup hx hb dX0_init_37 rfl ?_
  refine va_get (D := D) (cl := classes) (ci := ci) (C := C) (T := TX4) (N := 7) hx hb hts hin hown hK hP 0 rfl hC 6 (by decide) (hts (.fieldLink RX0 22 RX0 "costs" "I") (inG (i := 317) (by decide +kernel) rfl)) (fun x9 h9 => u_same (hts (.sameField RX0 RX4 "costs" "I") (inG (i := 318) (by decide +kernel) rfl)) x9 h9) rfl dX0_init_38 ?_
  refine lv_iconst (v := 2) hx hb dX0_init_41 (by decide) ?_
  refine lv_isub hx hb dX0_init_42 ?_
  refine va_put (D := D) (cl := classes) (ci := ci) (ty := .int) (C := C) (T := TX4) (N := 7) hx hb hts hin tyX4 tyX4_ok nmX4 hown hK hP hD hS 0 rfl hC 6 (by decide) (hts (.fieldLink RX0 22 RX0 "costs" "I") (inG (i := 317) (by decide +kernel) rfl)) (fun x9 h9 => u_same (hts (.sameField RX0 RX4 "costs" "I") (inG (i := 318) (by decide +kernel) rfl)) x9 h9) rfl (by decide +kernel) rfl rfl (Nat.le_of_ble_eq_true rfl) dX0_init_43 (fun H locs hP hD hS => ?_)
  have hP : va_P D classes (sW a ci [.int (k), .int (f), .int (2), .int (0), .int ((4 + 3)), .int ((5 - 4)), .int ((3 - 2))]) H := hP
  have hD : va_D A (sW a ci [.int (k), .int (f), .int (2), .int (0), .int ((4 + 3)), .int ((5 - 4)), .int ((3 - 2))]) := hD
  exact W.vret hx hb hr (fun t ht hW => ⟨⟨(), rfl, trivial, by show va_P D classes _ t.heap; rw [ht]; exact hP⟩, hS.F ht⟩) hS.2.2 dX0_init_46
theorem dX3_init_0 : decode cX3_init 0 = .ok (.aload_n 0, 1) := by decide +kernel
theorem dX3_init_1 : decode cX3_init 1 = .ok (.iload_n 1, 1) := by decide +kernel
theorem dX3_init_2 : decode cX3_init 2 = .ok (.iload_n 2, 1) := by decide +kernel
theorem dX3_init_3 : decode cX3_init 3 = .ok (.invokespecial 1, 3) := by decide +kernel
theorem dX3_init_6 : decode cX3_init 6 = .ok (.aload_n 0, 1) := by decide +kernel
theorem dX3_init_7 : decode cX3_init 7 = .ok (.dup, 1) := by decide +kernel
theorem dX3_init_8 : decode cX3_init 8 = .ok (.getfield 7, 3) := by decide +kernel
theorem dX3_init_11 : decode cX3_init 11 = .ok (.iconst 1, 1) := by decide +kernel
theorem dX3_init_12 : decode cX3_init 12 = .ok (.iadd, 1) := by decide +kernel
theorem dX3_init_13 : decode cX3_init 13 = .ok (.putfield 7, 3) := by decide +kernel
theorem dX3_init_16 : decode cX3_init 16 = .ok (.aload_n 0, 1) := by decide +kernel
theorem dX3_init_17 : decode cX3_init 17 = .ok (.dup, 1) := by decide +kernel
theorem dX3_init_18 : decode cX3_init 18 = .ok (.getfield 13, 3) := by decide +kernel
theorem dX3_init_21 : decode cX3_init 21 = .ok (.iconst 1, 1) := by decide +kernel
theorem dX3_init_22 : decode cX3_init 22 = .ok (.iadd, 1) := by decide +kernel
theorem dX3_init_23 : decode cX3_init 23 = .ok (.putfield 13, 3) := by decide +kernel
theorem dX3_init_26 : decode cX3_init 26 = .ok (.aload_n 0, 1) := by decide +kernel
theorem dX3_init_27 : decode cX3_init 27 = .ok (.dup, 1) := by decide +kernel
theorem dX3_init_28 : decode cX3_init 28 = .ok (.getfield 16, 3) := by decide +kernel
theorem dX3_init_31 : decode cX3_init 31 = .ok (.iconst 4, 1) := by decide +kernel
theorem dX3_init_32 : decode cX3_init 32 = .ok (.iadd, 1) := by decide +kernel
theorem dX3_init_33 : decode cX3_init 33 = .ok (.putfield 16, 3) := by decide +kernel
theorem dX3_init_36 : decode cX3_init 36 = .ok (.return_, 1) := by decide +kernel
set_option maxHeartbeats 4000000 in
set_option maxRecDepth 100000 in
theorem c_X3 (l : Launch) (D : va_G) (a ci sz : Nat) {C : String} (hC : classes[ci]? = some (C, TX4, 7)) (hin : ∀ w ∈ u_ws C TX4 7, w ∈ lw_g) (k f : Int32) : Met l yX3_init (Cond.code yX3_init cX3_init 3 none :: lw_g) ({ frames := 3, cells := 0, slots := 0, locals := 56 }) (va_Pc [.ref a, .int k, .int f] (fun U => U.heap.size = sz ∧ va_P D classes (sW a ci [.int (0), .int (0), .int (0), .int (0), .int (0), .int (0), .int (0)]) U.heap ∧ va_K D classes [] U ∧ va_D (fun _ => True) (sW a ci [.int (0), .int (0), .int (0), .int (0), .int (0), .int (0), .int (0)]))) (va_Qv (fun _ : Unit => True) (fun _ t => va_P D classes (sW a ci [.int (k), .int (f), .int (((6 + f) - 3)), .int ((((1 + (f / 3)) - 1) + 1)), .int ((4 + 2)), .int (((5 - 2) + 1)), .int (((3 - 1) + 4))]) t.heap) (va_A (sW a ci [.int (0), .int (0), .int (0), .int (0), .int (0), .int (0), .int (0)]) sz)) 0 0 (va_A (sW a ci [.int (0), .int (0), .int (0), .int (0), .int (0), .int (0), .int (0)]) sz) := by
  refine Met.ofW (cc := cX3_init) (maxL := 3) (ret := none) (by decide) rfl ?_
  intro p e s m args below meth c s₁ B hml hv
  obtain ⟨rfl, hsz, hP, hK, hD0⟩ := hv
  have hx := B.exec
  have hb := B.bytes
  have hr := B.returns
  have hts0 := atoms_spec (ws := Cond.code yX3_init cX3_init 3 none :: lw_g) B.pre
  have hts := fun w (hw : w ∈ lw_g) => hts0 w (List.mem_cons_of_mem _ hw)
  have hown : s.vm.findClass RX3 = some m.cls := findClass_of_methodNamed B.named
  have hinit : meth.name = "<init>" := (name_of_methodNamed B.named B.method).1
  have hlocks := B.notSynchronized
  subst hsz
  have hD := hD0.self (sz := s.heap.size)
  generalize hAe : va_A (sW a ci [.int (0), .int (0), .int (0), .int (0), .int (0), .int (0), .int (0)]) s.heap.size = A at hD ⊢
  have hA : ∀ q : Nat, s.heap.size ≤ q → A q := fun q h => by rw [← hAe]; exact Or.inr h
  have hS : va_S A s.heap s.heap [] := va_S.rf
  have hP : va_P D classes (sW a ci [.int (0), .int (0), .int (0), .int (0), .int (0), .int (0), .int (0)]) s.heap := hP
  have hl := lv_entry ([.ref a, .int k, .int f]) (n := 3) (Nat.le_of_ble_eq_true rfl)
  rw [lg_entry_eq]
  generalize (lg_sl ([.ref a, .int k, .int f]) ++ List.replicate (3 - (lg_sl ([.ref a, .int k, .int f])).length) Slot.unset).toArray = ls at hl ⊢
  have hl : lv_has ls 3 [(0, .ref a), (1, .int k), (2, .int f)] := hl
  refine lv_aload_n hx hb dX3_init_0 rfl (lv_at hl 0 rfl) ?_
  refine lv_iload_n hx hb dX3_init_1 rfl (lv_at hl 1 rfl) ?_
  refine lv_iload_n hx hb dX3_init_2 rfl (lv_at hl 2 rfl) ?_
  have hFc := va_free (wc := (sW a ci [.int (0), .int (0), .int (0), .int (0), .int (0), .int (0), .int (0)])) hD hS hA [0] rfl
  refine va_callv (va_runI (As := [.int k, .int f]) (rest := []) ⟨hx, hb, hml, hown, hts⟩ (c_X7 l D a ci s.heap.size hC hin k f) (cwI 2 hts (goodG (List.forall_mem_cons.mpr ⟨(inG (i := 346) (by decide +kernel) rfl), fun _ h => h⟩)) rfl rfl rfl (hts (.initialized RX7) (inG (i := 43) (by decide +kernel) rfl)) (hts (.methodLink RX3 1 yX7_init) (inG (i := 389) (by decide +kernel) rfl)) (hts (.instanceMethod yX7_init) (inG (i := 345) (by decide +kernel) rfl)) rfl (by decide +kernel) ⟨Nat.le_of_ble_eq_true rfl, Nat.le_of_ble_eq_true rfl⟩) ⟨fun a U g mk q => by obtain ⟨q0, q1, qP, qK, qD⟩ := q; exact ⟨q0, q1, qP, va_K.moved (u := U) (U := U.calling g mk a) (Vm.Alike.refl U.vm) qK, qD⟩, fun U hU hW => ⟨rfl, by rw [hU], by rw [hU]; exact hP, va_K.moved hW.alike hK, hD.weaken (fun _ _ _ _ => trivial)⟩⟩ rfl rfl hl.1 rfl (lv_room (Nat.le_of_ble_eq_true rfl)) dX3_init_3 ⟨Nat.le_refl _, Nat.le_refl _⟩) hS (fun q _ h => hFc q h) hFc (fun u t H1 locs ht hvm hw hB hz1 hk1 hS => ?_)
  rw [ht] at hB
  have hD : va_D A (sW a ci [.int (k), .int (f), .int (((6 + f) - 3)), .int (((1 + (f / 3)) - 1)), .int ((4 + 2)), .int ((5 - 2)), .int ((3 - 1))]) := hD.set (p := 0) (e := .inr (ci, [.int (k), .int (f), .int (((6 + f) - 3)), .int (((1 + (f / 3)) - 1)), .int ((4 + 2)), .int ((5 - 2)), .int ((3 - 1))])) rfl
  have hP : va_P D classes (sW a ci [.int (k), .int (f), .int (((6 + f) - 3)), .int (((1 + (f / 3)) - 1)), .int ((4 + 2)), .int ((5 - 2)), .int ((3 - 1))]) H1 := hB
  generalize H1 = H at hP hS ⊢
  refine lv_aload_n hx hb dX3_init_6 rfl (lv_at hl 0 rfl) ?_
  refine lv_dup hx hb dX3_init_7 rfl ?_
  refine va_get (D := D) (cl := classes) (ci := ci) (C := C) (T := TX4) (N := 7) hx hb hts hin hown hK hP 0 rfl hC 3 (by decide) (hts (.fieldLink RX3 7 RX3 "sticks" "I") (inG (i := 268) (by decide +kernel) rfl)) (fun x9 h9 => u_same (hts (.sameField RX3 RX4 "sticks" "I") (inG (i := 269) (by decide +kernel) rfl)) x9 h9) rfl dX3_init_8 ?_
  refine lv_iconst (v := 1) hx hb dX3_init_11 (by decide) ?_
  refine lv_iadd hx hb dX3_init_12 ?_
  refine va_put (D := D) (cl := classes) (ci := ci) (ty := .int) (C := C) (T := TX4) (N := 7) hx hb hts hin tyX4 tyX4_ok nmX4 hown hK hP hD hS 0 rfl hC 3 (by decide) (hts (.fieldLink RX3 7 RX3 "sticks" "I") (inG (i := 268) (by decide +kernel) rfl)) (fun x9 h9 => u_same (hts (.sameField RX3 RX4 "sticks" "I") (inG (i := 269) (by decide +kernel) rfl)) x9 h9) rfl (by decide +kernel) rfl rfl (Nat.le_of_ble_eq_true rfl) dX3_init_13 (fun H locs hP hD hS => ?_)
  have hP : va_P D classes (sW a ci [.int (k), .int (f), .int (((6 + f) - 3)), .int ((((1 + (f / 3)) - 1) + 1)), .int ((4 + 2)), .int ((5 - 2)), .int ((3 - 1))]) H := hP
  have hD : va_D A (sW a ci [.int (k), .int (f), .int (((6 + f) - 3)), .int ((((1 + (f / 3)) - 1) + 1)), .int ((4 + 2)), .int ((5 - 2)), .int ((3 - 1))]) := hD
  refine lv_aload_n hx hb dX3_init_16 rfl (lv_at hl 0 rfl) ?_
  refine lv_dup hx hb dX3_init_17 rfl ?_
  refine va_get (D := D) (cl := classes) (ci := ci) (C := C) (T := TX4) (N := 7) hx hb hts hin hown hK hP 0 rfl hC 5 (by decide) (hts (.fieldLink RX3 13 RX3 "price" "I") (inG (i := 296) (by decide +kernel) rfl)) (fun x9 h9 => u_same (hts (.sameField RX3 RX4 "price" "I") (inG (i := 297) (by decide +kernel) rfl)) x9 h9) rfl dX3_init_18 ?_
  refine lv_iconst (v := 1) hx hb dX3_init_21 (by decide) ?_
  refine lv_iadd hx hb dX3_init_22 ?_
  refine va_put (D := D) (cl := classes) (ci := ci) (ty := .int) (C := C) (T := TX4) (N := 7) hx hb hts hin tyX4 tyX4_ok nmX4 hown hK hP hD hS 0 rfl hC 5 (by decide) (hts (.fieldLink RX3 13 RX3 "price" "I") (inG (i := 296) (by decide +kernel) rfl)) (fun x9 h9 => u_same (hts (.sameField RX3 RX4 "price" "I") (inG (i := 297) (by decide +kernel) rfl)) x9 h9) rfl (by decide +kernel) rfl rfl (Nat.le_of_ble_eq_true rfl) dX3_init_23 (fun H locs hP hD hS => ?_)
  have hP : va_P D classes (sW a ci [.int (k), .int (f), .int (((6 + f) - 3)), .int ((((1 + (f / 3)) - 1) + 1)), .int ((4 + 2)), .int (((5 - 2) + 1)), .int ((3 - 1))]) H := hP
  have hD : va_D A (sW a ci [.int (k), .int (f), .int (((6 + f) - 3)), .int ((((1 + (f / 3)) - 1) + 1)), .int ((4 + 2)), .int (((5 - 2) + 1)), .int ((3 - 1))]) := hD
  refine lv_aload_n hx hb dX3_init_26 rfl (lv_at hl 0 rfl) ?_
  refine lv_dup hx hb dX3_init_27 rfl ?_
  refine va_get (D := D) (cl := classes) (ci := ci) (C := C) (T := TX4) (N := 7) hx hb hts hin hown hK hP 0 rfl hC 6 (by decide) (hts (.fieldLink RX3 16 RX3 "costs" "I") (inG (i := 313) (by decide +kernel) rfl)) (fun x9 h9 => u_same (hts (.sameField RX3 RX4 "costs" "I") (inG (i := 314) (by decide +kernel) rfl)) x9 h9) rfl dX3_init_28 ?_
  refine lv_iconst (v := 4) hx hb dX3_init_31 (by decide) ?_
  refine lv_iadd hx hb dX3_init_32 ?_
  refine va_put (D := D) (cl := classes) (ci := ci) (ty := .int) (C := C) (T := TX4) (N := 7) hx hb hts hin tyX4 tyX4_ok nmX4 hown hK hP hD hS 0 rfl hC 6 (by decide) (hts (.fieldLink RX3 16 RX3 "costs" "I") (inG (i := 313) (by decide +kernel) rfl)) (fun x9 h9 => u_same (hts (.sameField RX3 RX4 "costs" "I") (inG (i := 314) (by decide +kernel) rfl)) x9 h9) rfl (by decide +kernel) rfl rfl (Nat.le_of_ble_eq_true rfl) dX3_init_33 (fun H locs hP hD hS => ?_)
  have hP : va_P D classes (sW a ci [.int (k), .int (f), .int (((6 + f) - 3)), .int ((((1 + (f / 3)) - 1) + 1)), .int ((4 + 2)), .int (((5 - 2) + 1)), .int (((3 - 1) + 4))]) H := hP
  have hD : va_D A (sW a ci [.int (k), .int (f), .int (((6 + f) - 3)), .int ((((1 + (f / 3)) - 1) + 1)), .int ((4 + 2)), .int (((5 - 2) + 1)), .int (((3 - 1) + 4))]) := hD
  exact W.vret hx hb hr (fun t ht hW => ⟨⟨(), rfl, trivial, by show va_P D classes _ t.heap; rw [ht]; exact hP⟩, hS.F ht⟩) hS.2.2 dX3_init_36
theorem dX6_init_0 : decode cX6_init 0 = .ok (.aload_n 0, 1) := by decide +kernel
theorem dX6_init_1 : decode cX6_init 1 = .ok (.iload_n 1, 1) := by decide +kernel
theorem dX6_init_2 : decode cX6_init 2 = .ok (.iload_n 2, 1) := by decide +kernel
theorem dX6_init_3 : decode cX6_init 3 = .ok (.invokespecial 1, 3) := by decide +kernel
theorem dX6_init_6 : decode cX6_init 6 = .ok (.aload_n 0, 1) := by decide +kernel
theorem dX6_init_7 : decode cX6_init 7 = .ok (.bipush 7, 2) := by decide +kernel
theorem dX6_init_9 : decode cX6_init 9 = .ok (.putfield 7, 3) := by decide +kernel
theorem dX6_init_12 : decode cX6_init 12 = .ok (.aload_n 0, 1) := by decide +kernel
theorem dX6_init_13 : decode cX6_init 13 = .ok (.iconst 0, 1) := by decide +kernel
theorem dX6_init_14 : decode cX6_init 14 = .ok (.putfield 13, 3) := by decide +kernel
theorem dX6_init_17 : decode cX6_init 17 = .ok (.aload_n 0, 1) := by decide +kernel
theorem dX6_init_18 : decode cX6_init 18 = .ok (.dup, 1) := by decide +kernel
theorem dX6_init_19 : decode cX6_init 19 = .ok (.getfield 16, 3) := by decide +kernel
theorem dX6_init_22 : decode cX6_init 22 = .ok (.iconst 2, 1) := by decide +kernel
theorem dX6_init_23 : decode cX6_init 23 = .ok (.idiv, 1) := by decide +kernel
theorem dX6_init_24 : decode cX6_init 24 = .ok (.putfield 16, 3) := by decide +kernel
theorem dX6_init_27 : decode cX6_init 27 = .ok (.return_, 1) := by decide +kernel
set_option maxHeartbeats 4000000 in
set_option maxRecDepth 100000 in
theorem c_X6 (l : Launch) (D : va_G) (a ci sz : Nat) {C : String} (hC : classes[ci]? = some (C, TX4, 7)) (hin : ∀ w ∈ u_ws C TX4 7, w ∈ lw_g) (k f : Int32) : Met l yX6_init (Cond.code yX6_init cX6_init 3 none :: lw_g) ({ frames := 3, cells := 0, slots := 0, locals := 56 }) (va_Pc [.ref a, .int k, .int f] (fun U => U.heap.size = sz ∧ va_P D classes (sW a ci [.int (0), .int (0), .int (0), .int (0), .int (0), .int (0), .int (0)]) U.heap ∧ va_K D classes [] U ∧ va_D (fun _ => True) (sW a ci [.int (0), .int (0), .int (0), .int (0), .int (0), .int (0), .int (0)]))) (va_Qv (fun _ : Unit => True) (fun _ t => va_P D classes (sW a ci [.int (k), .int (f), .int (((6 + f) - 3)), .int (((1 + (f / 3)) - 1)), .int (7), .int (0), .int (((3 - 1) / 2))]) t.heap) (va_A (sW a ci [.int (0), .int (0), .int (0), .int (0), .int (0), .int (0), .int (0)]) sz)) 0 0 (va_A (sW a ci [.int (0), .int (0), .int (0), .int (0), .int (0), .int (0), .int (0)]) sz) := by
  refine Met.ofW (cc := cX6_init) (maxL := 3) (ret := none) (by decide) rfl ?_
  intro p e s m args below meth c s₁ B hml hv
  obtain ⟨rfl, hsz, hP, hK, hD0⟩ := hv
  have hx := B.exec
  have hb := B.bytes
  have hr := B.returns
  have hts0 := atoms_spec (ws := Cond.code yX6_init cX6_init 3 none :: lw_g) B.pre
  have hts := fun w (hw : w ∈ lw_g) => hts0 w (List.mem_cons_of_mem _ hw)
  have hown : s.vm.findClass RX6 = some m.cls := findClass_of_methodNamed B.named
  have hinit : meth.name = "<init>" := (name_of_methodNamed B.named B.method).1
  have hlocks := B.notSynchronized
  subst hsz
  have hD := hD0.self (sz := s.heap.size)
  generalize hAe : va_A (sW a ci [.int (0), .int (0), .int (0), .int (0), .int (0), .int (0), .int (0)]) s.heap.size = A at hD ⊢
  have hA : ∀ q : Nat, s.heap.size ≤ q → A q := fun q h => by rw [← hAe]; exact Or.inr h
  have hS : va_S A s.heap s.heap [] := va_S.rf
  have hP : va_P D classes (sW a ci [.int (0), .int (0), .int (0), .int (0), .int (0), .int (0), .int (0)]) s.heap := hP
  have hl := lv_entry ([.ref a, .int k, .int f]) (n := 3) (Nat.le_of_ble_eq_true rfl)
  rw [lg_entry_eq]
  generalize (lg_sl ([.ref a, .int k, .int f]) ++ List.replicate (3 - (lg_sl ([.ref a, .int k, .int f])).length) Slot.unset).toArray = ls at hl ⊢
  have hl : lv_has ls 3 [(0, .ref a), (1, .int k), (2, .int f)] := hl
  refine lv_aload_n hx hb dX6_init_0 rfl (lv_at hl 0 rfl) ?_
  refine lv_iload_n hx hb dX6_init_1 rfl (lv_at hl 1 rfl) ?_
  refine lv_iload_n hx hb dX6_init_2 rfl (lv_at hl 2 rfl) ?_
  have hFc := va_free (wc := (sW a ci [.int (0), .int (0), .int (0), .int (0), .int (0), .int (0), .int (0)])) hD hS hA [0] rfl
  refine va_callv (va_runI (As := [.int k, .int f]) (rest := []) ⟨hx, hb, hml, hown, hts⟩ (c_X7 l D a ci s.heap.size hC hin k f) (cwI 2 hts (goodG (List.forall_mem_cons.mpr ⟨(inG (i := 346) (by decide +kernel) rfl), fun _ h => h⟩)) rfl rfl rfl (hts (.initialized RX7) (inG (i := 43) (by decide +kernel) rfl)) (hts (.methodLink RX6 1 yX7_init) (inG (i := 417) (by decide +kernel) rfl)) (hts (.instanceMethod yX7_init) (inG (i := 345) (by decide +kernel) rfl)) rfl (by decide +kernel) ⟨Nat.le_of_ble_eq_true rfl, Nat.le_of_ble_eq_true rfl⟩) ⟨fun a U g mk q => by obtain ⟨q0, q1, qP, qK, qD⟩ := q; exact ⟨q0, q1, qP, va_K.moved (u := U) (U := U.calling g mk a) (Vm.Alike.refl U.vm) qK, qD⟩, fun U hU hW => ⟨rfl, by rw [hU], by rw [hU]; exact hP, va_K.moved hW.alike hK, hD.weaken (fun _ _ _ _ => trivial)⟩⟩ rfl rfl hl.1 rfl (lv_room (Nat.le_of_ble_eq_true rfl)) dX6_init_3 ⟨Nat.le_refl _, Nat.le_refl _⟩) hS (fun q _ h => hFc q h) hFc (fun u t H1 locs ht hvm hw hB hz1 hk1 hS => ?_)
  rw [ht] at hB
  have hD : va_D A (sW a ci [.int (k), .int (f), .int (((6 + f) - 3)), .int (((1 + (f / 3)) - 1)), .int ((4 + 2)), .int ((5 - 2)), .int ((3 - 1))]) := hD.set (p := 0) (e := .inr (ci, [.int (k), .int (f), .int (((6 + f) - 3)), .int (((1 + (f / 3)) - 1)), .int ((4 + 2)), .int ((5 - 2)), .int ((3 - 1))])) rfl
  have hP : va_P D classes (sW a ci [.int (k), .int (f), .int (((6 + f) - 3)), .int (((1 + (f / 3)) - 1)), .int ((4 + 2)), .int ((5 - 2)), .int ((3 - 1))]) H1 := hB
  generalize H1 = H at hP hS ⊢
  refine lv_aload_n hx hb dX6_init_6 rfl (lv_at hl 0 rfl) ?_
  refine lv_bipush (v := 7) hx hb dX6_init_7 (by decide) ?_
  refine va_put (D := D) (cl := classes) (ci := ci) (ty := .int) (C := C) (T := TX4) (N := 7) hx hb hts hin tyX4 tyX4_ok nmX4 hown hK hP hD hS 0 rfl hC 4 (by decide) (hts (.fieldLink RX6 7 RX6 "flies" "I") (inG (i := 281) (by decide +kernel) rfl)) (fun x9 h9 => u_same (hts (.sameField RX6 RX4 "flies" "I") (inG (i := 282) (by decide +kernel) rfl)) x9 h9) rfl (by decide +kernel) rfl rfl (Nat.le_of_ble_eq_true rfl) dX6_init_9 (fun H locs hP hD hS => ?_)
  have hP : va_P D classes (sW a ci [.int (k), .int (f), .int (((6 + f) - 3)), .int (((1 + (f / 3)) - 1)), .int (7), .int ((5 - 2)), .int ((3 - 1))]) H := hP
  have hD : va_D A (sW a ci [.int (k), .int (f), .int (((6 + f) - 3)), .int (((1 + (f / 3)) - 1)), .int (7), .int ((5 - 2)), .int ((3 - 1))]) := hD
  refine lv_aload_n hx hb dX6_init_12 rfl (lv_at hl 0 rfl) ?_
  refine lv_iconst (v := 0) hx hb dX6_init_13 (by decide) ?_
  refine va_put (D := D) (cl := classes) (ci := ci) (ty := .int) (C := C) (T := TX4) (N := 7) hx hb hts hin tyX4 tyX4_ok nmX4 hown hK hP hD hS 0 rfl hC 5 (by decide) (hts (.fieldLink RX6 13 RX6 "price" "I") (inG (i := 294) (by decide +kernel) rfl)) (fun x9 h9 => u_same (hts (.sameField RX6 RX4 "price" "I") (inG (i := 295) (by decide +kernel) rfl)) x9 h9) rfl (by decide +kernel) rfl rfl (Nat.le_of_ble_eq_true rfl) dX6_init_14 (fun H locs hP hD hS => ?_)
  have hP : va_P D classes (sW a ci [.int (k), .int (f), .int (((6 + f) - 3)), .int (((1 + (f / 3)) - 1)), .int (7), .int (0), .int ((3 - 1))]) H := hP
  have hD : va_D A (sW a ci [.int (k), .int (f), .int (((6 + f) - 3)), .int (((1 + (f / 3)) - 1)), .int (7), .int (0), .int ((3 - 1))]) := hD
  refine lv_aload_n hx hb dX6_init_17 rfl (lv_at hl 0 rfl) ?_
  refine lv_dup hx hb dX6_init_18 rfl ?_
  refine va_get (D := D) (cl := classes) (ci := ci) (C := C) (T := TX4) (N := 7) hx hb hts hin hown hK hP 0 rfl hC 6 (by decide) (hts (.fieldLink RX6 16 RX6 "costs" "I") (inG (i := 311) (by decide +kernel) rfl)) (fun x9 h9 => u_same (hts (.sameField RX6 RX4 "costs" "I") (inG (i := 312) (by decide +kernel) rfl)) x9 h9) rfl dX6_init_19 ?_
  refine lv_iconst (v := 2) hx hb dX6_init_22 (by decide) ?_
  refine lv_idiv hx hb dX6_init_23 (by decide) ?_
  refine va_put (D := D) (cl := classes) (ci := ci) (ty := .int) (C := C) (T := TX4) (N := 7) hx hb hts hin tyX4 tyX4_ok nmX4 hown hK hP hD hS 0 rfl hC 6 (by decide) (hts (.fieldLink RX6 16 RX6 "costs" "I") (inG (i := 311) (by decide +kernel) rfl)) (fun x9 h9 => u_same (hts (.sameField RX6 RX4 "costs" "I") (inG (i := 312) (by decide +kernel) rfl)) x9 h9) rfl (by decide +kernel) rfl rfl (Nat.le_of_ble_eq_true rfl) dX6_init_24 (fun H locs hP hD hS => ?_)
  have hP : va_P D classes (sW a ci [.int (k), .int (f), .int (((6 + f) - 3)), .int (((1 + (f / 3)) - 1)), .int (7), .int (0), .int (((3 - 1) / 2))]) H := hP
  have hD : va_D A (sW a ci [.int (k), .int (f), .int (((6 + f) - 3)), .int (((1 + (f / 3)) - 1)), .int (7), .int (0), .int (((3 - 1) / 2))]) := hD
  exact W.vret hx hb hr (fun t ht hW => ⟨⟨(), rfl, trivial, by show va_P D classes _ t.heap; rw [ht]; exact hP⟩, hS.F ht⟩) hS.2.2 dX6_init_27
theorem dX1_init_0 : decode cX1_init 0 = .ok (.aload_n 0, 1) := by decide +kernel
theorem dX1_init_1 : decode cX1_init 1 = .ok (.iload_n 1, 1) := by decide +kernel
theorem dX1_init_2 : decode cX1_init 2 = .ok (.iload_n 2, 1) := by decide +kernel
theorem dX1_init_3 : decode cX1_init 3 = .ok (.invokespecial 1, 3) := by decide +kernel
theorem dX1_init_6 : decode cX1_init 6 = .ok (.aload_n 0, 1) := by decide +kernel
theorem dX1_init_7 : decode cX1_init 7 = .ok (.dup, 1) := by decide +kernel
theorem dX1_init_8 : decode cX1_init 8 = .ok (.getfield 7, 3) := by decide +kernel
theorem dX1_init_11 : decode cX1_init 11 = .ok (.iconst 2, 1) := by decide +kernel
theorem dX1_init_12 : decode cX1_init 12 = .ok (.imul, 1) := by decide +kernel
theorem dX1_init_13 : decode cX1_init 13 = .ok (.putfield 7, 3) := by decide +kernel
theorem dX1_init_16 : decode cX1_init 16 = .ok (.aload_n 0, 1) := by decide +kernel
theorem dX1_init_17 : decode cX1_init 17 = .ok (.dup, 1) := by decide +kernel
theorem dX1_init_18 : decode cX1_init 18 = .ok (.getfield 13, 3) := by decide +kernel
theorem dX1_init_21 : decode cX1_init 21 = .ok (.iconst 2, 1) := by decide +kernel
theorem dX1_init_22 : decode cX1_init 22 = .ok (.imul, 1) := by decide +kernel
theorem dX1_init_23 : decode cX1_init 23 = .ok (.putfield 13, 3) := by decide +kernel
theorem dX1_init_26 : decode cX1_init 26 = .ok (.aload_n 0, 1) := by decide +kernel
theorem dX1_init_27 : decode cX1_init 27 = .ok (.dup, 1) := by decide +kernel
theorem dX1_init_28 : decode cX1_init 28 = .ok (.getfield 16, 3) := by decide +kernel
theorem dX1_init_31 : decode cX1_init 31 = .ok (.iconst 1, 1) := by decide +kernel
theorem dX1_init_32 : decode cX1_init 32 = .ok (.isub, 1) := by decide +kernel
theorem dX1_init_33 : decode cX1_init 33 = .ok (.putfield 16, 3) := by decide +kernel
theorem dX1_init_36 : decode cX1_init 36 = .ok (.aload_n 0, 1) := by decide +kernel
theorem dX1_init_37 : decode cX1_init 37 = .ok (.dup, 1) := by decide +kernel
theorem dX1_init_38 : decode cX1_init 38 = .ok (.getfield 19, 3) := by decide +kernel
theorem dX1_init_41 : decode cX1_init 41 = .ok (.iconst 2, 1) := by decide +kernel
theorem dX1_init_42 : decode cX1_init 42 = .ok (.imul, 1) := by decide +kernel
theorem dX1_init_43 : decode cX1_init 43 = .ok (.putfield 19, 3) := by decide +kernel
theorem dX1_init_46 : decode cX1_init 46 = .ok (.aload_n 0, 1) := by decide +kernel
theorem dX1_init_47 : decode cX1_init 47 = .ok (.dup, 1) := by decide +kernel
theorem dX1_init_48 : decode cX1_init 48 = .ok (.getfield 22, 3) := by decide +kernel
theorem dX1_init_51 : decode cX1_init 51 = .ok (.iconst 1, 1) := by decide +kernel
theorem dX1_init_52 : decode cX1_init 52 = .ok (.iadd, 1) := by decide +kernel
theorem dX1_init_53 : decode cX1_init 53 = .ok (.putfield 22, 3) := by decide +kernel
theorem dX1_init_56 : decode cX1_init 56 = .ok (.return_, 1) := by decide +kernel
set_option maxHeartbeats 4000000 in
set_option maxRecDepth 100000 in
theorem c_X1 (l : Launch) (D : va_G) (a ci sz : Nat) {C : String} (hC : classes[ci]? = some (C, TX4, 7)) (hin : ∀ w ∈ u_ws C TX4 7, w ∈ lw_g) (k f : Int32) : Met l yX1_init (Cond.code yX1_init cX1_init 3 none :: lw_g) ({ frames := 3, cells := 0, slots := 0, locals := 56 }) (va_Pc [.ref a, .int k, .int f] (fun U => U.heap.size = sz ∧ va_P D classes (sW a ci [.int (0), .int (0), .int (0), .int (0), .int (0), .int (0), .int (0)]) U.heap ∧ va_K D classes [] U ∧ va_D (fun _ => True) (sW a ci [.int (0), .int (0), .int (0), .int (0), .int (0), .int (0), .int (0)]))) (va_Qv (fun _ : Unit => True) (fun _ t => va_P D classes (sW a ci [.int (k), .int (f), .int ((((6 + f) + 4) * 2)), .int ((((1 + (f / 3)) + 2) * 2)), .int (((4 - 1) - 1)), .int (((5 + f) * 2)), .int (((3 + f) + 1))]) t.heap) (va_A (sW a ci [.int (0), .int (0), .int (0), .int (0), .int (0), .int (0), .int (0)]) sz)) 0 0 (va_A (sW a ci [.int (0), .int (0), .int (0), .int (0), .int (0), .int (0), .int (0)]) sz) := by
  refine Met.ofW (cc := cX1_init) (maxL := 3) (ret := none) (by decide) rfl ?_
  intro p e s m args below meth c s₁ B hml hv
  obtain ⟨rfl, hsz, hP, hK, hD0⟩ := hv
  have hx := B.exec
  have hb := B.bytes
  have hr := B.returns
  have hts0 := atoms_spec (ws := Cond.code yX1_init cX1_init 3 none :: lw_g) B.pre
  have hts := fun w (hw : w ∈ lw_g) => hts0 w (List.mem_cons_of_mem _ hw)
  have hown : s.vm.findClass RX1 = some m.cls := findClass_of_methodNamed B.named
  have hinit : meth.name = "<init>" := (name_of_methodNamed B.named B.method).1
  have hlocks := B.notSynchronized
  subst hsz
  have hD := hD0.self (sz := s.heap.size)
  generalize hAe : va_A (sW a ci [.int (0), .int (0), .int (0), .int (0), .int (0), .int (0), .int (0)]) s.heap.size = A at hD ⊢
  have hA : ∀ q : Nat, s.heap.size ≤ q → A q := fun q h => by rw [← hAe]; exact Or.inr h
  have hS : va_S A s.heap s.heap [] := va_S.rf
  have hP : va_P D classes (sW a ci [.int (0), .int (0), .int (0), .int (0), .int (0), .int (0), .int (0)]) s.heap := hP
  have hl := lv_entry ([.ref a, .int k, .int f]) (n := 3) (Nat.le_of_ble_eq_true rfl)
  rw [lg_entry_eq]
  generalize (lg_sl ([.ref a, .int k, .int f]) ++ List.replicate (3 - (lg_sl ([.ref a, .int k, .int f])).length) Slot.unset).toArray = ls at hl ⊢
  have hl : lv_has ls 3 [(0, .ref a), (1, .int k), (2, .int f)] := hl
  refine lv_aload_n hx hb dX1_init_0 rfl (lv_at hl 0 rfl) ?_
  refine lv_iload_n hx hb dX1_init_1 rfl (lv_at hl 1 rfl) ?_
  refine lv_iload_n hx hb dX1_init_2 rfl (lv_at hl 2 rfl) ?_
  have hFc := va_free (wc := (sW a ci [.int (0), .int (0), .int (0), .int (0), .int (0), .int (0), .int (0)])) hD hS hA [0] rfl
  refine va_callv (va_runI (As := [.int k, .int f]) (rest := []) ⟨hx, hb, hml, hown, hts⟩ (c_X2 l D a ci s.heap.size hC hin k f) (cwI 2 hts (goodG (List.forall_mem_cons.mpr ⟨(inG (i := 360) (by decide +kernel) rfl), fun _ h => h⟩)) rfl rfl rfl (hts (.initialized RX2) (inG (i := 44) (by decide +kernel) rfl)) (hts (.methodLink RX1 1 yX2_init) (inG (i := 403) (by decide +kernel) rfl)) (hts (.instanceMethod yX2_init) (inG (i := 359) (by decide +kernel) rfl)) rfl (by decide +kernel) ⟨Nat.le_of_ble_eq_true rfl, Nat.le_of_ble_eq_true rfl⟩) ⟨fun a U g mk q => by obtain ⟨q0, q1, qP, qK, qD⟩ := q; exact ⟨q0, q1, qP, va_K.moved (u := U) (U := U.calling g mk a) (Vm.Alike.refl U.vm) qK, qD⟩, fun U hU hW => ⟨rfl, by rw [hU], by rw [hU]; exact hP, va_K.moved hW.alike hK, hD.weaken (fun _ _ _ _ => trivial)⟩⟩ rfl rfl hl.1 rfl (lv_room (Nat.le_of_ble_eq_true rfl)) dX1_init_3 ⟨Nat.le_refl _, Nat.le_refl _⟩) hS (fun q _ h => hFc q h) hFc (fun u t H1 locs ht hvm hw hB hz1 hk1 hS => ?_)
  rw [ht] at hB
  have hD : va_D A (sW a ci [.int (k), .int (f), .int (((6 + f) + 4)), .int (((1 + (f / 3)) + 2)), .int ((4 - 1)), .int ((5 + f)), .int ((3 + f))]) := hD.set (p := 0) (e := .inr (ci, [.int (k), .int (f), .int (((6 + f) + 4)), .int (((1 + (f / 3)) + 2)), .int ((4 - 1)), .int ((5 + f)), .int ((3 + f))])) rfl
  have hP : va_P D classes (sW a ci [.int (k), .int (f), .int (((6 + f) + 4)), .int (((1 + (f / 3)) + 2)), .int ((4 - 1)), .int ((5 + f)), .int ((3 + f))]) H1 := hB
  generalize H1 = H at hP hS ⊢
  refine lv_aload_n hx hb dX1_init_6 rfl (lv_at hl 0 rfl) ?_
  refine lv_dup hx hb dX1_init_7 rfl ?_
  refine va_get (D := D) (cl := classes) (ci := ci) (C := C) (T := TX4) (N := 7) hx hb hts hin hown hK hP 0 rfl hC 2 (by decide) (hts (.fieldLink RX1 7 RX1 "weight" "I") (inG (i := 261) (by decide +kernel) rfl)) (fun x9 h9 => u_same (hts (.sameField RX1 RX4 "weight" "I") (inG (i := 262) (by decide +kernel) rfl)) x9 h9) rfl dX1_init_8 ?_
  refine lv_iconst (v := 2) hx hb dX1_init_11 (by decide) ?_
  refine lv_imul hx hb dX1_init_12 ?_
  refine va_put (D := D) (cl := classes) (ci := ci) (ty := .int) (C := C) (T := TX4) (N := 7) hx hb hts hin tyX4 tyX4_ok nmX4 hown hK hP hD hS 0 rfl hC 2 (by decide) (hts (.fieldLink RX1 7 RX1 "weight" "I") (inG (i := 261) (by decide +kernel) rfl)) (fun x9 h9 => u_same (hts (.sameField RX1 RX4 "weight" "I") (inG (i := 262) (by decide +kernel) rfl)) x9 h9) rfl (by decide +kernel) rfl rfl (Nat.le_of_ble_eq_true rfl) dX1_init_13 (fun H locs hP hD hS => ?_)
  have hP : va_P D classes (sW a ci [.int (k), .int (f), .int ((((6 + f) + 4) * 2)), .int (((1 + (f / 3)) + 2)), .int ((4 - 1)), .int ((5 + f)), .int ((3 + f))]) H := hP
  have hD : va_D A (sW a ci [.int (k), .int (f), .int ((((6 + f) + 4) * 2)), .int (((1 + (f / 3)) + 2)), .int ((4 - 1)), .int ((5 + f)), .int ((3 + f))]) := hD
  refine lv_aload_n hx hb dX1_init_16 rfl (lv_at hl 0 rfl) ?_
  refine lv_dup hx hb dX1_init_17 rfl ?_
  refine va_get (D := D) (cl := classes) (ci := ci) (C := C) (T := TX4) (N := 7) hx hb hts hin hown hK hP 0 rfl hC 3 (by decide) (hts (.fieldLink RX1 13 RX1 "sticks" "I") (inG (i := 276) (by decide +kernel) rfl)) (fun x9 h9 => u_same (hts (.sameField RX1 RX4 "sticks" "I") (inG (i := 277) (by decide +kernel) rfl)) x9 h9) rfl dX1_init_18 ?_
  refine lv_iconst (v := 2) hx hb dX1_init_21 (by decide) ?_
  refine lv_imul hx hb dX1_init_22 ?_
  refine va_put (D := D) (cl := classes) (ci := ci) (ty := .int) (C := C) (T := TX4) (N := 7) hx hb hts hin tyX4 tyX4_ok nmX4 hown hK hP hD hS 0 rfl hC 3 (by decide) (hts (.fieldLink RX1 13 RX1 "sticks" "I") (inG (i := 276) (by decide +kernel) rfl)) (fun x9 h9 => u_same (hts (.sameField RX1 RX4 "sticks" "I") (inG (i := 277) (by decide +kernel) rfl)) x9 h9) rfl (by decide +kernel) rfl rfl (Nat.le_of_ble_eq_true rfl) dX1_init_23 (fun H locs hP hD hS => ?_)
  have hP : va_P D classes (sW a ci [.int (k), .int (f), .int ((((6 + f) + 4) * 2)), .int ((((1 + (f / 3)) + 2) * 2)), .int ((4 - 1)), .int ((5 + f)), .int ((3 + f))]) H := hP
  have hD : va_D A (sW a ci [.int (k), .int (f), .int ((((6 + f) + 4) * 2)), .int ((((1 + (f / 3)) + 2) * 2)), .int ((4 - 1)), .int ((5 + f)), .int ((3 + f))]) := hD
  refine lv_aload_n hx hb dX1_init_26 rfl (lv_at hl 0 rfl) ?_
  refine lv_dup hx hb dX1_init_27 rfl ?_
  refine va_get (D := D) (cl := classes) (ci := ci) (C := C) (T := TX4) (N := 7) hx hb hts hin hown hK hP 0 rfl hC 4 (by decide) (hts (.fieldLink RX1 16 RX1 "flies" "I") (inG (i := 289) (by decide +kernel) rfl)) (fun x9 h9 => u_same (hts (.sameField RX1 RX4 "flies" "I") (inG (i := 290) (by decide +kernel) rfl)) x9 h9) rfl dX1_init_28 ?_
  refine lv_iconst (v := 1) hx hb dX1_init_31 (by decide) ?_
  refine lv_isub hx hb dX1_init_32 ?_
  refine va_put (D := D) (cl := classes) (ci := ci) (ty := .int) (C := C) (T := TX4) (N := 7) hx hb hts hin tyX4 tyX4_ok nmX4 hown hK hP hD hS 0 rfl hC 4 (by decide) (hts (.fieldLink RX1 16 RX1 "flies" "I") (inG (i := 289) (by decide +kernel) rfl)) (fun x9 h9 => u_same (hts (.sameField RX1 RX4 "flies" "I") (inG (i := 290) (by decide +kernel) rfl)) x9 h9) rfl (by decide +kernel) rfl rfl (Nat.le_of_ble_eq_true rfl) dX1_init_33 (fun H locs hP hD hS => ?_)
  have hP : va_P D classes (sW a ci [.int (k), .int (f), .int ((((6 + f) + 4) * 2)), .int ((((1 + (f / 3)) + 2) * 2)), .int (((4 - 1) - 1)), .int ((5 + f)), .int ((3 + f))]) H := hP
  have hD : va_D A (sW a ci [.int (k), .int (f), .int ((((6 + f) + 4) * 2)), .int ((((1 + (f / 3)) + 2) * 2)), .int (((4 - 1) - 1)), .int ((5 + f)), .int ((3 + f))]) := hD
  refine lv_aload_n hx hb dX1_init_36 rfl (lv_at hl 0 rfl) ?_
  refine lv_dup hx hb dX1_init_37 rfl ?_
  refine va_get (D := D) (cl := classes) (ci := ci) (C := C) (T := TX4) (N := 7) hx hb hts hin hown hK hP 0 rfl hC 5 (by decide) (hts (.fieldLink RX1 19 RX1 "price" "I") (inG (i := 307) (by decide +kernel) rfl)) (fun x9 h9 => u_same (hts (.sameField RX1 RX4 "price" "I") (inG (i := 308) (by decide +kernel) rfl)) x9 h9) rfl dX1_init_38 ?_
  refine lv_iconst (v := 2) hx hb dX1_init_41 (by decide) ?_
  refine lv_imul hx hb dX1_init_42 ?_
  refine va_put (D := D) (cl := classes) (ci := ci) (ty := .int) (C := C) (T := TX4) (N := 7) hx hb hts hin tyX4 tyX4_ok nmX4 hown hK hP hD hS 0 rfl hC 5 (by decide) (hts (.fieldLink RX1 19 RX1 "price" "I") (inG (i := 307) (by decide +kernel) rfl)) (fun x9 h9 => u_same (hts (.sameField RX1 RX4 "price" "I") (inG (i := 308) (by decide +kernel) rfl)) x9 h9) rfl (by decide +kernel) rfl rfl (Nat.le_of_ble_eq_true rfl) dX1_init_43 (fun H locs hP hD hS => ?_)
  have hP : va_P D classes (sW a ci [.int (k), .int (f), .int ((((6 + f) + 4) * 2)), .int ((((1 + (f / 3)) + 2) * 2)), .int (((4 - 1) - 1)), .int (((5 + f) * 2)), .int ((3 + f))]) H := hP
  have hD : va_D A (sW a ci [.int (k), .int (f), .int ((((6 + f) + 4) * 2)), .int ((((1 + (f / 3)) + 2) * 2)), .int (((4 - 1) - 1)), .int (((5 + f) * 2)), .int ((3 + f))]) := hD
  refine lv_aload_n hx hb dX1_init_46 rfl (lv_at hl 0 rfl) ?_
  refine lv_dup hx hb dX1_init_47 rfl ?_
  refine va_get (D := D) (cl := classes) (ci := ci) (C := C) (T := TX4) (N := 7) hx hb hts hin hown hK hP 0 rfl hC 6 (by decide) (hts (.fieldLink RX1 22 RX1 "costs" "I") (inG (i := 324) (by decide +kernel) rfl)) (fun x9 h9 => u_same (hts (.sameField RX1 RX4 "costs" "I") (inG (i := 325) (by decide +kernel) rfl)) x9 h9) rfl dX1_init_48 ?_
  refine lv_iconst (v := 1) hx hb dX1_init_51 (by decide) ?_
  refine lv_iadd hx hb dX1_init_52 ?_
  refine va_put (D := D) (cl := classes) (ci := ci) (ty := .int) (C := C) (T := TX4) (N := 7) hx hb hts hin tyX4 tyX4_ok nmX4 hown hK hP hD hS 0 rfl hC 6 (by decide) (hts (.fieldLink RX1 22 RX1 "costs" "I") (inG (i := 324) (by decide +kernel) rfl)) (fun x9 h9 => u_same (hts (.sameField RX1 RX4 "costs" "I") (inG (i := 325) (by decide +kernel) rfl)) x9 h9) rfl (by decide +kernel) rfl rfl (Nat.le_of_ble_eq_true rfl) dX1_init_53 (fun H locs hP hD hS => ?_)
  have hP : va_P D classes (sW a ci [.int (k), .int (f), .int ((((6 + f) + 4) * 2)), .int ((((1 + (f / 3)) + 2) * 2)), .int (((4 - 1) - 1)), .int (((5 + f) * 2)), .int (((3 + f) + 1))]) H := hP
  have hD : va_D A (sW a ci [.int (k), .int (f), .int ((((6 + f) + 4) * 2)), .int ((((1 + (f / 3)) + 2) * 2)), .int (((4 - 1) - 1)), .int (((5 + f) * 2)), .int (((3 + f) + 1))]) := hD
  exact W.vret hx hb hr (fun t ht hW => ⟨⟨(), rfl, trivial, by show va_P D classes _ t.heap; rw [ht]; exact hP⟩, hS.F ht⟩) hS.2.2 dX1_init_56
theorem dX8_init_0 : decode cX8_init 0 = .ok (.aload_n 0, 1) := by decide +kernel
theorem dX8_init_1 : decode cX8_init 1 = .ok (.iload_n 1, 1) := by decide +kernel
theorem dX8_init_2 : decode cX8_init 2 = .ok (.iload_n 2, 1) := by decide +kernel
theorem dX8_init_3 : decode cX8_init 3 = .ok (.invokespecial 1, 3) := by decide +kernel
theorem dX8_init_6 : decode cX8_init 6 = .ok (.aload_n 0, 1) := by decide +kernel
theorem dX8_init_7 : decode cX8_init 7 = .ok (.dup, 1) := by decide +kernel
theorem dX8_init_8 : decode cX8_init 8 = .ok (.getfield 7, 3) := by decide +kernel
theorem dX8_init_11 : decode cX8_init 11 = .ok (.bipush 8, 2) := by decide +kernel
theorem dX8_init_13 : decode cX8_init 13 = .ok (.iadd, 1) := by decide +kernel
theorem dX8_init_14 : decode cX8_init 14 = .ok (.putfield 7, 3) := by decide +kernel
theorem dX8_init_17 : decode cX8_init 17 = .ok (.aload_n 0, 1) := by decide +kernel
theorem dX8_init_18 : decode cX8_init 18 = .ok (.dup, 1) := by decide +kernel
theorem dX8_init_19 : decode cX8_init 19 = .ok (.getfield 13, 3) := by decide +kernel
theorem dX8_init_22 : decode cX8_init 22 = .ok (.bipush 20, 2) := by decide +kernel
theorem dX8_init_24 : decode cX8_init 24 = .ok (.iadd, 1) := by decide +kernel
theorem dX8_init_25 : decode cX8_init 25 = .ok (.putfield 13, 3) := by decide +kernel
theorem dX8_init_28 : decode cX8_init 28 = .ok (.aload_n 0, 1) := by decide +kernel
theorem dX8_init_29 : decode cX8_init 29 = .ok (.dup, 1) := by decide +kernel
theorem dX8_init_30 : decode cX8_init 30 = .ok (.getfield 16, 3) := by decide +kernel
theorem dX8_init_33 : decode cX8_init 33 = .ok (.iconst 2, 1) := by decide +kernel
theorem dX8_init_34 : decode cX8_init 34 = .ok (.imul, 1) := by decide +kernel
theorem dX8_init_35 : decode cX8_init 35 = .ok (.putfield 16, 3) := by decide +kernel
theorem dX8_init_38 : decode cX8_init 38 = .ok (.return_, 1) := by decide +kernel
set_option maxHeartbeats 4000000 in
set_option maxRecDepth 100000 in
theorem c_X8 (l : Launch) (D : va_G) (a ci sz : Nat) {C : String} (hC : classes[ci]? = some (C, TX4, 7)) (hin : ∀ w ∈ u_ws C TX4 7, w ∈ lw_g) (k f : Int32) : Met l yX8_init (Cond.code yX8_init cX8_init 3 none :: lw_g) ({ frames := 3, cells := 0, slots := 0, locals := 56 }) (va_Pc [.ref a, .int k, .int f] (fun U => U.heap.size = sz ∧ va_P D classes (sW a ci [.int (0), .int (0), .int (0), .int (0), .int (0), .int (0), .int (0)]) U.heap ∧ va_K D classes [] U ∧ va_D (fun _ => True) (sW a ci [.int (0), .int (0), .int (0), .int (0), .int (0), .int (0), .int (0)]))) (va_Qv (fun _ : Unit => True) (fun _ t => va_P D classes (sW a ci [.int (k), .int (f), .int ((((6 + f) + 4) + 8)), .int (((1 + (f / 3)) + 2)), .int ((4 - 1)), .int (((5 + f) + 20)), .int (((3 + f) * 2))]) t.heap) (va_A (sW a ci [.int (0), .int (0), .int (0), .int (0), .int (0), .int (0), .int (0)]) sz)) 0 0 (va_A (sW a ci [.int (0), .int (0), .int (0), .int (0), .int (0), .int (0), .int (0)]) sz) := by
  refine Met.ofW (cc := cX8_init) (maxL := 3) (ret := none) (by decide) rfl ?_
  intro p e s m args below meth c s₁ B hml hv
  obtain ⟨rfl, hsz, hP, hK, hD0⟩ := hv
  have hx := B.exec
  have hb := B.bytes
  have hr := B.returns
  have hts0 := atoms_spec (ws := Cond.code yX8_init cX8_init 3 none :: lw_g) B.pre
  have hts := fun w (hw : w ∈ lw_g) => hts0 w (List.mem_cons_of_mem _ hw)
  have hown : s.vm.findClass RX8 = some m.cls := findClass_of_methodNamed B.named
  have hinit : meth.name = "<init>" := (name_of_methodNamed B.named B.method).1
  have hlocks := B.notSynchronized
  subst hsz
  have hD := hD0.self (sz := s.heap.size)
  generalize hAe : va_A (sW a ci [.int (0), .int (0), .int (0), .int (0), .int (0), .int (0), .int (0)]) s.heap.size = A at hD ⊢
  have hA : ∀ q : Nat, s.heap.size ≤ q → A q := fun q h => by rw [← hAe]; exact Or.inr h
  have hS : va_S A s.heap s.heap [] := va_S.rf
  have hP : va_P D classes (sW a ci [.int (0), .int (0), .int (0), .int (0), .int (0), .int (0), .int (0)]) s.heap := hP
  have hl := lv_entry ([.ref a, .int k, .int f]) (n := 3) (Nat.le_of_ble_eq_true rfl)
  rw [lg_entry_eq]
  generalize (lg_sl ([.ref a, .int k, .int f]) ++ List.replicate (3 - (lg_sl ([.ref a, .int k, .int f])).length) Slot.unset).toArray = ls at hl ⊢
  have hl : lv_has ls 3 [(0, .ref a), (1, .int k), (2, .int f)] := hl
  refine lv_aload_n hx hb dX8_init_0 rfl (lv_at hl 0 rfl) ?_
  refine lv_iload_n hx hb dX8_init_1 rfl (lv_at hl 1 rfl) ?_
  refine lv_iload_n hx hb dX8_init_2 rfl (lv_at hl 2 rfl) ?_
  have hFc := va_free (wc := (sW a ci [.int (0), .int (0), .int (0), .int (0), .int (0), .int (0), .int (0)])) hD hS hA [0] rfl
  refine va_callv (va_runI (As := [.int k, .int f]) (rest := []) ⟨hx, hb, hml, hown, hts⟩ (c_X2 l D a ci s.heap.size hC hin k f) (cwI 2 hts (goodG (List.forall_mem_cons.mpr ⟨(inG (i := 360) (by decide +kernel) rfl), fun _ h => h⟩)) rfl rfl rfl (hts (.initialized RX2) (inG (i := 44) (by decide +kernel) rfl)) (hts (.methodLink RX8 1 yX2_init) (inG (i := 375) (by decide +kernel) rfl)) (hts (.instanceMethod yX2_init) (inG (i := 359) (by decide +kernel) rfl)) rfl (by decide +kernel) ⟨Nat.le_of_ble_eq_true rfl, Nat.le_of_ble_eq_true rfl⟩) ⟨fun a U g mk q => by obtain ⟨q0, q1, qP, qK, qD⟩ := q; exact ⟨q0, q1, qP, va_K.moved (u := U) (U := U.calling g mk a) (Vm.Alike.refl U.vm) qK, qD⟩, fun U hU hW => ⟨rfl, by rw [hU], by rw [hU]; exact hP, va_K.moved hW.alike hK, hD.weaken (fun _ _ _ _ => trivial)⟩⟩ rfl rfl hl.1 rfl (lv_room (Nat.le_of_ble_eq_true rfl)) dX8_init_3 ⟨Nat.le_refl _, Nat.le_refl _⟩) hS (fun q _ h => hFc q h) hFc (fun u t H1 locs ht hvm hw hB hz1 hk1 hS => ?_)
  rw [ht] at hB
  have hD : va_D A (sW a ci [.int (k), .int (f), .int (((6 + f) + 4)), .int (((1 + (f / 3)) + 2)), .int ((4 - 1)), .int ((5 + f)), .int ((3 + f))]) := hD.set (p := 0) (e := .inr (ci, [.int (k), .int (f), .int (((6 + f) + 4)), .int (((1 + (f / 3)) + 2)), .int ((4 - 1)), .int ((5 + f)), .int ((3 + f))])) rfl
  have hP : va_P D classes (sW a ci [.int (k), .int (f), .int (((6 + f) + 4)), .int (((1 + (f / 3)) + 2)), .int ((4 - 1)), .int ((5 + f)), .int ((3 + f))]) H1 := hB
  generalize H1 = H at hP hS ⊢
  refine lv_aload_n hx hb dX8_init_6 rfl (lv_at hl 0 rfl) ?_
  refine lv_dup hx hb dX8_init_7 rfl ?_
  refine va_get (D := D) (cl := classes) (ci := ci) (C := C) (T := TX4) (N := 7) hx hb hts hin hown hK hP 0 rfl hC 2 (by decide) (hts (.fieldLink RX8 7 RX8 "weight" "I") (inG (i := 259) (by decide +kernel) rfl)) (fun x9 h9 => u_same (hts (.sameField RX8 RX4 "weight" "I") (inG (i := 260) (by decide +kernel) rfl)) x9 h9) rfl dX8_init_8 ?_
  refine lv_bipush (v := 8) hx hb dX8_init_11 (by decide) ?_
  refine lv_iadd hx hb dX8_init_13 ?_
  refine va_put (D := D) (cl := classes) (ci := ci) (ty := .int) (C := C) (T := TX4) (N := 7) hx hb hts hin tyX4 tyX4_ok nmX4 hown hK hP hD hS 0 rfl hC 2 (by decide) (hts (.fieldLink RX8 7 RX8 "weight" "I") (inG (i := 259) (by decide +kernel) rfl)) (fun x9 h9 => u_same (hts (.sameField RX8 RX4 "weight" "I") (inG (i := 260) (by decide +kernel) rfl)) x9 h9) rfl (by decide +kernel) rfl rfl (Nat.le_of_ble_eq_true rfl) dX8_init_14 (fun H locs hP hD hS => ?_)
  have hP : va_P D classes (sW a ci [.int (k), .int (f), .int ((((6 + f) + 4) + 8)), .int (((1 + (f / 3)) + 2)), .int ((4 - 1)), .int ((5 + f)), .int ((3 + f))]) H := hP
  have hD : va_D A (sW a ci [.int (k), .int (f), .int ((((6 + f) + 4) + 8)), .int (((1 + (f / 3)) + 2)), .int ((4 - 1)), .int ((5 + f)), .int ((3 + f))]) := hD
  refine lv_aload_n hx hb dX8_init_17 rfl (lv_at hl 0 rfl) ?_
  refine lv_dup hx hb dX8_init_18 rfl ?_
  refine va_get (D := D) (cl := classes) (ci := ci) (C := C) (T := TX4) (N := 7) hx hb hts hin hown hK hP 0 rfl hC 5 (by decide) (hts (.fieldLink RX8 13 RX8 "price" "I") (inG (i := 298) (by decide +kernel) rfl)) (fun x9 h9 => u_same (hts (.sameField RX8 RX4 "price" "I") (inG (i := 299) (by decide +kernel) rfl)) x9 h9) rfl dX8_init_19 ?_
  refine lv_bipush (v := 20) hx hb dX8_init_22 (by decide) ?_
  refine lv_iadd hx hb dX8_init_24 ?_
  refine va_put (D := D) (cl := classes) (ci := ci) (ty := .int) (C := C) (T := TX4) (N := 7) hx hb hts hin tyX4 tyX4_ok nmX4 hown hK hP hD hS 0 rfl hC 5 (by decide) (hts (.fieldLink RX8 13 RX8 "price" "I") (inG (i := 298) (by decide +kernel) rfl)) (fun x9 h9 => u_same (hts (.sameField RX8 RX4 "price" "I") (inG (i := 299) (by decide +kernel) rfl)) x9 h9) rfl (by decide +kernel) rfl rfl (Nat.le_of_ble_eq_true rfl) dX8_init_25 (fun H locs hP hD hS => ?_)
  have hP : va_P D classes (sW a ci [.int (k), .int (f), .int ((((6 + f) + 4) + 8)), .int (((1 + (f / 3)) + 2)), .int ((4 - 1)), .int (((5 + f) + 20)), .int ((3 + f))]) H := hP
  have hD : va_D A (sW a ci [.int (k), .int (f), .int ((((6 + f) + 4) + 8)), .int (((1 + (f / 3)) + 2)), .int ((4 - 1)), .int (((5 + f) + 20)), .int ((3 + f))]) := hD
  refine lv_aload_n hx hb dX8_init_28 rfl (lv_at hl 0 rfl) ?_
  refine lv_dup hx hb dX8_init_29 rfl ?_
  refine va_get (D := D) (cl := classes) (ci := ci) (C := C) (T := TX4) (N := 7) hx hb hts hin hown hK hP 0 rfl hC 6 (by decide) (hts (.fieldLink RX8 16 RX8 "costs" "I") (inG (i := 315) (by decide +kernel) rfl)) (fun x9 h9 => u_same (hts (.sameField RX8 RX4 "costs" "I") (inG (i := 316) (by decide +kernel) rfl)) x9 h9) rfl dX8_init_30 ?_
  refine lv_iconst (v := 2) hx hb dX8_init_33 (by decide) ?_
  refine lv_imul hx hb dX8_init_34 ?_
  refine va_put (D := D) (cl := classes) (ci := ci) (ty := .int) (C := C) (T := TX4) (N := 7) hx hb hts hin tyX4 tyX4_ok nmX4 hown hK hP hD hS 0 rfl hC 6 (by decide) (hts (.fieldLink RX8 16 RX8 "costs" "I") (inG (i := 315) (by decide +kernel) rfl)) (fun x9 h9 => u_same (hts (.sameField RX8 RX4 "costs" "I") (inG (i := 316) (by decide +kernel) rfl)) x9 h9) rfl (by decide +kernel) rfl rfl (Nat.le_of_ble_eq_true rfl) dX8_init_35 (fun H locs hP hD hS => ?_)
  have hP : va_P D classes (sW a ci [.int (k), .int (f), .int ((((6 + f) + 4) + 8)), .int (((1 + (f / 3)) + 2)), .int ((4 - 1)), .int (((5 + f) + 20)), .int (((3 + f) * 2))]) H := hP
  have hD : va_D A (sW a ci [.int (k), .int (f), .int ((((6 + f) + 4) + 8)), .int (((1 + (f / 3)) + 2)), .int ((4 - 1)), .int (((5 + f) + 20)), .int (((3 + f) * 2))]) := hD
  exact W.vret hx hb hr (fun t ht hW => ⟨⟨(), rfl, trivial, by show va_P D classes _ t.heap; rw [ht]; exact hP⟩, hS.F ht⟩) hS.2.2 dX8_init_38
/-! ===== a sheep made: what the call does (its rule: the part behind the constructors) ===== -/
/-- a new sheep at a: nothing else has changed -/
def newS (h h' : AH) (a : Nat) : Prop := h'.2.1 = h.2.1 ∧ h'.2.2 = h.2.2 ++ [a] ∧ (∀ t p i, ¬ (t = 18 ∧ p = a) → h'.1 t p i = h.1 t p i) ∧ ∀ t p i, h.2.1 t p i ≠ some a
def S_X10_newSheep (k f : Int32) (h : AH) (K : Option Nat → AH → Prop) : Prop := ((¬ ∃ i j, i ≤ 7 ∧ j ≤ 9 ∧ k = nI i ∧ f = nI j) → K none h) ∧ ∀ i j a h', i ≤ 7 → j ≤ 9 → k = nI i → f = nI j → newS h h' a → SHP h' (some a) i j → K (some a) h'
def T_X10_newSheep : List AV → AH → (Option Nat → AH → Prop) → Prop := fun as h K => match as with
  | [.inl q0, .inl q1] => S_X10_newSheep q0 q1 h K
  | _ => False

/-! ===== a sheep made: the walk of newSheep ===== -/
theorem joinL {D : va_G} {cl : List vw_C} {ws : va_W} {q : Nat} {e e' : va_E} {H H1 : Heap} {A0 : Nat → Prop} (hP : va_P D cl (ws ++ [(q, e)]) H) (hD : va_D A0 (ws ++ [(q, e)])) (hk : ∀ x : Nat, x < H.size → ¬ va_A [(q, e)] H.size x → H1[x]? = H[x]?) (hP1 : va_P D cl [(q, e')] H1) : va_P D cl (ws ++ [(q, e')]) H1 ∧ va_D A0 (ws ++ [(q, e')]) := by
  have hq : (ws ++ [(q, e)])[ws.length]? = some (q, e) := by rw [List.getElem?_append_right (Nat.le_refl _), Nat.sub_self]; rfl
  have hs : (ws ++ [(q, e)]).set ws.length (q, e') = ws ++ [(q, e')] := by rw [List.set_append_right _ _ (Nat.le_refl _), Nat.sub_self]; rfl
  refine ⟨va_P.app (fun k x hx => ?_) hP1, hs ▸ hD.set hq⟩
  have hl : k < ws.length := (List.getElem?_eq_some_iff.mp hx).1
  have hx2 : (ws ++ [(q, e)])[k]? = some x := by rw [List.getElem?_append_left hl]; exact hx
  have hat := hP k x hx2
  refine hat.kept (hk x.1 hat.lt (fun z => ?_))
  rcases z with ⟨j, e2, hj⟩ | z
  · have hz : j < 1 := (List.getElem?_eq_some_iff.mp hj).1
    rw [show j = 0 by omega] at hj
    cases hj
    have := hD.1 k ws.length x (x.1, e) hx2 hq rfl
    omega
  · exact Nat.lt_irrefl _ (Nat.lt_of_lt_of_le hat.lt z)
/-- the heap with one sheep more -/
def hNew (h : AH) (q : Nat) (F : Nat → Int32) : AH := (fun t p i => if t = 18 ∧ p = q then F i else h.1 t p i, h.2.1, h.2.2 ++ [q])
theorem objcl : ∀ t < 23, akin t = 0 ∨ akin t = 1 ∨ akin t = 2 ∨ akin t = 3 ∨ t = 0 ∨ t = 1 ∨ t = 12 ∨ t = 15 ∨ t = 18 := by decide +kernel
theorem cell_fx {G : GL} {h h' : AH} {t p : Nat} (hm : t < 23) (h18 : t ≠ 18) (h1 : h'.1 t p = h.1 t p) (h2 : h'.2.1 t p = h.2.1 t p) : cellE G h' t p = cellE G h t p := by
  have hf : flds G h' t p = flds G h t p := by
    unfold flds
    apply List.map_congr_left
    intro q _
    unfold fval
    rw [h1, h2]
  rcases objcl t hm with k | k | k | k | k | k | k | k | k
  · rw [cell_a0 k, cell_a0 k, h1]
  · rw [cell_a1 k, cell_a1 k, h1]
  · rw [cell_a2 k, cell_a2 k, h2]
  · rw [cell_a3 k, cell_a3 k]
  · subst k; rw [cell_ob G h' p rfl, cell_ob G h p rfl, hf]; rfl
  · subst k; rw [cell_ob G h' p rfl, cell_ob G h p rfl, hf]; rfl
  · subst k; rw [cell_ob G h' p rfl, cell_ob G h p rfl, hf]; rfl
  · subst k; rw [cell_ob G h' p rfl, cell_ob G h p rfl, hf]; rfl
  · exact absurd k h18
theorem fl18_7 (F : Nat → Int32) (G : GL) (h : AH) (q : Nat) : flds G (hNew h q F) 18 q = [.int (F 0), .int (F 1), .int (F 2), .int (F 3), .int (F 4), .int (F 5), .int (F 6)] := by
  unfold flds fl
  simp [fval, hNew, List.zipIdx]
theorem wl_new {G : GL} {h : AH} {q ci : Nat} {F : Nat → Int32} {A : Nat → Prop} {e : va_E} (hD : va_D A (wl G h ++ [(q, e)])) (hc : kcls (F 0) = ci) : wl G h ++ [(q, .inr (ci, [.int (F 0), .int (F 1), .int (F 2), .int (F 3), .int (F 4), .int (F 5), .int (F 6)]))] = wl G (hNew h q F) := by
  have hnq : q ∉ h.2.2 := by
    intro hq
    obtain ⟨j, hj, hw⟩ := wl_get (G := G) (idx_sh hq)
    have hl : j < (wl G h).length := (List.getElem?_eq_some_iff.mp hw).1
    have := hD.1 j (wl G h).length (q, cellE G h 18 q) (q, e) (by rw [List.getElem?_append_left hl]; exact hw) (by rw [List.getElem?_append_right (Nat.le_refl _), Nat.sub_self]; rfl) rfl
    omega
  have e1 : idx (hNew h q F) = idx h ++ [(18, q)] := by
    unfold idx hNew
    rw [List.map_append, ← List.append_assoc]
    rfl
  unfold wl
  rw [e1, List.map_append]
  congr 1
  · apply List.map_congr_left
    intro x hx
    unfold fW
    congr 1
    rcases List.mem_append.mp hx with hx | hx
    · have hm := fixed_mem.mp (show (x.1, x.2) ∈ fixed from hx)
      have h18 : x.1 ≠ 18 := fun z => fixed18 (p := x.2) (by rw [← z]; exact hx)
      exact (cell_fx (G := G) (h := h) (h' := hNew h q F) hm.1 h18 (funext fun i => if_neg (fun z => h18 z.1)) rfl).symm
    · obtain ⟨a, ha, rfl⟩ := List.mem_map.mp hx
      have hne : a ≠ q := fun z => hnq (by rw [← z]; exact ha)
      have hne1 : ∀ i, (hNew h q F).1 18 a i = h.1 18 a i := fun i => if_neg (fun z => hne z.2)
      exact (cell_eq (funext hne1) rfl (hne1 0)).symm
  · show _ = [fW G (hNew h q F) (18, q)]
    have e2 : fW G (hNew h q F) (18, q) = (q, cellE G (hNew h q F) 18 q) := rfl
    rw [e2, cell_ob G _ q rfl, fl18_7]
    have e3 : ocl (hNew h q F) 18 q = kcls (F 0) := by
      show kcls ((hNew h q F).1 18 q 0) = _
      rw [show (hNew h q F).1 18 q 0 = F 0 from if_pos ⟨rfl, rfl⟩]
    rw [e3, hc]
theorem newS_ok {h : AH} {q : Nat} {F : Nat → Int32} {G : GL} {A : Nat → Prop} {e : va_E} (ho : okh h) (hD : va_D A (wl G h ++ [(q, e)])) : newS h (hNew h q F) q := by
  refine ⟨rfl, rfl, fun t p i z => if_neg z, fun t p i z => ?_⟩
  have hq := ho t p i q z
  obtain ⟨j, hj, hw⟩ := wl_get (G := G) (idx_sh hq)
  have hl : j < (wl G h).length := (List.getElem?_eq_some_iff.mp hw).1
  have := hD.1 j (wl G h).length (q, cellE G h 18 q) (q, e) (by rw [List.getElem?_append_left hl]; exact hw) (by rw [List.getElem?_append_right (Nat.le_refl _), Nat.sub_self]; rfl) rfl
  omega
/-- the fields behind the constructor, by the kind -/
def fldS (L : List Value) : Nat → Int32 := fun i => match L[i]? with
  | some (.int x) => x
  | _ => 0
theorem SHP_nw {h : AH} {q i j : Nat} {F : Nat → Int32} (e : F 0 = nI i ∧ F 1 = nI j ∧ F 2 = nI (wt i j) ∧ F 3 = nI (stk i j) ∧ F 4 = nI (fly i) ∧ F 5 = nI (prc i j) ∧ F 6 = nI (cstk i j)) : SHP (hNew h q F) (some q) i j := by
  have g : ∀ n, (hNew h q F).1 18 q n = F n := fun n => if_pos ⟨rfl, rfl⟩
  exact ⟨q, rfl, by rw [g]; exact e.1, by rw [g]; exact e.2.1, by rw [g]; exact e.2.2.1, by rw [g]; exact e.2.2.2.1, by rw [g]; exact e.2.2.2.2.1, by rw [g]; exact e.2.2.2.2.2.1, by rw [g]; exact e.2.2.2.2.2.2⟩
theorem lastP {D : va_G} {cl : List vw_C} {ws : va_W} {x : Nat × va_E} {H : Heap} (hP : va_P D cl (ws ++ [x]) H) : va_P D cl [x] H := fun k y hy => hP (ws.length + k) y (by rw [List.getElem?_append_right (Nat.le_add_right _ _), Nat.add_sub_cancel_left]; exact hy)
theorem lastD {A : Nat → Prop} {ws : va_W} {x : Nat × va_E} (hD : va_D A (ws ++ [x])) : va_D A [x] := by
  refine ⟨fun i j p q hi hj _ => ?_, fun k y hy => hD.2 (ws.length + k) y (by rw [List.getElem?_append_right (Nat.le_add_right _ _), Nat.add_sub_cancel_left]; exact hy)⟩
  have h1 : i < 1 := (List.getElem?_eq_some_iff.mp hi).1
  have h2 : j < 1 := (List.getElem?_eq_some_iff.mp hj).1
  omega
theorem lastF {A0 : Nat → Prop} {ws : va_W} {x : Nat × va_E} {H0 H : Heap} {locs : List Loc} (hD : va_D A0 (ws ++ [x])) (hS : va_S A0 H0 H locs) (hA : ∀ q, H0.size ≤ q → A0 q) : ∀ z, va_A [x] H.size z → A0 z := by
  intro z hz
  rcases hz with ⟨k, e, hz⟩ | hz
  · exact (lastD hD).2 k (z, e) hz
  · exact hA z (Nat.le_trans hS.1 hz)
theorem okh_new {h : AH} {q : Nat} {F : Nat → Int32} (o : okh h) : okh (hNew h q F) := fun t p i a e => List.mem_append_left _ (o t p i a e)
def M_X10_newSheep : MI := (RX10, cX10_newSheep, 2, [(0, .iload_n 1, []), (1, .iconst 0, []), (2, .bipush 9, []), (4, .invokestatic 59, []), (7, .ifCond .ne 5, [12]), (10, .aconst_null, []), (11, .areturn, []), (12, .iload_n 0, []), (13, .tableswitch 127 0 7 #[47, 57, 67, 77, 87, 97, 107, 117], [140, 60, 70, 80, 90, 100, 110, 120, 130]), (140, .aconst_null, []), (141, .areturn, [])], [], [], [], [(178, (3, 1, 22, 0, 0, .inl T_X10_within))], 4, 78, 1, 7)
theorem ok_X10_newSheep : MOK M_X10_newSheep := ⟨by decide +kernel, fun _ h => absurd h List.not_mem_nil, fun _ h => absurd h List.not_mem_nil, fun _ h => absurd h List.not_mem_nil, List.forall_mem_cons.mpr ⟨⟨Nat.le_of_ble_eq_true rfl, Nat.le_of_ble_eq_true rfl, cr_RX10_178⟩, fun _ h => absurd h List.not_mem_nil⟩⟩
theorem dX10_newSheep_13 : decode cX10_newSheep 13 = .ok (.tableswitch 127 0 7 #[47, 57, 67, 77, 87, 97, 107, 117], 47) := by decide +kernel
theorem dX10_newSheep_60 : decode cX10_newSheep 60 = .ok (.new 92, 3) := by decide +kernel
theorem dX10_newSheep_63 : decode cX10_newSheep 63 = .ok (.dup, 1) := by decide +kernel
theorem dX10_newSheep_64 : decode cX10_newSheep 64 = .ok (.iload_n 0, 1) := by decide +kernel
theorem dX10_newSheep_65 : decode cX10_newSheep 65 = .ok (.iload_n 1, 1) := by decide +kernel
theorem dX10_newSheep_66 : decode cX10_newSheep 66 = .ok (.invokespecial 285, 3) := by decide +kernel
theorem dX10_newSheep_69 : decode cX10_newSheep 69 = .ok (.areturn, 1) := by decide +kernel
theorem dX10_newSheep_70 : decode cX10_newSheep 70 = .ok (.new 287, 3) := by decide +kernel
theorem dX10_newSheep_73 : decode cX10_newSheep 73 = .ok (.dup, 1) := by decide +kernel
theorem dX10_newSheep_74 : decode cX10_newSheep 74 = .ok (.iload_n 0, 1) := by decide +kernel
theorem dX10_newSheep_75 : decode cX10_newSheep 75 = .ok (.iload_n 1, 1) := by decide +kernel
theorem dX10_newSheep_76 : decode cX10_newSheep 76 = .ok (.invokespecial 289, 3) := by decide +kernel
theorem dX10_newSheep_79 : decode cX10_newSheep 79 = .ok (.areturn, 1) := by decide +kernel
theorem dX10_newSheep_80 : decode cX10_newSheep 80 = .ok (.new 290, 3) := by decide +kernel
theorem dX10_newSheep_83 : decode cX10_newSheep 83 = .ok (.dup, 1) := by decide +kernel
theorem dX10_newSheep_84 : decode cX10_newSheep 84 = .ok (.iload_n 0, 1) := by decide +kernel
theorem dX10_newSheep_85 : decode cX10_newSheep 85 = .ok (.iload_n 1, 1) := by decide +kernel
theorem dX10_newSheep_86 : decode cX10_newSheep 86 = .ok (.invokespecial 292, 3) := by decide +kernel
theorem dX10_newSheep_89 : decode cX10_newSheep 89 = .ok (.areturn, 1) := by decide +kernel
theorem dX10_newSheep_90 : decode cX10_newSheep 90 = .ok (.new 293, 3) := by decide +kernel
theorem dX10_newSheep_93 : decode cX10_newSheep 93 = .ok (.dup, 1) := by decide +kernel
theorem dX10_newSheep_94 : decode cX10_newSheep 94 = .ok (.iload_n 0, 1) := by decide +kernel
theorem dX10_newSheep_95 : decode cX10_newSheep 95 = .ok (.iload_n 1, 1) := by decide +kernel
theorem dX10_newSheep_96 : decode cX10_newSheep 96 = .ok (.invokespecial 295, 3) := by decide +kernel
theorem dX10_newSheep_99 : decode cX10_newSheep 99 = .ok (.areturn, 1) := by decide +kernel
theorem dX10_newSheep_100 : decode cX10_newSheep 100 = .ok (.new 296, 3) := by decide +kernel
theorem dX10_newSheep_103 : decode cX10_newSheep 103 = .ok (.dup, 1) := by decide +kernel
theorem dX10_newSheep_104 : decode cX10_newSheep 104 = .ok (.iload_n 0, 1) := by decide +kernel
theorem dX10_newSheep_105 : decode cX10_newSheep 105 = .ok (.iload_n 1, 1) := by decide +kernel
theorem dX10_newSheep_106 : decode cX10_newSheep 106 = .ok (.invokespecial 298, 3) := by decide +kernel
theorem dX10_newSheep_109 : decode cX10_newSheep 109 = .ok (.areturn, 1) := by decide +kernel
theorem dX10_newSheep_110 : decode cX10_newSheep 110 = .ok (.new 299, 3) := by decide +kernel
theorem dX10_newSheep_113 : decode cX10_newSheep 113 = .ok (.dup, 1) := by decide +kernel
theorem dX10_newSheep_114 : decode cX10_newSheep 114 = .ok (.iload_n 0, 1) := by decide +kernel
theorem dX10_newSheep_115 : decode cX10_newSheep 115 = .ok (.iload_n 1, 1) := by decide +kernel
theorem dX10_newSheep_116 : decode cX10_newSheep 116 = .ok (.invokespecial 301, 3) := by decide +kernel
theorem dX10_newSheep_119 : decode cX10_newSheep 119 = .ok (.areturn, 1) := by decide +kernel
theorem dX10_newSheep_120 : decode cX10_newSheep 120 = .ok (.new 302, 3) := by decide +kernel
theorem dX10_newSheep_123 : decode cX10_newSheep 123 = .ok (.dup, 1) := by decide +kernel
theorem dX10_newSheep_124 : decode cX10_newSheep 124 = .ok (.iload_n 0, 1) := by decide +kernel
theorem dX10_newSheep_125 : decode cX10_newSheep 125 = .ok (.iload_n 1, 1) := by decide +kernel
theorem dX10_newSheep_126 : decode cX10_newSheep 126 = .ok (.invokespecial 304, 3) := by decide +kernel
theorem dX10_newSheep_129 : decode cX10_newSheep 129 = .ok (.areturn, 1) := by decide +kernel
theorem dX10_newSheep_130 : decode cX10_newSheep 130 = .ok (.new 305, 3) := by decide +kernel
theorem dX10_newSheep_133 : decode cX10_newSheep 133 = .ok (.dup, 1) := by decide +kernel
theorem dX10_newSheep_134 : decode cX10_newSheep 134 = .ok (.iload_n 0, 1) := by decide +kernel
theorem dX10_newSheep_135 : decode cX10_newSheep 135 = .ok (.iload_n 1, 1) := by decide +kernel
theorem dX10_newSheep_136 : decode cX10_newSheep 136 = .ok (.invokespecial 307, 3) := by decide +kernel
theorem dX10_newSheep_139 : decode cX10_newSheep 139 = .ok (.areturn, 1) := by decide +kernel
theorem sf_0 : ∀ j, j < 10 → (fldS [.int ((nI 0)), .int ((nI j)), .int ((6 + (nI j))), .int ((1 + ((nI j) / 3))), .int (4), .int (5), .int (3)] 0 = nI 0 ∧ fldS [.int ((nI 0)), .int ((nI j)), .int ((6 + (nI j))), .int ((1 + ((nI j) / 3))), .int (4), .int (5), .int (3)] 1 = nI j ∧ fldS [.int ((nI 0)), .int ((nI j)), .int ((6 + (nI j))), .int ((1 + ((nI j) / 3))), .int (4), .int (5), .int (3)] 2 = nI (wt 0 j) ∧ fldS [.int ((nI 0)), .int ((nI j)), .int ((6 + (nI j))), .int ((1 + ((nI j) / 3))), .int (4), .int (5), .int (3)] 3 = nI (stk 0 j) ∧ fldS [.int ((nI 0)), .int ((nI j)), .int ((6 + (nI j))), .int ((1 + ((nI j) / 3))), .int (4), .int (5), .int (3)] 4 = nI (fly 0) ∧ fldS [.int ((nI 0)), .int ((nI j)), .int ((6 + (nI j))), .int ((1 + ((nI j) / 3))), .int (4), .int (5), .int (3)] 5 = nI (prc 0 j) ∧ fldS [.int ((nI 0)), .int ((nI j)), .int ((6 + (nI j))), .int ((1 + ((nI j) / 3))), .int (4), .int (5), .int (3)] 6 = nI (cstk 0 j)) := by decide +kernel
set_option maxHeartbeats 4000000 in
set_option maxRecDepth 100000 in
theorem nw_0 {h : AH} {K : Option Nat → AH → Prop} {j : Nat} (hj : j < 10) (hk : ∀ q h', newS h h' q → SHP h' (some q) 0 j → K (some q) h') : AW M_X10_newSheep (.inr (.inr (.inr K))) 60 [some (aI (nI 0)), some (aI (nI j))] [] h 0 0 := by
  intro G p l e R s m args below meth c H locs ls Qf S0 hC hK hE hW hS0 hkc hks hL hst hl hlen
  obtain ⟨hx, hb, hml, hown, hts, hr1, hr2, hr3, hr4⟩ := hC
  have hl : lv_has ls 2 [(0, .int (nI 0)), (1, .int (nI j))] := hl
  have hA : ∀ q : Nat, s.heap.size ≤ q → gA0 G q := fun q h => gok_A hK.2.1 h
  have hr3 : 1 ≤ R.cells := hr3
  have hr4 : 7 ≤ R.slots := hr4
  have hr1 : 4 ≤ R.frames := hr1
  have hr2 : 78 ≤ R.locals := hr2
  refine va_new (D := (G.1, G.2.1)) (cl := classes) (ci := 4) (fs := [.int (0), .int (0), .int (0), .int (0), .int (0), .int (0), .int (0)]) (C := RX4) (T := TX4) (N := 7) hx hb hts inX4 tyX4 tyX4_ok hown (hts (.classLink RX10 92 RX4) (inG (i := 241) (by decide +kernel) rfl)) (hts (.instantiable RX4 7) (inG (i := 242) (by decide +kernel) rfl)) (hts (.initialized RX4) (inG (i := 42) (by decide +kernel) rfl)) hK.1 hW.2.1 hW.2.2.1 hW.2.2.2 hA rfl (fun j hj => by rcases (show j = 0 ∨ j = 1 ∨ j = 2 ∨ j = 3 ∨ j = 4 ∨ j = 5 ∨ j = 6 by omega) with rfl | rfl | rfl | rfl | rfl | rfl | rfl <;> rfl) hr3 hr4 dX10_newSheep_60 (fun q H hP hD hS => ?_)
  refine lv_dup hx hb dX10_newSheep_63 rfl ?_
  refine lv_iload_n hx hb dX10_newSheep_64 rfl (lv_at hl 0 rfl) ?_
  refine lv_iload_n hx hb dX10_newSheep_65 rfl (lv_at hl 1 rfl) ?_
  have hFc := lastF hD hS hA
  have hKc : va_K (G.1, G.2.1) classes [] s := hK.1.sub (tys' := []) [] rfl
  refine va_callv (va_runI (As := [.int (nI 0), .int (nI j)]) (rest := [.ref q]) ⟨hx, hb, hml, hown, hts⟩ (c_X4 l (G.1, G.2.1) q 4 H.size rfl inX4 (nI 0) (nI j)) (cwI 2 hts (goodG (List.forall_mem_cons.mpr ⟨(inG (i := 245) (by decide +kernel) rfl), fun _ h => h⟩)) rfl rfl rfl (hts (.initialized RX4) (inG (i := 42) (by decide +kernel) rfl)) (hts (.methodLink RX10 285 yX4_init) (inG (i := 243) (by decide +kernel) rfl)) (hts (.instanceMethod yX4_init) (inG (i := 244) (by decide +kernel) rfl)) rfl (by decide +kernel) ⟨Nat.le_trans (Nat.le_of_ble_eq_true rfl) hr1, Nat.le_trans (Nat.le_of_ble_eq_true rfl) hr2⟩) ⟨fun a U g mk q => by obtain ⟨q0, q1, qP, qK, qD⟩ := q; exact ⟨q0, q1, qP, va_K.moved (u := U) (U := U.calling g mk a) (Vm.Alike.refl U.vm) qK, qD⟩, fun U hU hW => ⟨rfl, by rw [hU], by rw [hU]; exact lastP hP, va_K.moved hW.alike hKc, (lastD hD).weaken (fun _ _ _ _ => trivial)⟩⟩ rfl rfl hl.1 rfl (lv_room (Nat.le_of_ble_eq_true rfl)) dX10_newSheep_66 ⟨hr3, hr4⟩) hS (fun q _ h => hFc q h) hFc (fun u t H1 locs ht hvm hw hB hz1 hk1 hS => ?_)
  rw [ht] at hB
  obtain ⟨hP2, hD2⟩ := joinL hP hD hk1 hB
  have ew := wl_new (F := fldS [.int ((nI 0)), .int ((nI j)), .int ((6 + (nI j))), .int ((1 + ((nI j) / 3))), .int (4), .int (5), .int (3)]) hD (show kcls (nI 0) = 4 by decide)
  have hP3 : va_P (G.1, G.2.1) classes (wl G (hNew h q (fldS [.int ((nI 0)), .int ((nI j)), .int ((6 + (nI j))), .int ((1 + ((nI j) / 3))), .int (4), .int (5), .int (3)]))) H1 := ew ▸ hP2
  have hD3 : va_D (gA0 G) (wl G (hNew h q (fldS [.int ((nI 0)), .int ((nI j)), .int ((6 + (nI j))), .int ((1 + ((nI j) / 3))), .int (4), .int (5), .int (3)]))) := ew ▸ hD2
  exact hE (some q) (hNew h q (fldS [.int ((nI 0)), .int ((nI j)), .int ((6 + (nI j))), .int ((1 + ((nI j) / 3))), .int (4), .int (5), .int (3)])) H1 locs 1 7 69 ls dX10_newSheep_69 (hk q _ (newS_ok hW.1 hD) (SHP_nw (sf_0 j hj))) (List.mem_append_right _ List.mem_cons_self) ⟨okh_new hW.1, hP3, hD3, hS⟩ (fun a ha => List.mem_append_left _ (hS0 a ha)) (Nat.le_refl _) (Nat.le_refl _)
theorem sf_1 : ∀ j, j < 10 → (fldS [.int ((nI 1)), .int ((nI j)), .int (((6 + (nI j)) - 3)), .int (((1 + ((nI j) / 3)) - 1)), .int ((4 + 2)), .int ((5 - 2)), .int ((3 - 1))] 0 = nI 1 ∧ fldS [.int ((nI 1)), .int ((nI j)), .int (((6 + (nI j)) - 3)), .int (((1 + ((nI j) / 3)) - 1)), .int ((4 + 2)), .int ((5 - 2)), .int ((3 - 1))] 1 = nI j ∧ fldS [.int ((nI 1)), .int ((nI j)), .int (((6 + (nI j)) - 3)), .int (((1 + ((nI j) / 3)) - 1)), .int ((4 + 2)), .int ((5 - 2)), .int ((3 - 1))] 2 = nI (wt 1 j) ∧ fldS [.int ((nI 1)), .int ((nI j)), .int (((6 + (nI j)) - 3)), .int (((1 + ((nI j) / 3)) - 1)), .int ((4 + 2)), .int ((5 - 2)), .int ((3 - 1))] 3 = nI (stk 1 j) ∧ fldS [.int ((nI 1)), .int ((nI j)), .int (((6 + (nI j)) - 3)), .int (((1 + ((nI j) / 3)) - 1)), .int ((4 + 2)), .int ((5 - 2)), .int ((3 - 1))] 4 = nI (fly 1) ∧ fldS [.int ((nI 1)), .int ((nI j)), .int (((6 + (nI j)) - 3)), .int (((1 + ((nI j) / 3)) - 1)), .int ((4 + 2)), .int ((5 - 2)), .int ((3 - 1))] 5 = nI (prc 1 j) ∧ fldS [.int ((nI 1)), .int ((nI j)), .int (((6 + (nI j)) - 3)), .int (((1 + ((nI j) / 3)) - 1)), .int ((4 + 2)), .int ((5 - 2)), .int ((3 - 1))] 6 = nI (cstk 1 j)) := by decide +kernel
set_option maxHeartbeats 4000000 in
set_option maxRecDepth 100000 in
theorem nw_1 {h : AH} {K : Option Nat → AH → Prop} {j : Nat} (hj : j < 10) (hk : ∀ q h', newS h h' q → SHP h' (some q) 1 j → K (some q) h') : AW M_X10_newSheep (.inr (.inr (.inr K))) 70 [some (aI (nI 1)), some (aI (nI j))] [] h 0 0 := by
  intro G p l e R s m args below meth c H locs ls Qf S0 hC hK hE hW hS0 hkc hks hL hst hl hlen
  obtain ⟨hx, hb, hml, hown, hts, hr1, hr2, hr3, hr4⟩ := hC
  have hl : lv_has ls 2 [(0, .int (nI 1)), (1, .int (nI j))] := hl
  have hA : ∀ q : Nat, s.heap.size ≤ q → gA0 G q := fun q h => gok_A hK.2.1 h
  have hr3 : 1 ≤ R.cells := hr3
  have hr4 : 7 ≤ R.slots := hr4
  have hr1 : 4 ≤ R.frames := hr1
  have hr2 : 78 ≤ R.locals := hr2
  refine va_new (D := (G.1, G.2.1)) (cl := classes) (ci := 7) (fs := [.int (0), .int (0), .int (0), .int (0), .int (0), .int (0), .int (0)]) (C := RX7) (T := TX4) (N := 7) hx hb hts inX7 tyX4 tyX4_ok hown (hts (.classLink RX10 287 RX7) (inG (i := 342) (by decide +kernel) rfl)) (hts (.instantiable RX7 7) (inG (i := 343) (by decide +kernel) rfl)) (hts (.initialized RX7) (inG (i := 43) (by decide +kernel) rfl)) hK.1 hW.2.1 hW.2.2.1 hW.2.2.2 hA rfl (fun j hj => by rcases (show j = 0 ∨ j = 1 ∨ j = 2 ∨ j = 3 ∨ j = 4 ∨ j = 5 ∨ j = 6 by omega) with rfl | rfl | rfl | rfl | rfl | rfl | rfl <;> rfl) hr3 hr4 dX10_newSheep_70 (fun q H hP hD hS => ?_)
  refine lv_dup hx hb dX10_newSheep_73 rfl ?_
  refine lv_iload_n hx hb dX10_newSheep_74 rfl (lv_at hl 0 rfl) ?_
  refine lv_iload_n hx hb dX10_newSheep_75 rfl (lv_at hl 1 rfl) ?_
  have hFc := lastF hD hS hA
  have hKc : va_K (G.1, G.2.1) classes [] s := hK.1.sub (tys' := []) [] rfl
  refine va_callv (va_runI (As := [.int (nI 1), .int (nI j)]) (rest := [.ref q]) ⟨hx, hb, hml, hown, hts⟩ (c_X7 l (G.1, G.2.1) q 7 H.size rfl inX7 (nI 1) (nI j)) (cwI 2 hts (goodG (List.forall_mem_cons.mpr ⟨(inG (i := 346) (by decide +kernel) rfl), fun _ h => h⟩)) rfl rfl rfl (hts (.initialized RX7) (inG (i := 43) (by decide +kernel) rfl)) (hts (.methodLink RX10 289 yX7_init) (inG (i := 344) (by decide +kernel) rfl)) (hts (.instanceMethod yX7_init) (inG (i := 345) (by decide +kernel) rfl)) rfl (by decide +kernel) ⟨Nat.le_trans (Nat.le_of_ble_eq_true rfl) hr1, Nat.le_trans (Nat.le_of_ble_eq_true rfl) hr2⟩) ⟨fun a U g mk q => by obtain ⟨q0, q1, qP, qK, qD⟩ := q; exact ⟨q0, q1, qP, va_K.moved (u := U) (U := U.calling g mk a) (Vm.Alike.refl U.vm) qK, qD⟩, fun U hU hW => ⟨rfl, by rw [hU], by rw [hU]; exact lastP hP, va_K.moved hW.alike hKc, (lastD hD).weaken (fun _ _ _ _ => trivial)⟩⟩ rfl rfl hl.1 rfl (lv_room (Nat.le_of_ble_eq_true rfl)) dX10_newSheep_76 ⟨hr3, hr4⟩) hS (fun q _ h => hFc q h) hFc (fun u t H1 locs ht hvm hw hB hz1 hk1 hS => ?_)
  rw [ht] at hB
  obtain ⟨hP2, hD2⟩ := joinL hP hD hk1 hB
  have ew := wl_new (F := fldS [.int ((nI 1)), .int ((nI j)), .int (((6 + (nI j)) - 3)), .int (((1 + ((nI j) / 3)) - 1)), .int ((4 + 2)), .int ((5 - 2)), .int ((3 - 1))]) hD (show kcls (nI 1) = 7 by decide)
  have hP3 : va_P (G.1, G.2.1) classes (wl G (hNew h q (fldS [.int ((nI 1)), .int ((nI j)), .int (((6 + (nI j)) - 3)), .int (((1 + ((nI j) / 3)) - 1)), .int ((4 + 2)), .int ((5 - 2)), .int ((3 - 1))]))) H1 := ew ▸ hP2
  have hD3 : va_D (gA0 G) (wl G (hNew h q (fldS [.int ((nI 1)), .int ((nI j)), .int (((6 + (nI j)) - 3)), .int (((1 + ((nI j) / 3)) - 1)), .int ((4 + 2)), .int ((5 - 2)), .int ((3 - 1))]))) := ew ▸ hD2
  exact hE (some q) (hNew h q (fldS [.int ((nI 1)), .int ((nI j)), .int (((6 + (nI j)) - 3)), .int (((1 + ((nI j) / 3)) - 1)), .int ((4 + 2)), .int ((5 - 2)), .int ((3 - 1))])) H1 locs 1 7 79 ls dX10_newSheep_79 (hk q _ (newS_ok hW.1 hD) (SHP_nw (sf_1 j hj))) (List.mem_append_right _ List.mem_cons_self) ⟨okh_new hW.1, hP3, hD3, hS⟩ (fun a ha => List.mem_append_left _ (hS0 a ha)) (Nat.le_refl _) (Nat.le_refl _)
theorem sf_2 : ∀ j, j < 10 → (fldS [.int ((nI 2)), .int ((nI j)), .int (((6 + (nI j)) + 4)), .int (((1 + ((nI j) / 3)) + 2)), .int ((4 - 1)), .int ((5 + (nI j))), .int ((3 + (nI j)))] 0 = nI 2 ∧ fldS [.int ((nI 2)), .int ((nI j)), .int (((6 + (nI j)) + 4)), .int (((1 + ((nI j) / 3)) + 2)), .int ((4 - 1)), .int ((5 + (nI j))), .int ((3 + (nI j)))] 1 = nI j ∧ fldS [.int ((nI 2)), .int ((nI j)), .int (((6 + (nI j)) + 4)), .int (((1 + ((nI j) / 3)) + 2)), .int ((4 - 1)), .int ((5 + (nI j))), .int ((3 + (nI j)))] 2 = nI (wt 2 j) ∧ fldS [.int ((nI 2)), .int ((nI j)), .int (((6 + (nI j)) + 4)), .int (((1 + ((nI j) / 3)) + 2)), .int ((4 - 1)), .int ((5 + (nI j))), .int ((3 + (nI j)))] 3 = nI (stk 2 j) ∧ fldS [.int ((nI 2)), .int ((nI j)), .int (((6 + (nI j)) + 4)), .int (((1 + ((nI j) / 3)) + 2)), .int ((4 - 1)), .int ((5 + (nI j))), .int ((3 + (nI j)))] 4 = nI (fly 2) ∧ fldS [.int ((nI 2)), .int ((nI j)), .int (((6 + (nI j)) + 4)), .int (((1 + ((nI j) / 3)) + 2)), .int ((4 - 1)), .int ((5 + (nI j))), .int ((3 + (nI j)))] 5 = nI (prc 2 j) ∧ fldS [.int ((nI 2)), .int ((nI j)), .int (((6 + (nI j)) + 4)), .int (((1 + ((nI j) / 3)) + 2)), .int ((4 - 1)), .int ((5 + (nI j))), .int ((3 + (nI j)))] 6 = nI (cstk 2 j)) := by decide +kernel
set_option maxHeartbeats 4000000 in
set_option maxRecDepth 100000 in
theorem nw_2 {h : AH} {K : Option Nat → AH → Prop} {j : Nat} (hj : j < 10) (hk : ∀ q h', newS h h' q → SHP h' (some q) 2 j → K (some q) h') : AW M_X10_newSheep (.inr (.inr (.inr K))) 80 [some (aI (nI 2)), some (aI (nI j))] [] h 0 0 := by
  intro G p l e R s m args below meth c H locs ls Qf S0 hC hK hE hW hS0 hkc hks hL hst hl hlen
  obtain ⟨hx, hb, hml, hown, hts, hr1, hr2, hr3, hr4⟩ := hC
  have hl : lv_has ls 2 [(0, .int (nI 2)), (1, .int (nI j))] := hl
  have hA : ∀ q : Nat, s.heap.size ≤ q → gA0 G q := fun q h => gok_A hK.2.1 h
  have hr3 : 1 ≤ R.cells := hr3
  have hr4 : 7 ≤ R.slots := hr4
  have hr1 : 4 ≤ R.frames := hr1
  have hr2 : 78 ≤ R.locals := hr2
  refine va_new (D := (G.1, G.2.1)) (cl := classes) (ci := 2) (fs := [.int (0), .int (0), .int (0), .int (0), .int (0), .int (0), .int (0)]) (C := RX2) (T := TX4) (N := 7) hx hb hts inX2 tyX4 tyX4_ok hown (hts (.classLink RX10 290 RX2) (inG (i := 356) (by decide +kernel) rfl)) (hts (.instantiable RX2 7) (inG (i := 357) (by decide +kernel) rfl)) (hts (.initialized RX2) (inG (i := 44) (by decide +kernel) rfl)) hK.1 hW.2.1 hW.2.2.1 hW.2.2.2 hA rfl (fun j hj => by rcases (show j = 0 ∨ j = 1 ∨ j = 2 ∨ j = 3 ∨ j = 4 ∨ j = 5 ∨ j = 6 by omega) with rfl | rfl | rfl | rfl | rfl | rfl | rfl <;> rfl) hr3 hr4 dX10_newSheep_80 (fun q H hP hD hS => ?_)
  refine lv_dup hx hb dX10_newSheep_83 rfl ?_
  refine lv_iload_n hx hb dX10_newSheep_84 rfl (lv_at hl 0 rfl) ?_
  refine lv_iload_n hx hb dX10_newSheep_85 rfl (lv_at hl 1 rfl) ?_
  have hFc := lastF hD hS hA
  have hKc : va_K (G.1, G.2.1) classes [] s := hK.1.sub (tys' := []) [] rfl
  refine va_callv (va_runI (As := [.int (nI 2), .int (nI j)]) (rest := [.ref q]) ⟨hx, hb, hml, hown, hts⟩ (c_X2 l (G.1, G.2.1) q 2 H.size rfl inX2 (nI 2) (nI j)) (cwI 2 hts (goodG (List.forall_mem_cons.mpr ⟨(inG (i := 360) (by decide +kernel) rfl), fun _ h => h⟩)) rfl rfl rfl (hts (.initialized RX2) (inG (i := 44) (by decide +kernel) rfl)) (hts (.methodLink RX10 292 yX2_init) (inG (i := 358) (by decide +kernel) rfl)) (hts (.instanceMethod yX2_init) (inG (i := 359) (by decide +kernel) rfl)) rfl (by decide +kernel) ⟨Nat.le_trans (Nat.le_of_ble_eq_true rfl) hr1, Nat.le_trans (Nat.le_of_ble_eq_true rfl) hr2⟩) ⟨fun a U g mk q => by obtain ⟨q0, q1, qP, qK, qD⟩ := q; exact ⟨q0, q1, qP, va_K.moved (u := U) (U := U.calling g mk a) (Vm.Alike.refl U.vm) qK, qD⟩, fun U hU hW => ⟨rfl, by rw [hU], by rw [hU]; exact lastP hP, va_K.moved hW.alike hKc, (lastD hD).weaken (fun _ _ _ _ => trivial)⟩⟩ rfl rfl hl.1 rfl (lv_room (Nat.le_of_ble_eq_true rfl)) dX10_newSheep_86 ⟨hr3, hr4⟩) hS (fun q _ h => hFc q h) hFc (fun u t H1 locs ht hvm hw hB hz1 hk1 hS => ?_)
  rw [ht] at hB
  obtain ⟨hP2, hD2⟩ := joinL hP hD hk1 hB
  have ew := wl_new (F := fldS [.int ((nI 2)), .int ((nI j)), .int (((6 + (nI j)) + 4)), .int (((1 + ((nI j) / 3)) + 2)), .int ((4 - 1)), .int ((5 + (nI j))), .int ((3 + (nI j)))]) hD (show kcls (nI 2) = 2 by decide)
  have hP3 : va_P (G.1, G.2.1) classes (wl G (hNew h q (fldS [.int ((nI 2)), .int ((nI j)), .int (((6 + (nI j)) + 4)), .int (((1 + ((nI j) / 3)) + 2)), .int ((4 - 1)), .int ((5 + (nI j))), .int ((3 + (nI j)))]))) H1 := ew ▸ hP2
  have hD3 : va_D (gA0 G) (wl G (hNew h q (fldS [.int ((nI 2)), .int ((nI j)), .int (((6 + (nI j)) + 4)), .int (((1 + ((nI j) / 3)) + 2)), .int ((4 - 1)), .int ((5 + (nI j))), .int ((3 + (nI j)))]))) := ew ▸ hD2
  exact hE (some q) (hNew h q (fldS [.int ((nI 2)), .int ((nI j)), .int (((6 + (nI j)) + 4)), .int (((1 + ((nI j) / 3)) + 2)), .int ((4 - 1)), .int ((5 + (nI j))), .int ((3 + (nI j)))])) H1 locs 1 7 89 ls dX10_newSheep_89 (hk q _ (newS_ok hW.1 hD) (SHP_nw (sf_2 j hj))) (List.mem_append_right _ List.mem_cons_self) ⟨okh_new hW.1, hP3, hD3, hS⟩ (fun a ha => List.mem_append_left _ (hS0 a ha)) (Nat.le_refl _) (Nat.le_refl _)
theorem sf_3 : ∀ j, j < 10 → (fldS [.int ((nI 3)), .int ((nI j)), .int ((((6 + (nI j)) + 4) + 8)), .int (((1 + ((nI j) / 3)) + 2)), .int ((4 - 1)), .int (((5 + (nI j)) + 20)), .int (((3 + (nI j)) * 2))] 0 = nI 3 ∧ fldS [.int ((nI 3)), .int ((nI j)), .int ((((6 + (nI j)) + 4) + 8)), .int (((1 + ((nI j) / 3)) + 2)), .int ((4 - 1)), .int (((5 + (nI j)) + 20)), .int (((3 + (nI j)) * 2))] 1 = nI j ∧ fldS [.int ((nI 3)), .int ((nI j)), .int ((((6 + (nI j)) + 4) + 8)), .int (((1 + ((nI j) / 3)) + 2)), .int ((4 - 1)), .int (((5 + (nI j)) + 20)), .int (((3 + (nI j)) * 2))] 2 = nI (wt 3 j) ∧ fldS [.int ((nI 3)), .int ((nI j)), .int ((((6 + (nI j)) + 4) + 8)), .int (((1 + ((nI j) / 3)) + 2)), .int ((4 - 1)), .int (((5 + (nI j)) + 20)), .int (((3 + (nI j)) * 2))] 3 = nI (stk 3 j) ∧ fldS [.int ((nI 3)), .int ((nI j)), .int ((((6 + (nI j)) + 4) + 8)), .int (((1 + ((nI j) / 3)) + 2)), .int ((4 - 1)), .int (((5 + (nI j)) + 20)), .int (((3 + (nI j)) * 2))] 4 = nI (fly 3) ∧ fldS [.int ((nI 3)), .int ((nI j)), .int ((((6 + (nI j)) + 4) + 8)), .int (((1 + ((nI j) / 3)) + 2)), .int ((4 - 1)), .int (((5 + (nI j)) + 20)), .int (((3 + (nI j)) * 2))] 5 = nI (prc 3 j) ∧ fldS [.int ((nI 3)), .int ((nI j)), .int ((((6 + (nI j)) + 4) + 8)), .int (((1 + ((nI j) / 3)) + 2)), .int ((4 - 1)), .int (((5 + (nI j)) + 20)), .int (((3 + (nI j)) * 2))] 6 = nI (cstk 3 j)) := by decide +kernel
set_option maxHeartbeats 4000000 in
set_option maxRecDepth 100000 in
theorem nw_3 {h : AH} {K : Option Nat → AH → Prop} {j : Nat} (hj : j < 10) (hk : ∀ q h', newS h h' q → SHP h' (some q) 3 j → K (some q) h') : AW M_X10_newSheep (.inr (.inr (.inr K))) 90 [some (aI (nI 3)), some (aI (nI j))] [] h 0 0 := by
  intro G p l e R s m args below meth c H locs ls Qf S0 hC hK hE hW hS0 hkc hks hL hst hl hlen
  obtain ⟨hx, hb, hml, hown, hts, hr1, hr2, hr3, hr4⟩ := hC
  have hl : lv_has ls 2 [(0, .int (nI 3)), (1, .int (nI j))] := hl
  have hA : ∀ q : Nat, s.heap.size ≤ q → gA0 G q := fun q h => gok_A hK.2.1 h
  have hr3 : 1 ≤ R.cells := hr3
  have hr4 : 7 ≤ R.slots := hr4
  have hr1 : 4 ≤ R.frames := hr1
  have hr2 : 78 ≤ R.locals := hr2
  refine va_new (D := (G.1, G.2.1)) (cl := classes) (ci := 8) (fs := [.int (0), .int (0), .int (0), .int (0), .int (0), .int (0), .int (0)]) (C := RX8) (T := TX4) (N := 7) hx hb hts inX8 tyX4 tyX4_ok hown (hts (.classLink RX10 293 RX8) (inG (i := 370) (by decide +kernel) rfl)) (hts (.instantiable RX8 7) (inG (i := 371) (by decide +kernel) rfl)) (hts (.initialized RX8) (inG (i := 45) (by decide +kernel) rfl)) hK.1 hW.2.1 hW.2.2.1 hW.2.2.2 hA rfl (fun j hj => by rcases (show j = 0 ∨ j = 1 ∨ j = 2 ∨ j = 3 ∨ j = 4 ∨ j = 5 ∨ j = 6 by omega) with rfl | rfl | rfl | rfl | rfl | rfl | rfl <;> rfl) hr3 hr4 dX10_newSheep_90 (fun q H hP hD hS => ?_)
  refine lv_dup hx hb dX10_newSheep_93 rfl ?_
  refine lv_iload_n hx hb dX10_newSheep_94 rfl (lv_at hl 0 rfl) ?_
  refine lv_iload_n hx hb dX10_newSheep_95 rfl (lv_at hl 1 rfl) ?_
  have hFc := lastF hD hS hA
  have hKc : va_K (G.1, G.2.1) classes [] s := hK.1.sub (tys' := []) [] rfl
  refine va_callv (va_runI (As := [.int (nI 3), .int (nI j)]) (rest := [.ref q]) ⟨hx, hb, hml, hown, hts⟩ (c_X8 l (G.1, G.2.1) q 8 H.size rfl inX8 (nI 3) (nI j)) (cwI 2 hts (goodG (List.forall_mem_cons.mpr ⟨(inG (i := 374) (by decide +kernel) rfl), fun _ h => h⟩)) rfl rfl rfl (hts (.initialized RX8) (inG (i := 45) (by decide +kernel) rfl)) (hts (.methodLink RX10 295 yX8_init) (inG (i := 372) (by decide +kernel) rfl)) (hts (.instanceMethod yX8_init) (inG (i := 373) (by decide +kernel) rfl)) rfl (by decide +kernel) ⟨Nat.le_trans (Nat.le_of_ble_eq_true rfl) hr1, Nat.le_trans (Nat.le_of_ble_eq_true rfl) hr2⟩) ⟨fun a U g mk q => by obtain ⟨q0, q1, qP, qK, qD⟩ := q; exact ⟨q0, q1, qP, va_K.moved (u := U) (U := U.calling g mk a) (Vm.Alike.refl U.vm) qK, qD⟩, fun U hU hW => ⟨rfl, by rw [hU], by rw [hU]; exact lastP hP, va_K.moved hW.alike hKc, (lastD hD).weaken (fun _ _ _ _ => trivial)⟩⟩ rfl rfl hl.1 rfl (lv_room (Nat.le_of_ble_eq_true rfl)) dX10_newSheep_96 ⟨hr3, hr4⟩) hS (fun q _ h => hFc q h) hFc (fun u t H1 locs ht hvm hw hB hz1 hk1 hS => ?_)
  rw [ht] at hB
  obtain ⟨hP2, hD2⟩ := joinL hP hD hk1 hB
  have ew := wl_new (F := fldS [.int ((nI 3)), .int ((nI j)), .int ((((6 + (nI j)) + 4) + 8)), .int (((1 + ((nI j) / 3)) + 2)), .int ((4 - 1)), .int (((5 + (nI j)) + 20)), .int (((3 + (nI j)) * 2))]) hD (show kcls (nI 3) = 8 by decide)
  have hP3 : va_P (G.1, G.2.1) classes (wl G (hNew h q (fldS [.int ((nI 3)), .int ((nI j)), .int ((((6 + (nI j)) + 4) + 8)), .int (((1 + ((nI j) / 3)) + 2)), .int ((4 - 1)), .int (((5 + (nI j)) + 20)), .int (((3 + (nI j)) * 2))]))) H1 := ew ▸ hP2
  have hD3 : va_D (gA0 G) (wl G (hNew h q (fldS [.int ((nI 3)), .int ((nI j)), .int ((((6 + (nI j)) + 4) + 8)), .int (((1 + ((nI j) / 3)) + 2)), .int ((4 - 1)), .int (((5 + (nI j)) + 20)), .int (((3 + (nI j)) * 2))]))) := ew ▸ hD2
  exact hE (some q) (hNew h q (fldS [.int ((nI 3)), .int ((nI j)), .int ((((6 + (nI j)) + 4) + 8)), .int (((1 + ((nI j) / 3)) + 2)), .int ((4 - 1)), .int (((5 + (nI j)) + 20)), .int (((3 + (nI j)) * 2))])) H1 locs 1 7 99 ls dX10_newSheep_99 (hk q _ (newS_ok hW.1 hD) (SHP_nw (sf_3 j hj))) (List.mem_append_right _ List.mem_cons_self) ⟨okh_new hW.1, hP3, hD3, hS⟩ (fun a ha => List.mem_append_left _ (hS0 a ha)) (Nat.le_refl _) (Nat.le_refl _)
theorem sf_4 : ∀ j, j < 10 → (fldS [.int ((nI 4)), .int ((nI j)), .int (((6 + (nI j)) - 3)), .int ((((1 + ((nI j) / 3)) - 1) + 1)), .int ((4 + 2)), .int (((5 - 2) + 1)), .int (((3 - 1) + 4))] 0 = nI 4 ∧ fldS [.int ((nI 4)), .int ((nI j)), .int (((6 + (nI j)) - 3)), .int ((((1 + ((nI j) / 3)) - 1) + 1)), .int ((4 + 2)), .int (((5 - 2) + 1)), .int (((3 - 1) + 4))] 1 = nI j ∧ fldS [.int ((nI 4)), .int ((nI j)), .int (((6 + (nI j)) - 3)), .int ((((1 + ((nI j) / 3)) - 1) + 1)), .int ((4 + 2)), .int (((5 - 2) + 1)), .int (((3 - 1) + 4))] 2 = nI (wt 4 j) ∧ fldS [.int ((nI 4)), .int ((nI j)), .int (((6 + (nI j)) - 3)), .int ((((1 + ((nI j) / 3)) - 1) + 1)), .int ((4 + 2)), .int (((5 - 2) + 1)), .int (((3 - 1) + 4))] 3 = nI (stk 4 j) ∧ fldS [.int ((nI 4)), .int ((nI j)), .int (((6 + (nI j)) - 3)), .int ((((1 + ((nI j) / 3)) - 1) + 1)), .int ((4 + 2)), .int (((5 - 2) + 1)), .int (((3 - 1) + 4))] 4 = nI (fly 4) ∧ fldS [.int ((nI 4)), .int ((nI j)), .int (((6 + (nI j)) - 3)), .int ((((1 + ((nI j) / 3)) - 1) + 1)), .int ((4 + 2)), .int (((5 - 2) + 1)), .int (((3 - 1) + 4))] 5 = nI (prc 4 j) ∧ fldS [.int ((nI 4)), .int ((nI j)), .int (((6 + (nI j)) - 3)), .int ((((1 + ((nI j) / 3)) - 1) + 1)), .int ((4 + 2)), .int (((5 - 2) + 1)), .int (((3 - 1) + 4))] 6 = nI (cstk 4 j)) := by decide +kernel
set_option maxHeartbeats 4000000 in
set_option maxRecDepth 100000 in
theorem nw_4 {h : AH} {K : Option Nat → AH → Prop} {j : Nat} (hj : j < 10) (hk : ∀ q h', newS h h' q → SHP h' (some q) 4 j → K (some q) h') : AW M_X10_newSheep (.inr (.inr (.inr K))) 100 [some (aI (nI 4)), some (aI (nI j))] [] h 0 0 := by
  intro G p l e R s m args below meth c H locs ls Qf S0 hC hK hE hW hS0 hkc hks hL hst hl hlen
  obtain ⟨hx, hb, hml, hown, hts, hr1, hr2, hr3, hr4⟩ := hC
  have hl : lv_has ls 2 [(0, .int (nI 4)), (1, .int (nI j))] := hl
  have hA : ∀ q : Nat, s.heap.size ≤ q → gA0 G q := fun q h => gok_A hK.2.1 h
  have hr3 : 1 ≤ R.cells := hr3
  have hr4 : 7 ≤ R.slots := hr4
  have hr1 : 4 ≤ R.frames := hr1
  have hr2 : 78 ≤ R.locals := hr2
  refine va_new (D := (G.1, G.2.1)) (cl := classes) (ci := 3) (fs := [.int (0), .int (0), .int (0), .int (0), .int (0), .int (0), .int (0)]) (C := RX3) (T := TX4) (N := 7) hx hb hts inX3 tyX4 tyX4_ok hown (hts (.classLink RX10 296 RX3) (inG (i := 384) (by decide +kernel) rfl)) (hts (.instantiable RX3 7) (inG (i := 385) (by decide +kernel) rfl)) (hts (.initialized RX3) (inG (i := 46) (by decide +kernel) rfl)) hK.1 hW.2.1 hW.2.2.1 hW.2.2.2 hA rfl (fun j hj => by rcases (show j = 0 ∨ j = 1 ∨ j = 2 ∨ j = 3 ∨ j = 4 ∨ j = 5 ∨ j = 6 by omega) with rfl | rfl | rfl | rfl | rfl | rfl | rfl <;> rfl) hr3 hr4 dX10_newSheep_100 (fun q H hP hD hS => ?_)
  refine lv_dup hx hb dX10_newSheep_103 rfl ?_
  refine lv_iload_n hx hb dX10_newSheep_104 rfl (lv_at hl 0 rfl) ?_
  refine lv_iload_n hx hb dX10_newSheep_105 rfl (lv_at hl 1 rfl) ?_
  have hFc := lastF hD hS hA
  have hKc : va_K (G.1, G.2.1) classes [] s := hK.1.sub (tys' := []) [] rfl
  refine va_callv (va_runI (As := [.int (nI 4), .int (nI j)]) (rest := [.ref q]) ⟨hx, hb, hml, hown, hts⟩ (c_X3 l (G.1, G.2.1) q 3 H.size rfl inX3 (nI 4) (nI j)) (cwI 2 hts (goodG (List.forall_mem_cons.mpr ⟨(inG (i := 388) (by decide +kernel) rfl), fun _ h => h⟩)) rfl rfl rfl (hts (.initialized RX3) (inG (i := 46) (by decide +kernel) rfl)) (hts (.methodLink RX10 298 yX3_init) (inG (i := 386) (by decide +kernel) rfl)) (hts (.instanceMethod yX3_init) (inG (i := 387) (by decide +kernel) rfl)) rfl (by decide +kernel) ⟨Nat.le_trans (Nat.le_of_ble_eq_true rfl) hr1, Nat.le_trans (Nat.le_of_ble_eq_true rfl) hr2⟩) ⟨fun a U g mk q => by obtain ⟨q0, q1, qP, qK, qD⟩ := q; exact ⟨q0, q1, qP, va_K.moved (u := U) (U := U.calling g mk a) (Vm.Alike.refl U.vm) qK, qD⟩, fun U hU hW => ⟨rfl, by rw [hU], by rw [hU]; exact lastP hP, va_K.moved hW.alike hKc, (lastD hD).weaken (fun _ _ _ _ => trivial)⟩⟩ rfl rfl hl.1 rfl (lv_room (Nat.le_of_ble_eq_true rfl)) dX10_newSheep_106 ⟨hr3, hr4⟩) hS (fun q _ h => hFc q h) hFc (fun u t H1 locs ht hvm hw hB hz1 hk1 hS => ?_)
  rw [ht] at hB
  obtain ⟨hP2, hD2⟩ := joinL hP hD hk1 hB
  have ew := wl_new (F := fldS [.int ((nI 4)), .int ((nI j)), .int (((6 + (nI j)) - 3)), .int ((((1 + ((nI j) / 3)) - 1) + 1)), .int ((4 + 2)), .int (((5 - 2) + 1)), .int (((3 - 1) + 4))]) hD (show kcls (nI 4) = 3 by decide)
  have hP3 : va_P (G.1, G.2.1) classes (wl G (hNew h q (fldS [.int ((nI 4)), .int ((nI j)), .int (((6 + (nI j)) - 3)), .int ((((1 + ((nI j) / 3)) - 1) + 1)), .int ((4 + 2)), .int (((5 - 2) + 1)), .int (((3 - 1) + 4))]))) H1 := ew ▸ hP2
  have hD3 : va_D (gA0 G) (wl G (hNew h q (fldS [.int ((nI 4)), .int ((nI j)), .int (((6 + (nI j)) - 3)), .int ((((1 + ((nI j) / 3)) - 1) + 1)), .int ((4 + 2)), .int (((5 - 2) + 1)), .int (((3 - 1) + 4))]))) := ew ▸ hD2
  exact hE (some q) (hNew h q (fldS [.int ((nI 4)), .int ((nI j)), .int (((6 + (nI j)) - 3)), .int ((((1 + ((nI j) / 3)) - 1) + 1)), .int ((4 + 2)), .int (((5 - 2) + 1)), .int (((3 - 1) + 4))])) H1 locs 1 7 109 ls dX10_newSheep_109 (hk q _ (newS_ok hW.1 hD) (SHP_nw (sf_4 j hj))) (List.mem_append_right _ List.mem_cons_self) ⟨okh_new hW.1, hP3, hD3, hS⟩ (fun a ha => List.mem_append_left _ (hS0 a ha)) (Nat.le_refl _) (Nat.le_refl _)
theorem sf_5 : ∀ j, j < 10 → (fldS [.int ((nI 5)), .int ((nI j)), .int ((((6 + (nI j)) + 4) * 2)), .int ((((1 + ((nI j) / 3)) + 2) * 2)), .int (((4 - 1) - 1)), .int (((5 + (nI j)) * 2)), .int (((3 + (nI j)) + 1))] 0 = nI 5 ∧ fldS [.int ((nI 5)), .int ((nI j)), .int ((((6 + (nI j)) + 4) * 2)), .int ((((1 + ((nI j) / 3)) + 2) * 2)), .int (((4 - 1) - 1)), .int (((5 + (nI j)) * 2)), .int (((3 + (nI j)) + 1))] 1 = nI j ∧ fldS [.int ((nI 5)), .int ((nI j)), .int ((((6 + (nI j)) + 4) * 2)), .int ((((1 + ((nI j) / 3)) + 2) * 2)), .int (((4 - 1) - 1)), .int (((5 + (nI j)) * 2)), .int (((3 + (nI j)) + 1))] 2 = nI (wt 5 j) ∧ fldS [.int ((nI 5)), .int ((nI j)), .int ((((6 + (nI j)) + 4) * 2)), .int ((((1 + ((nI j) / 3)) + 2) * 2)), .int (((4 - 1) - 1)), .int (((5 + (nI j)) * 2)), .int (((3 + (nI j)) + 1))] 3 = nI (stk 5 j) ∧ fldS [.int ((nI 5)), .int ((nI j)), .int ((((6 + (nI j)) + 4) * 2)), .int ((((1 + ((nI j) / 3)) + 2) * 2)), .int (((4 - 1) - 1)), .int (((5 + (nI j)) * 2)), .int (((3 + (nI j)) + 1))] 4 = nI (fly 5) ∧ fldS [.int ((nI 5)), .int ((nI j)), .int ((((6 + (nI j)) + 4) * 2)), .int ((((1 + ((nI j) / 3)) + 2) * 2)), .int (((4 - 1) - 1)), .int (((5 + (nI j)) * 2)), .int (((3 + (nI j)) + 1))] 5 = nI (prc 5 j) ∧ fldS [.int ((nI 5)), .int ((nI j)), .int ((((6 + (nI j)) + 4) * 2)), .int ((((1 + ((nI j) / 3)) + 2) * 2)), .int (((4 - 1) - 1)), .int (((5 + (nI j)) * 2)), .int (((3 + (nI j)) + 1))] 6 = nI (cstk 5 j)) := by decide +kernel
set_option maxHeartbeats 4000000 in
set_option maxRecDepth 100000 in
theorem nw_5 {h : AH} {K : Option Nat → AH → Prop} {j : Nat} (hj : j < 10) (hk : ∀ q h', newS h h' q → SHP h' (some q) 5 j → K (some q) h') : AW M_X10_newSheep (.inr (.inr (.inr K))) 110 [some (aI (nI 5)), some (aI (nI j))] [] h 0 0 := by
  intro G p l e R s m args below meth c H locs ls Qf S0 hC hK hE hW hS0 hkc hks hL hst hl hlen
  obtain ⟨hx, hb, hml, hown, hts, hr1, hr2, hr3, hr4⟩ := hC
  have hl : lv_has ls 2 [(0, .int (nI 5)), (1, .int (nI j))] := hl
  have hA : ∀ q : Nat, s.heap.size ≤ q → gA0 G q := fun q h => gok_A hK.2.1 h
  have hr3 : 1 ≤ R.cells := hr3
  have hr4 : 7 ≤ R.slots := hr4
  have hr1 : 4 ≤ R.frames := hr1
  have hr2 : 78 ≤ R.locals := hr2
  refine va_new (D := (G.1, G.2.1)) (cl := classes) (ci := 1) (fs := [.int (0), .int (0), .int (0), .int (0), .int (0), .int (0), .int (0)]) (C := RX1) (T := TX4) (N := 7) hx hb hts inX1 tyX4 tyX4_ok hown (hts (.classLink RX10 299 RX1) (inG (i := 398) (by decide +kernel) rfl)) (hts (.instantiable RX1 7) (inG (i := 399) (by decide +kernel) rfl)) (hts (.initialized RX1) (inG (i := 47) (by decide +kernel) rfl)) hK.1 hW.2.1 hW.2.2.1 hW.2.2.2 hA rfl (fun j hj => by rcases (show j = 0 ∨ j = 1 ∨ j = 2 ∨ j = 3 ∨ j = 4 ∨ j = 5 ∨ j = 6 by omega) with rfl | rfl | rfl | rfl | rfl | rfl | rfl <;> rfl) hr3 hr4 dX10_newSheep_110 (fun q H hP hD hS => ?_)
  refine lv_dup hx hb dX10_newSheep_113 rfl ?_
  refine lv_iload_n hx hb dX10_newSheep_114 rfl (lv_at hl 0 rfl) ?_
  refine lv_iload_n hx hb dX10_newSheep_115 rfl (lv_at hl 1 rfl) ?_
  have hFc := lastF hD hS hA
  have hKc : va_K (G.1, G.2.1) classes [] s := hK.1.sub (tys' := []) [] rfl
  refine va_callv (va_runI (As := [.int (nI 5), .int (nI j)]) (rest := [.ref q]) ⟨hx, hb, hml, hown, hts⟩ (c_X1 l (G.1, G.2.1) q 1 H.size rfl inX1 (nI 5) (nI j)) (cwI 2 hts (goodG (List.forall_mem_cons.mpr ⟨(inG (i := 402) (by decide +kernel) rfl), fun _ h => h⟩)) rfl rfl rfl (hts (.initialized RX1) (inG (i := 47) (by decide +kernel) rfl)) (hts (.methodLink RX10 301 yX1_init) (inG (i := 400) (by decide +kernel) rfl)) (hts (.instanceMethod yX1_init) (inG (i := 401) (by decide +kernel) rfl)) rfl (by decide +kernel) ⟨Nat.le_trans (Nat.le_of_ble_eq_true rfl) hr1, Nat.le_trans (Nat.le_of_ble_eq_true rfl) hr2⟩) ⟨fun a U g mk q => by obtain ⟨q0, q1, qP, qK, qD⟩ := q; exact ⟨q0, q1, qP, va_K.moved (u := U) (U := U.calling g mk a) (Vm.Alike.refl U.vm) qK, qD⟩, fun U hU hW => ⟨rfl, by rw [hU], by rw [hU]; exact lastP hP, va_K.moved hW.alike hKc, (lastD hD).weaken (fun _ _ _ _ => trivial)⟩⟩ rfl rfl hl.1 rfl (lv_room (Nat.le_of_ble_eq_true rfl)) dX10_newSheep_116 ⟨hr3, hr4⟩) hS (fun q _ h => hFc q h) hFc (fun u t H1 locs ht hvm hw hB hz1 hk1 hS => ?_)
  rw [ht] at hB
  obtain ⟨hP2, hD2⟩ := joinL hP hD hk1 hB
  have ew := wl_new (F := fldS [.int ((nI 5)), .int ((nI j)), .int ((((6 + (nI j)) + 4) * 2)), .int ((((1 + ((nI j) / 3)) + 2) * 2)), .int (((4 - 1) - 1)), .int (((5 + (nI j)) * 2)), .int (((3 + (nI j)) + 1))]) hD (show kcls (nI 5) = 1 by decide)
  have hP3 : va_P (G.1, G.2.1) classes (wl G (hNew h q (fldS [.int ((nI 5)), .int ((nI j)), .int ((((6 + (nI j)) + 4) * 2)), .int ((((1 + ((nI j) / 3)) + 2) * 2)), .int (((4 - 1) - 1)), .int (((5 + (nI j)) * 2)), .int (((3 + (nI j)) + 1))]))) H1 := ew ▸ hP2
  have hD3 : va_D (gA0 G) (wl G (hNew h q (fldS [.int ((nI 5)), .int ((nI j)), .int ((((6 + (nI j)) + 4) * 2)), .int ((((1 + ((nI j) / 3)) + 2) * 2)), .int (((4 - 1) - 1)), .int (((5 + (nI j)) * 2)), .int (((3 + (nI j)) + 1))]))) := ew ▸ hD2
  exact hE (some q) (hNew h q (fldS [.int ((nI 5)), .int ((nI j)), .int ((((6 + (nI j)) + 4) * 2)), .int ((((1 + ((nI j) / 3)) + 2) * 2)), .int (((4 - 1) - 1)), .int (((5 + (nI j)) * 2)), .int (((3 + (nI j)) + 1))])) H1 locs 1 7 119 ls dX10_newSheep_119 (hk q _ (newS_ok hW.1 hD) (SHP_nw (sf_5 j hj))) (List.mem_append_right _ List.mem_cons_self) ⟨okh_new hW.1, hP3, hD3, hS⟩ (fun a ha => List.mem_append_left _ (hS0 a ha)) (Nat.le_refl _) (Nat.le_refl _)
theorem sf_6 : ∀ j, j < 10 → (fldS [.int ((nI 6)), .int ((nI j)), .int (((6 + (nI j)) - 3)), .int (((1 + ((nI j) / 3)) - 1)), .int (7), .int (0), .int (((3 - 1) / 2))] 0 = nI 6 ∧ fldS [.int ((nI 6)), .int ((nI j)), .int (((6 + (nI j)) - 3)), .int (((1 + ((nI j) / 3)) - 1)), .int (7), .int (0), .int (((3 - 1) / 2))] 1 = nI j ∧ fldS [.int ((nI 6)), .int ((nI j)), .int (((6 + (nI j)) - 3)), .int (((1 + ((nI j) / 3)) - 1)), .int (7), .int (0), .int (((3 - 1) / 2))] 2 = nI (wt 6 j) ∧ fldS [.int ((nI 6)), .int ((nI j)), .int (((6 + (nI j)) - 3)), .int (((1 + ((nI j) / 3)) - 1)), .int (7), .int (0), .int (((3 - 1) / 2))] 3 = nI (stk 6 j) ∧ fldS [.int ((nI 6)), .int ((nI j)), .int (((6 + (nI j)) - 3)), .int (((1 + ((nI j) / 3)) - 1)), .int (7), .int (0), .int (((3 - 1) / 2))] 4 = nI (fly 6) ∧ fldS [.int ((nI 6)), .int ((nI j)), .int (((6 + (nI j)) - 3)), .int (((1 + ((nI j) / 3)) - 1)), .int (7), .int (0), .int (((3 - 1) / 2))] 5 = nI (prc 6 j) ∧ fldS [.int ((nI 6)), .int ((nI j)), .int (((6 + (nI j)) - 3)), .int (((1 + ((nI j) / 3)) - 1)), .int (7), .int (0), .int (((3 - 1) / 2))] 6 = nI (cstk 6 j)) := by decide +kernel
set_option maxHeartbeats 4000000 in
set_option maxRecDepth 100000 in
theorem nw_6 {h : AH} {K : Option Nat → AH → Prop} {j : Nat} (hj : j < 10) (hk : ∀ q h', newS h h' q → SHP h' (some q) 6 j → K (some q) h') : AW M_X10_newSheep (.inr (.inr (.inr K))) 120 [some (aI (nI 6)), some (aI (nI j))] [] h 0 0 := by
  intro G p l e R s m args below meth c H locs ls Qf S0 hC hK hE hW hS0 hkc hks hL hst hl hlen
  obtain ⟨hx, hb, hml, hown, hts, hr1, hr2, hr3, hr4⟩ := hC
  have hl : lv_has ls 2 [(0, .int (nI 6)), (1, .int (nI j))] := hl
  have hA : ∀ q : Nat, s.heap.size ≤ q → gA0 G q := fun q h => gok_A hK.2.1 h
  have hr3 : 1 ≤ R.cells := hr3
  have hr4 : 7 ≤ R.slots := hr4
  have hr1 : 4 ≤ R.frames := hr1
  have hr2 : 78 ≤ R.locals := hr2
  refine va_new (D := (G.1, G.2.1)) (cl := classes) (ci := 6) (fs := [.int (0), .int (0), .int (0), .int (0), .int (0), .int (0), .int (0)]) (C := RX6) (T := TX4) (N := 7) hx hb hts inX6 tyX4 tyX4_ok hown (hts (.classLink RX10 302 RX6) (inG (i := 412) (by decide +kernel) rfl)) (hts (.instantiable RX6 7) (inG (i := 413) (by decide +kernel) rfl)) (hts (.initialized RX6) (inG (i := 48) (by decide +kernel) rfl)) hK.1 hW.2.1 hW.2.2.1 hW.2.2.2 hA rfl (fun j hj => by rcases (show j = 0 ∨ j = 1 ∨ j = 2 ∨ j = 3 ∨ j = 4 ∨ j = 5 ∨ j = 6 by omega) with rfl | rfl | rfl | rfl | rfl | rfl | rfl <;> rfl) hr3 hr4 dX10_newSheep_120 (fun q H hP hD hS => ?_)
  refine lv_dup hx hb dX10_newSheep_123 rfl ?_
  refine lv_iload_n hx hb dX10_newSheep_124 rfl (lv_at hl 0 rfl) ?_
  refine lv_iload_n hx hb dX10_newSheep_125 rfl (lv_at hl 1 rfl) ?_
  have hFc := lastF hD hS hA
  have hKc : va_K (G.1, G.2.1) classes [] s := hK.1.sub (tys' := []) [] rfl
  refine va_callv (va_runI (As := [.int (nI 6), .int (nI j)]) (rest := [.ref q]) ⟨hx, hb, hml, hown, hts⟩ (c_X6 l (G.1, G.2.1) q 6 H.size rfl inX6 (nI 6) (nI j)) (cwI 2 hts (goodG (List.forall_mem_cons.mpr ⟨(inG (i := 416) (by decide +kernel) rfl), fun _ h => h⟩)) rfl rfl rfl (hts (.initialized RX6) (inG (i := 48) (by decide +kernel) rfl)) (hts (.methodLink RX10 304 yX6_init) (inG (i := 414) (by decide +kernel) rfl)) (hts (.instanceMethod yX6_init) (inG (i := 415) (by decide +kernel) rfl)) rfl (by decide +kernel) ⟨Nat.le_trans (Nat.le_of_ble_eq_true rfl) hr1, Nat.le_trans (Nat.le_of_ble_eq_true rfl) hr2⟩) ⟨fun a U g mk q => by obtain ⟨q0, q1, qP, qK, qD⟩ := q; exact ⟨q0, q1, qP, va_K.moved (u := U) (U := U.calling g mk a) (Vm.Alike.refl U.vm) qK, qD⟩, fun U hU hW => ⟨rfl, by rw [hU], by rw [hU]; exact lastP hP, va_K.moved hW.alike hKc, (lastD hD).weaken (fun _ _ _ _ => trivial)⟩⟩ rfl rfl hl.1 rfl (lv_room (Nat.le_of_ble_eq_true rfl)) dX10_newSheep_126 ⟨hr3, hr4⟩) hS (fun q _ h => hFc q h) hFc (fun u t H1 locs ht hvm hw hB hz1 hk1 hS => ?_)
  rw [ht] at hB
  obtain ⟨hP2, hD2⟩ := joinL hP hD hk1 hB
  have ew := wl_new (F := fldS [.int ((nI 6)), .int ((nI j)), .int (((6 + (nI j)) - 3)), .int (((1 + ((nI j) / 3)) - 1)), .int (7), .int (0), .int (((3 - 1) / 2))]) hD (show kcls (nI 6) = 6 by decide)
  have hP3 : va_P (G.1, G.2.1) classes (wl G (hNew h q (fldS [.int ((nI 6)), .int ((nI j)), .int (((6 + (nI j)) - 3)), .int (((1 + ((nI j) / 3)) - 1)), .int (7), .int (0), .int (((3 - 1) / 2))]))) H1 := ew ▸ hP2
  have hD3 : va_D (gA0 G) (wl G (hNew h q (fldS [.int ((nI 6)), .int ((nI j)), .int (((6 + (nI j)) - 3)), .int (((1 + ((nI j) / 3)) - 1)), .int (7), .int (0), .int (((3 - 1) / 2))]))) := ew ▸ hD2
  exact hE (some q) (hNew h q (fldS [.int ((nI 6)), .int ((nI j)), .int (((6 + (nI j)) - 3)), .int (((1 + ((nI j) / 3)) - 1)), .int (7), .int (0), .int (((3 - 1) / 2))])) H1 locs 1 7 129 ls dX10_newSheep_129 (hk q _ (newS_ok hW.1 hD) (SHP_nw (sf_6 j hj))) (List.mem_append_right _ List.mem_cons_self) ⟨okh_new hW.1, hP3, hD3, hS⟩ (fun a ha => List.mem_append_left _ (hS0 a ha)) (Nat.le_refl _) (Nat.le_refl _)
theorem sf_7 : ∀ j, j < 10 → (fldS [.int ((nI 7)), .int ((nI j)), .int (2), .int (0), .int ((4 + 3)), .int ((5 - 4)), .int ((3 - 2))] 0 = nI 7 ∧ fldS [.int ((nI 7)), .int ((nI j)), .int (2), .int (0), .int ((4 + 3)), .int ((5 - 4)), .int ((3 - 2))] 1 = nI j ∧ fldS [.int ((nI 7)), .int ((nI j)), .int (2), .int (0), .int ((4 + 3)), .int ((5 - 4)), .int ((3 - 2))] 2 = nI (wt 7 j) ∧ fldS [.int ((nI 7)), .int ((nI j)), .int (2), .int (0), .int ((4 + 3)), .int ((5 - 4)), .int ((3 - 2))] 3 = nI (stk 7 j) ∧ fldS [.int ((nI 7)), .int ((nI j)), .int (2), .int (0), .int ((4 + 3)), .int ((5 - 4)), .int ((3 - 2))] 4 = nI (fly 7) ∧ fldS [.int ((nI 7)), .int ((nI j)), .int (2), .int (0), .int ((4 + 3)), .int ((5 - 4)), .int ((3 - 2))] 5 = nI (prc 7 j) ∧ fldS [.int ((nI 7)), .int ((nI j)), .int (2), .int (0), .int ((4 + 3)), .int ((5 - 4)), .int ((3 - 2))] 6 = nI (cstk 7 j)) := by decide +kernel
set_option maxHeartbeats 4000000 in
set_option maxRecDepth 100000 in
theorem nw_7 {h : AH} {K : Option Nat → AH → Prop} {j : Nat} (hj : j < 10) (hk : ∀ q h', newS h h' q → SHP h' (some q) 7 j → K (some q) h') : AW M_X10_newSheep (.inr (.inr (.inr K))) 130 [some (aI (nI 7)), some (aI (nI j))] [] h 0 0 := by
  intro G p l e R s m args below meth c H locs ls Qf S0 hC hK hE hW hS0 hkc hks hL hst hl hlen
  obtain ⟨hx, hb, hml, hown, hts, hr1, hr2, hr3, hr4⟩ := hC
  have hl : lv_has ls 2 [(0, .int (nI 7)), (1, .int (nI j))] := hl
  have hA : ∀ q : Nat, s.heap.size ≤ q → gA0 G q := fun q h => gok_A hK.2.1 h
  have hr3 : 1 ≤ R.cells := hr3
  have hr4 : 7 ≤ R.slots := hr4
  have hr1 : 4 ≤ R.frames := hr1
  have hr2 : 78 ≤ R.locals := hr2
  refine va_new (D := (G.1, G.2.1)) (cl := classes) (ci := 0) (fs := [.int (0), .int (0), .int (0), .int (0), .int (0), .int (0), .int (0)]) (C := RX0) (T := TX4) (N := 7) hx hb hts inX0 tyX4 tyX4_ok hown (hts (.classLink RX10 305 RX0) (inG (i := 426) (by decide +kernel) rfl)) (hts (.instantiable RX0 7) (inG (i := 427) (by decide +kernel) rfl)) (hts (.initialized RX0) (inG (i := 49) (by decide +kernel) rfl)) hK.1 hW.2.1 hW.2.2.1 hW.2.2.2 hA rfl (fun j hj => by rcases (show j = 0 ∨ j = 1 ∨ j = 2 ∨ j = 3 ∨ j = 4 ∨ j = 5 ∨ j = 6 by omega) with rfl | rfl | rfl | rfl | rfl | rfl | rfl <;> rfl) hr3 hr4 dX10_newSheep_130 (fun q H hP hD hS => ?_)
  refine lv_dup hx hb dX10_newSheep_133 rfl ?_
  refine lv_iload_n hx hb dX10_newSheep_134 rfl (lv_at hl 0 rfl) ?_
  refine lv_iload_n hx hb dX10_newSheep_135 rfl (lv_at hl 1 rfl) ?_
  have hFc := lastF hD hS hA
  have hKc : va_K (G.1, G.2.1) classes [] s := hK.1.sub (tys' := []) [] rfl
  refine va_callv (va_runI (As := [.int (nI 7), .int (nI j)]) (rest := [.ref q]) ⟨hx, hb, hml, hown, hts⟩ (c_X0 l (G.1, G.2.1) q 0 H.size rfl inX0 (nI 7) (nI j)) (cwI 2 hts (goodG (List.forall_mem_cons.mpr ⟨(inG (i := 430) (by decide +kernel) rfl), fun _ h => h⟩)) rfl rfl rfl (hts (.initialized RX0) (inG (i := 49) (by decide +kernel) rfl)) (hts (.methodLink RX10 307 yX0_init) (inG (i := 428) (by decide +kernel) rfl)) (hts (.instanceMethod yX0_init) (inG (i := 429) (by decide +kernel) rfl)) rfl (by decide +kernel) ⟨Nat.le_trans (Nat.le_of_ble_eq_true rfl) hr1, Nat.le_trans (Nat.le_of_ble_eq_true rfl) hr2⟩) ⟨fun a U g mk q => by obtain ⟨q0, q1, qP, qK, qD⟩ := q; exact ⟨q0, q1, qP, va_K.moved (u := U) (U := U.calling g mk a) (Vm.Alike.refl U.vm) qK, qD⟩, fun U hU hW => ⟨rfl, by rw [hU], by rw [hU]; exact lastP hP, va_K.moved hW.alike hKc, (lastD hD).weaken (fun _ _ _ _ => trivial)⟩⟩ rfl rfl hl.1 rfl (lv_room (Nat.le_of_ble_eq_true rfl)) dX10_newSheep_136 ⟨hr3, hr4⟩) hS (fun q _ h => hFc q h) hFc (fun u t H1 locs ht hvm hw hB hz1 hk1 hS => ?_)
  rw [ht] at hB
  obtain ⟨hP2, hD2⟩ := joinL hP hD hk1 hB
  have ew := wl_new (F := fldS [.int ((nI 7)), .int ((nI j)), .int (2), .int (0), .int ((4 + 3)), .int ((5 - 4)), .int ((3 - 2))]) hD (show kcls (nI 7) = 0 by decide)
  have hP3 : va_P (G.1, G.2.1) classes (wl G (hNew h q (fldS [.int ((nI 7)), .int ((nI j)), .int (2), .int (0), .int ((4 + 3)), .int ((5 - 4)), .int ((3 - 2))]))) H1 := ew ▸ hP2
  have hD3 : va_D (gA0 G) (wl G (hNew h q (fldS [.int ((nI 7)), .int ((nI j)), .int (2), .int (0), .int ((4 + 3)), .int ((5 - 4)), .int ((3 - 2))]))) := ew ▸ hD2
  exact hE (some q) (hNew h q (fldS [.int ((nI 7)), .int ((nI j)), .int (2), .int (0), .int ((4 + 3)), .int ((5 - 4)), .int ((3 - 2))])) H1 locs 1 7 139 ls dX10_newSheep_139 (hk q _ (newS_ok hW.1 hD) (SHP_nw (sf_7 j hj))) (List.mem_append_right _ List.mem_cons_self) ⟨okh_new hW.1, hP3, hD3, hS⟩ (fun a ha => List.mem_append_left _ (hS0 a ha)) (Nat.le_refl _) (Nat.le_refl _)
theorem i8 {k : Int32} (h : ¬ (k.toInt < 0 ∨ 7 < k.toInt)) : ∃ i, i < 8 ∧ k = nI i := by
  refine ⟨k.toInt.toNat, by omega, ?_⟩
  apply Int32.toInt_inj.mp
  rw [nI_toInt (by omega)]
  omega
theorem nw_sw {k : Int32} {j : Nat} {h : AH} {K : Option Nat → AH → Prop} (hj : j < 10) (k0 : (¬ ∃ i, i < 8 ∧ k = nI i) → K none h) (hk : ∀ i q h', i < 8 → k = nI i → newS h h' q → SHP h' (some q) i j → K (some q) h') : AW M_X10_newSheep (.inr (.inr (.inr K))) 13 [some (aI k), some (aI (nI j))] [aI k] h 0 0 := by
  intro G p l e R s m args below meth c H locs ls Qf S0 hC hK hE hW hS0 hkc hks hL hst hl hlen
  have hx := hC.1
  have hb := hC.2.1
  by_cases ho : k.toInt < 0 ∨ 7 < k.toInt
  · refine lv_tableOut (tgt := 140) hx hb dX10_newSheep_13 ho (by decide) ?_
    have hn : K none h := k0 (fun ⟨i, hi, e⟩ => by rw [e, nI_toInt (by omega)] at ho; omega)
    have hA : AW M_X10_newSheep (.inr (.inr (.inr K))) 140 [some (aI k), some (aI (nI j))] [] h 0 0 := AW_go (cuts := []) ok_X10_newSheep 400 hn
    exact hA G p l e R s m args below meth c H locs ls Qf S0 hC hK hE hW hS0 hkc hks hL (fun v hv => by cases hv) hl hlen
  · obtain ⟨i, hi, rfl⟩ := i8 ho
    have hk := fun q h' => hk i q h' hi rfl
    have st0 : okSt h [] := fun v hv => by cases hv
    rcases (show i = 0 ∨ i = 1 ∨ i = 2 ∨ i = 3 ∨ i = 4 ∨ i = 5 ∨ i = 6 ∨ i = 7 by omega) with rfl | rfl | rfl | rfl | rfl | rfl | rfl | rfl
    · exact lv_tableIn (off := 47) (tgt := 60) hx hb dX10_newSheep_13 (by decide) (by decide) rfl (by decide) (nw_0 hj hk G p l e R s m args below meth c H locs ls Qf S0 hC hK hE hW hS0 hkc hks hL st0 hl hlen)
    · exact lv_tableIn (off := 57) (tgt := 70) hx hb dX10_newSheep_13 (by decide) (by decide) rfl (by decide) (nw_1 hj hk G p l e R s m args below meth c H locs ls Qf S0 hC hK hE hW hS0 hkc hks hL st0 hl hlen)
    · exact lv_tableIn (off := 67) (tgt := 80) hx hb dX10_newSheep_13 (by decide) (by decide) rfl (by decide) (nw_2 hj hk G p l e R s m args below meth c H locs ls Qf S0 hC hK hE hW hS0 hkc hks hL st0 hl hlen)
    · exact lv_tableIn (off := 77) (tgt := 90) hx hb dX10_newSheep_13 (by decide) (by decide) rfl (by decide) (nw_3 hj hk G p l e R s m args below meth c H locs ls Qf S0 hC hK hE hW hS0 hkc hks hL st0 hl hlen)
    · exact lv_tableIn (off := 87) (tgt := 100) hx hb dX10_newSheep_13 (by decide) (by decide) rfl (by decide) (nw_4 hj hk G p l e R s m args below meth c H locs ls Qf S0 hC hK hE hW hS0 hkc hks hL st0 hl hlen)
    · exact lv_tableIn (off := 97) (tgt := 110) hx hb dX10_newSheep_13 (by decide) (by decide) rfl (by decide) (nw_5 hj hk G p l e R s m args below meth c H locs ls Qf S0 hC hK hE hW hS0 hkc hks hL st0 hl hlen)
    · exact lv_tableIn (off := 107) (tgt := 120) hx hb dX10_newSheep_13 (by decide) (by decide) rfl (by decide) (nw_6 hj hk G p l e R s m args below meth c H locs ls Qf S0 hC hK hE hW hS0 hkc hks hL st0 hl hlen)
    · exact lv_tableIn (off := 117) (tgt := 130) hx hb dX10_newSheep_13 (by decide) (by decide) rfl (by decide) (nw_7 hj hk G p l e R s m args below meth c H locs ls Qf S0 hC hK hE hW hS0 hkc hks hL st0 hl hlen)
theorem j10 {f : Int32} (h : nI 0 ≤ f ∧ f ≤ nI 9) : ∃ j, j < 10 ∧ f = nI j := by
  have h1 : (nI 0).toInt ≤ f.toInt := Int32.le_iff_toInt_le.mp h.1
  have h2 : f.toInt ≤ (nI 9).toInt := Int32.le_iff_toInt_le.mp h.2
  rw [nI_toInt (by omega)] at h1 h2
  refine ⟨f.toInt.toNat, by omega, ?_⟩
  apply Int32.toInt_inj.mp
  rw [nI_toInt (by omega)]
  omega
theorem snd_X10_newSheep (k f : Int32) {h : AH} {K : Option Nat → AH → Prop} (hk : S_X10_newSheep k f h K) : AW M_X10_newSheep (.inr (.inr (.inr K))) 0 [some (aI k), some (aI f)] [] h 0 0 := by
  have hz : (¬ nI 0 = 0 → AW M_X10_newSheep (.inr (.inr (.inr K))) 13 [some (aI k), some (aI f)] [aI k] h 0 0) ∧ (¬ ¬ nI 0 = 0 → K none h) → True := fun _ => trivial
  refine AW_go (cuts := [(13, [])]) ok_X10_newSheep 400 (show S_X10_within f (nI 0) (nI 9) h (fun x u => (¬ x = 0 → AW M_X10_newSheep (.inr (.inr (.inr K))) 13 [some (aI k), some (aI f)] [aI k] u 0 0) ∧ (¬ ¬ x = 0 → K none u)) from ?_)
  unfold S_X10_within
  by_cases hf : nI 0 ≤ f ∧ f ≤ nI 9
  · rw [if_pos hf]
    obtain ⟨j, hj, rfl⟩ := j10 hf
    refine ⟨fun _ => nw_sw hj (fun z => hk.1 (fun ⟨i, j2, h1, h2, h3, h4⟩ => z ⟨i, by omega, h3⟩)) (fun i q h' hi e => hk.2 i j q h' (by omega) (by omega) e rfl), fun z => absurd (by decide) z⟩
  · rw [if_neg hf]
    refine ⟨fun z => absurd rfl z, fun _ => hk.1 (fun ⟨i, j, h1, h2, h3, h4⟩ => hf ?_)⟩
    rw [h4]
    exact ⟨Int32.le_iff_toInt_le.mpr (by rw [nI_toInt (by omega), nI_toInt (by omega)]; omega), Int32.le_iff_toInt_le.mpr (by rw [nI_toInt (by omega), nI_toInt (by omega)]; omega)⟩
theorem tw_X10_newSheep : ∀ (as : List AV) (h : AH) (K : Option Nat → AH → Prop), T_X10_newSheep as h K → (ini as).length ≤ mNL M_X10_newSheep ∧ AW M_X10_newSheep (.inr (.inr (.inr K))) 0 (initL (mNL M_X10_newSheep) as) [] h 0 0 := by
  intro as h K hk
  match as, hk with
  | [.inl q0, .inl q1], hk =>
    exact ⟨Nat.le_of_ble_eq_true rfl, snd_X10_newSheep q0 q1 hk⟩
theorem cr_RX10_703 : CR RX10 (kIns 703) (2, 5, 99, 1, 7, .inr (.inr (.inr T_X10_newSheep))) := crS_q (M := M_X10_newSheep) (by decide) rfl (inG (i := 238) (w := Cond.methodLink RX10 234 yX10_newSheep) (by decide +kernel) rfl) (inG (i := 239) (w := Cond.static yX10_newSheep) (by decide +kernel) rfl) (inG (i := 37) (w := Cond.initialized RX10) (by decide +kernel) rfl) (inG (i := 240) (w := Cond.code yX10_newSheep cX10_newSheep 2 (some (.object RX4))) (by decide +kernel) rfl) ⟨by decide +kernel, by decide +kernel, by decide +kernel⟩ tw_X10_newSheep


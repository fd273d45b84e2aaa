/-! ===== the whole ===== -/
theorem len8 {us : List VU} (h : us.length = 8) : ∃ u0 u1 u2 u3 u4 u5 u6 u7 : VU, us = [u0, u1, u2, u3, u4, u5, u6, u7] := by
  match us, h with
  | [u0, u1, u2, u3, u4, u5, u6, u7], _ => exact ⟨u0, u1, u2, u3, u4, u5, u6, u7, rfl⟩
set_option maxHeartbeats 16000000 in
set_option maxRecDepth 100000 in
theorem whole_start {p : Program} {e : Env} {s : State} {m : MethodId} {below : List Frame} {meth : Method} {c : Code} (l : Launch) (hflags : l.flags = flags0) {b L : Nat} {xs : Nat → Int32} (hL : L ≤ 3072) (C0 : lw_At p s m meth c b L xs) : W p l e room_1 s m #[Value.ref b] below meth c s.heap [] 0 0 (lw_Z below #[Value.ref b] s) (entryFrame m ([Value.ref b] : List Value).toArray 8) := by
  obtain ⟨hx, hb, hr, hml, hown, hts, hX, hbl, hlocks, hgv⟩ := id C0
  have hown : s.vm.findClass RL = some m.cls := hown
  have htg : ∀ w ∈ lw_g, w.before #[Value.ref b] s = true := fun w hw => hts w (List.mem_filter.mp hw).1
  have hA : ∀ q : Nat, s.heap.size ≤ q → (fun q : Nat => s.heap.size ≤ q) q := fun _ h => h
  obtain ⟨c0, i0, hn0⟩ := u_known (C := RX0) (T := TX0) (N := 7) (n := 7) htg inX0 (htg (.instantiable RX0 7) (inG (i := 427) (by decide +kernel) rfl))
  obtain ⟨c1, i1, hn1⟩ := u_known (C := RX1) (T := TX1) (N := 7) (n := 7) htg inX1 (htg (.instantiable RX1 7) (inG (i := 399) (by decide +kernel) rfl))
  obtain ⟨c2, i2, hn2⟩ := u_known (C := RX2) (T := TX2) (N := 7) (n := 7) htg inX2 (htg (.instantiable RX2 7) (inG (i := 357) (by decide +kernel) rfl))
  obtain ⟨c3, i3, hn3⟩ := u_known (C := RX3) (T := TX3) (N := 7) (n := 7) htg inX3 (htg (.instantiable RX3 7) (inG (i := 385) (by decide +kernel) rfl))
  obtain ⟨c4, i4, hn4⟩ := u_known (C := RX4) (T := TX4) (N := 7) (n := 7) htg inX4 (htg (.instantiable RX4 7) (inG (i := 242) (by decide +kernel) rfl))
  obtain ⟨c5, i5, hn5⟩ := u_known (C := RX5) (T := TX5) (N := 5) (n := 5) htg inX5 (htg (.instantiable RX5 5) (inG (i := 130) (by decide +kernel) rfl))
  obtain ⟨c6, i6, hn6⟩ := u_known (C := RX6) (T := TX6) (N := 7) (n := 7) htg inX6 (htg (.instantiable RX6 7) (inG (i := 413) (by decide +kernel) rfl))
  obtain ⟨c7, i7, hn7⟩ := u_known (C := RX7) (T := TX7) (N := 7) (n := 7) htg inX7 (htg (.instantiable RX7 7) (inG (i := 343) (by decide +kernel) rfl))
  obtain ⟨c8, i8, hn8⟩ := u_known (C := RX8) (T := TX8) (N := 7) (n := 7) htg inX8 (htg (.instantiable RX8 7) (inG (i := 371) (by decide +kernel) rfl))
  obtain ⟨c9, i9, hn9⟩ := u_known (C := RX9) (T := TX9) (N := 13) (n := 13) htg inX9 (htg (.instantiable RX9 13) (inG (i := 67) (by decide +kernel) rfl))
  obtain ⟨c10, i10, hn10⟩ := u_known (C := RX10) (T := TX10) (N := 6) (n := 6) htg inX10 (htg (.instantiable RX10 6) (inG (i := 59) (by decide +kernel) rfl))
  obtain ⟨c11, i11, hn11⟩ := u_known (C := RX11) (T := TX11) (N := 23) (n := 23) htg inX11 (htg (.instantiable RX11 23) (inG (i := 914) (by decide +kernel) rfl))
  obtain ⟨dC, dI, hKc⟩ : ∃ (dC : Nat → ClassId) (dI : Nat → Nat → Nat), ∀ (k : Nat) (q : vw_C), classes[k]? = some q → u_Kn s q.1 q.2.1 q.2.2 (dC k) (dI k) := by
    refine ⟨fun k => [c0, c1, c2, c3, c4, c5, c6, c7, c8, c9, c10, c11].getD k 0, fun k => [i0, i1, i2, i3, i4, i5, i6, i7, i8, i9, i10, i11].getD k i0, ?_⟩
    intro k q hq
    match k, hq with
    | 0, hq => cases hq; exact hn0
    | 1, hq => cases hq; exact hn1
    | 2, hq => cases hq; exact hn2
    | 3, hq => cases hq; exact hn3
    | 4, hq => cases hq; exact hn4
    | 5, hq => cases hq; exact hn5
    | 6, hq => cases hq; exact hn6
    | 7, hq => cases hq; exact hn7
    | 8, hq => cases hq; exact hn8
    | 9, hq => cases hq; exact hn9
    | 10, hq => cases hq; exact hn10
    | 11, hq => cases hq; exact hn11
    | k + 12, hq => simp [classes] at hq
  have dw0 : decode code 0 = .ok (.new 8, 3) := by decide +kernel
  have dw3 : decode code 3 = .ok (.dup, 1) := by decide +kernel
  have dw4 : decode code 4 = .ok (.invokespecial 17, 3) := by decide +kernel
  have dw7 : decode code 7 = .ok (.astore_n 1, 1) := by decide +kernel
  have dw8 : decode code 8 = .ok (.new 18, 3) := by decide +kernel
  have dw11 : decode code 11 = .ok (.dup, 1) := by decide +kernel
  have dw12 : decode code 12 = .ok (.invokespecial 20, 3) := by decide +kernel
  have dw15 : decode code 15 = .ok (.astore_n 2, 1) := by decide +kernel
  have dw16 : decode code 16 = .ok (.iconst 1, 1) := by decide +kernel
  have dw17 : decode code 17 = .ok (.newarray .long, 2) := by decide +kernel
  have dw19 : decode code 19 = .ok (.astore_n 3, 1) := by decide +kernel
  have dw20 : decode code 20 = .ok (.iconst 0, 1) := by decide +kernel
  have dw21 : decode code 21 = .ok (.istore 4, 2) := by decide +kernel
  have hA4 : va_AO RX4 s := va_AO.of (hts (.arrayOver (.object RX4)) (List.mem_of_getElem? (i := 73) (by decide +kernel)))
  have hA5 : va_AO RX5 s := va_AO.of (hts (.arrayOver (.object RX5)) (List.mem_of_getElem? (i := 129) (by decide +kernel)))
  have hN9 : va_Nw (.methodLinkNest RX10 9 yX9_init RX10) s := va_Nw.of rfl (hts _ (List.mem_of_getElem? (i := 68) (by decide +kernel)))
  have hN5 : va_Nw (.methodLinkNest RX10 32 yX5_init RX10) s := va_Nw.of rfl (hts _ (List.mem_of_getElem? (i := 131) (by decide +kernel)))
  have hS : va_S (fun q : Nat => s.heap.size ≤ q) s.heap s.heap [] := va_S.rf
  have hK : va_K (dC, dI) classes [] s := ⟨hKc, fun k q h => by simp at h⟩
  have hP : va_P (dC, dI) classes [] s.heap := fun k q h => by simp at h
  have hD : va_D (fun q : Nat => s.heap.size ≤ q) [] := ⟨fun i j p q h => by simp at h, fun k q h => by simp at h⟩
  have hl := lv_entry ([.ref b]) (n := 8) (Nat.le_of_ble_eq_true rfl)
  rw [lg_entry_eq]
  generalize (lg_sl ([.ref b]) ++ List.replicate (8 - (lg_sl ([.ref b])).length) Slot.unset).toArray = ls at hl ⊢
  have hl : lv_has ls 8 [(0, .ref b)] := hl
  refine va_new (D := (dC, dI)) (cl := classes) (ci := 10) (fs := [.null, .null, .null, .int 0, .null, .null]) (C := RX10) (T := TX10) (N := 6) hx hb htg inX10 tyX10 tyX10_ok hown (htg (.classLink RL 8 RX10) (inG (i := 58) (by decide +kernel) rfl)) (htg (.instantiable RX10 6) (inG (i := 59) (by decide +kernel) rfl)) (htg (.initialized RX10) (inG (i := 37) (by decide +kernel) rfl)) hK hP hD hS hA rfl (fun j hj => by rcases (show j = 0 ∨ j = 1 ∨ j = 2 ∨ j = 3 ∨ j = 4 ∨ j = 5 by omega) with rfl | rfl | rfl | rfl | rfl | rfl <;> rfl) (Nat.le_of_ble_eq_true rfl) (Nat.le_of_ble_eq_true rfl) dw0 (fun ax H hP hD hS => ?_)
  refine lv_dup hx hb dw3 rfl ?_
  have hFc := lastF hD hS hA
  have hKc : va_K (dC, dI) classes [] s := hK.sub (tys' := []) [] rfl
  refine va_callv (va_runI (As := []) (rest := [.ref ax]) ⟨hx, hb, hml, hown, htg⟩ (c_X10i l (dC, dI) ax H.size) (cwI 0 htg (goodG (List.forall_mem_cons.mpr ⟨(inG (i := 62) (by decide +kernel) rfl), fun _ h => h⟩)) rfl rfl rfl (htg (.initialized RX10) (inG (i := 37) (by decide +kernel) rfl)) (htg (.methodLink RL 17 yX10_init) (inG (i := 60) (by decide +kernel) rfl)) (htg (.instanceMethod yX10_init) (inG (i := 61) (by decide +kernel) rfl)) rfl ⟨by decide, by decide, by decide +kernel⟩ ⟨Nat.le_of_ble_eq_true rfl, Nat.le_of_ble_eq_true rfl⟩) ⟨fun a U g mk q => by obtain ⟨q0, q1, qP, qK, qD, e0, e1, e2, e3⟩ := q; exact ⟨q0, q1, qP, va_K.moved (u := U) (U := U.calling g mk a) (Vm.Alike.refl U.vm) qK, qD, va_AO.moved (u := U) (U := U.calling g mk a) (Vm.Alike.refl U.vm) e0, va_AO.moved (u := U) (U := U.calling g mk a) (Vm.Alike.refl U.vm) e1, va_Nw.same (u := U) rfl rfl e2, va_Nw.same (u := U) rfl rfl e3⟩, fun U hU hW => ⟨rfl, by rw [hU], by rw [hU]; exact lastP hP, va_K.moved hW.alike hKc, (lastD hD).weaken (fun _ _ _ _ => trivial), va_AO.moved hW.alike hA4, va_AO.moved hW.alike hA5, va_Nw.warmM hW hN9, va_Nw.warmM hW hN5⟩⟩ rfl rfl hl.1 rfl (lv_room (Nat.le_of_ble_eq_true rfl)) dw4 ⟨Nat.le_of_ble_eq_true rfl, Nat.le_of_ble_eq_true rfl⟩) hS (fun q _ h => hFc q h) hFc (fun uax t H1 locs ht hvm hwax hB hz1 hk1 hS => ?_)
  obtain ⟨hP1, hK1, hD1⟩ := hB
  rw [ht] at hP1
  have hK1 := va_K.moved hvm.symm hK1
  obtain ⟨hP, hD⟩ := joinL2 hP hD hk1 hFc hP1 hD1
  have hK := hK.app hK1
  generalize H1 = H at hP hS ⊢
  have hP : va_P (dC, dI) classes (w101 ax uax) H := hP
  have hD : va_D (fun q : Nat => s.heap.size ≤ q) (w101 ax uax) := hD
  have hK : va_K (dC, dI) classes (t101 uax) s := hK
  refine W.widen (k := 49) (n := 1146) (Nat.le_of_ble_eq_true rfl) (Nat.le_of_ble_eq_true rfl) ?_
  refine lv_astore_n (lv' := [(1, .ref ax), (0, .ref b)]) hx hb dw7 rfl hl (by decide) rfl (fun ls hl => ?_)
  refine va_new (D := (dC, dI)) (cl := classes) (ci := 11) (fs := [.null, .null, .null, .null, .null, .int 0, .int 0, .int 0, .int 0, .null, .int 0, .int 0, .int 0, .null, .null, .int 0, .null, .null, .null, .null, .null, .null, .int 0]) (C := RX11) (T := TX11) (N := 23) hx hb htg inX11 tyX11 tyX11_ok hown (htg (.classLink RL 18 RX11) (inG (i := 913) (by decide +kernel) rfl)) (htg (.instantiable RX11 23) (inG (i := 914) (by decide +kernel) rfl)) (htg (.initialized RX11) (inG (i := 40) (by decide +kernel) rfl)) hK hP hD hS hA rfl (fun j hj => by rcases (show j = 0 ∨ j = 1 ∨ j = 2 ∨ j = 3 ∨ j = 4 ∨ j = 5 ∨ j = 6 ∨ j = 7 ∨ j = 8 ∨ j = 9 ∨ j = 10 ∨ j = 11 ∨ j = 12 ∨ j = 13 ∨ j = 14 ∨ j = 15 ∨ j = 16 ∨ j = 17 ∨ j = 18 ∨ j = 19 ∨ j = 20 ∨ j = 21 ∨ j = 22 by omega) with rfl | rfl | rfl | rfl | rfl | rfl | rfl | rfl | rfl | rfl | rfl | rfl | rfl | rfl | rfl | rfl | rfl | rfl | rfl | rfl | rfl | rfl | rfl <;> rfl) (Nat.le_of_ble_eq_true rfl) (Nat.le_of_ble_eq_true rfl) dw8 (fun am H hP hD hS => ?_)
  refine lv_dup hx hb dw11 rfl ?_
  have hFc := lastF hD hS hA
  have hKc : va_K (dC, dI) classes [] s := hK.sub (tys' := []) [] rfl
  refine va_callv (va_runI (As := []) (rest := [.ref am]) ⟨hx, hb, hml, hown, htg⟩ (c_X11i l (dC, dI) am H.size) (cwI 0 htg (goodG (List.forall_mem_cons.mpr ⟨(inG (i := 917) (by decide +kernel) rfl), fun _ h => h⟩)) rfl rfl rfl (htg (.initialized RX11) (inG (i := 40) (by decide +kernel) rfl)) (htg (.methodLink RL 20 yX11_init) (inG (i := 915) (by decide +kernel) rfl)) (htg (.instanceMethod yX11_init) (inG (i := 916) (by decide +kernel) rfl)) rfl ⟨by decide, by decide, by decide +kernel⟩ ⟨Nat.le_of_ble_eq_true rfl, Nat.le_of_ble_eq_true rfl⟩) ⟨fun a U g mk q => by obtain ⟨q0, q1, qP, qK, qD⟩ := q; exact ⟨q0, q1, qP, va_K.moved (u := U) (U := U.calling g mk a) (Vm.Alike.refl U.vm) qK, qD⟩, fun U hU hW => ⟨rfl, by rw [hU], by rw [hU]; exact lastP hP, va_K.moved hW.alike hKc, (lastD hD).weaken (fun _ _ _ _ => trivial)⟩⟩ rfl rfl hl.1 rfl (lv_room (Nat.le_of_ble_eq_true rfl)) dw12 ⟨Nat.le_of_ble_eq_true rfl, Nat.le_of_ble_eq_true rfl⟩) hS (fun q _ h => hFc q h) hFc (fun uam t H1 locs ht hvm hwam hB hz1 hk1 hS => ?_)
  obtain ⟨hP1, hK1, hD1⟩ := hB
  rw [ht] at hP1
  have hK1 := va_K.moved hvm.symm hK1
  obtain ⟨hP, hD⟩ := joinL2 hP hD hk1 hFc hP1 hD1
  have hK := hK.app hK1
  generalize H1 = H at hP hS ⊢
  refine W.widen (k := 64) (n := 2527) (Nat.le_of_ble_eq_true rfl) (Nat.le_of_ble_eq_true rfl) ?_
  refine lv_astore_n (lv' := [(2, .ref am), (1, .ref ax), (0, .ref b)]) hx hb dw15 rfl hl (by decide) rfl (fun ls hl => ?_)
  refine lv_iconst (v := nI 1) hx hb dw16 (by decide) ?_
  refine va_newa (D := (dC, dI)) (cl := classes) (atype := .long) (ty := .long) (n := nI 1) (N' := 1) (a0 := (1, .inr (.inl (fun _ => 0)))) hx hb (htg (.arrayClass .long) (inG (i := 1332) (by decide +kernel) rfl)) rfl hK hP hD hS hA (na_long 1) (by decide) (by decide) (Nat.le_of_ble_eq_true rfl) (Nat.le_of_ble_eq_true rfl) (Nat.le_of_ble_eq_true rfl) dw17 (fun qo co H hK hP hD hS => ?_)
  refine lv_astore_n (lv' := [(3, .ref qo), (2, .ref am), (1, .ref ax), (0, .ref b)]) hx hb dw19 rfl hl (by decide) rfl (fun ls hl => ?_)
  refine lv_iconst (v := nI 0) hx hb dw20 (by decide) ?_
  refine lv_istore (lv' := [(4, .int (nI 0)), (3, .ref qo), (2, .ref am), (1, .ref ax), (0, .ref b)]) hx hb dw21 hl (by decide) rfl (fun ls hl => ?_)
  refine W.widen (k := 100 + 101 * 0) (n := 3000 + 706 * 0) (Nat.le_of_ble_eq_true rfl) (Nat.le_of_ble_eq_true rfl) ?_
  obtain ⟨v, ⟨qs, qr⟩, ⟨cs, cr⟩, us⟩ := uax
  have h8 : us.length = 8 := hwax
  obtain ⟨u0, u1, u2, u3, u4, u5, u6, u7, rfl⟩ := len8 h8
  have hP : va_P (dC, dI) classes (WX ax (v, (qs, qr), (cs, cr), [u0, u1, u2, u3, u4, u5, u6, u7]) am uam qo co) H := by rw [List.append_assoc] at hP; exact hP
  have hD : va_D (fun q : Nat => s.heap.size ≤ q) (WX ax (v, (qs, qr), (cs, cr), [u0, u1, u2, u3, u4, u5, u6, u7]) am uam qo co) := by rw [List.append_assoc] at hD; exact hD
  obtain ⟨w1, w2, w3, w4⟩ := wx_world (dC, dI) s.heap.size ax v qs qr cs cr u0 u1 u2 u3 u4 u5 u6 u7 am uam qo co hP hD
  have hK1 : va_K (dC, dI) classes (TX9s (v, (qs, qr), (cs, cr), [u0, u1, u2, u3, u4, u5, u6, u7]) uam) s := hK.sub (List.range 51) rfl
  have hKo : va_K (dC, dI) classes [(co, .long)] s := hK.sub [51] rfl
  have hKg := wx_ty (dC, dI) s.heap.size ax v qs qr cs cr u0 u1 u2 u3 u4 u5 u6 u7 am uam qo co hK1
  have hgA : ∀ a : Nat, a < s.heap.size → ¬ gA0 (GW (dC, dI) (WX ax (v, (qs, qr), (cs, cr), [u0, u1, u2, u3, u4, u5, u6, u7]) am uam qo co) s.heap.size) a := fun a ha z => absurd z.1 (Nat.not_le.mpr ha)
  have hXG : XG (GW (dC, dI) (WX ax (v, (qs, qr), (cs, cr), [u0, u1, u2, u3, u4, u5, u6, u7]) am uam qo co) s.heap.size) s s.heap := XG_start hts hgv hgA
  have hoz : adr (GW (dC, dI) (WX ax (v, (qs, qr), (cs, cr), [u0, u1, u2, u3, u4, u5, u6, u7]) am uam qo co) s.heap.size) 23 0 < H.size := (hP 64 (qo, .inl (co, 1, .inr (.inl (fun _ => 0)))) rfl).lt
  have hsz : s.heap.size ≤ H.size := hS.1
  have hLS : LSg (GW (dC, dI) (WX ax (v, (qs, qr), (cs, cr), [u0, u1, u2, u3, u4, u5, u6, u7]) am uam qo co) s.heap.size) p s m c b L xs := ⟨hx, hb, hml, hown, htg, hX, hbl, rfl, ⟨hKg, nest_start hts⟩, hL, hXG, hKo, w4⟩
  have hfl : l.stackTraces = false := by unfold Launch.stackTraces; rw [hflags]; decide
  have hLW : LW (GW (dC, dI) (WX ax (v, (qs, qr), (cs, cr), [u0, u1, u2, u3, u4, u5, u6, u7]) am uam qo co) s.heap.size) h0 (fun _ => 0) s H locs := ⟨fun t p i a z => absurd z (by intro z; cases z), w1, w2, w3, ⟨hsz, hoz⟩, hS⟩
  exact law_loop hLS hfl hr hlocks 513 0 rfl (Nat.zero_le _) h0 (fun _ => 0) H locs ls inv_0 hLW (lv_sub hl [0, 4, 3, 2, 1] rfl)
set_option maxHeartbeats 4000000 in
theorem lw_walk (l : Launch) (hflags : l.flags = flags0) (b : Addr) (xs : List Int32) : MetFree l x (headSpec (Jvm.Cond.code x code maxLocals ret :: tables_1) room_1) (lw_P b xs) (fun _ _ _ _ _ => True) lw_Q := by
  refine MetFree.of_bodyS (code := code) (maxLocals := maxLocals) (ret := ret) (by decide) ?_ ?_
  · intro args s m h hn
    obtain ⟨meth, c, h1, h2, h3, h4, h5, h6, -, -⟩ := Cond.code_spec hn (atoms_spec (ws := Jvm.Cond.code x code maxLocals ret :: tables_1) h _ List.mem_cons_self)
    exact ⟨meth, c, h1, h2, h3, h4, h5, h6⟩
  · intro p e s m args below meth c s₁ B hml0 hP _
    obtain ⟨rfl, hx, hbd, hgv⟩ := hP
    obtain ⟨scr, harrAt, hlist, hof, hsmall⟩ := hx
    obtain ⟨hcb, hkn, -, -⟩ := State.arrayAt?_spec harrAt
    have hown : s.vm.findClass R_law = some m.cls := findClass_of_methodNamed B.named
    have hts0 : ∀ c ∈ (Jvm.Cond.code x code maxLocals ret :: tables_1), c.before #[Value.ref b] s = true := atoms_spec (ws := Jvm.Cond.code x code maxLocals ret :: tables_1) B.pre
    have hts : ∀ w ∈ lw_tbl, w.before #[Value.ref b] s = true := k2_hts_sels lw_privs (fun w hw => hts0 w (List.mem_cons_of_mem _ hw)) lw_privs_ok
    have hml : c.maxLocals = 8 := B.maxLocals_eq (hts0 _ List.mem_cons_self)
    have X₀ : Stand p l e room_1 s m #[Value.ref b] below meth c s₁ [] 0 0 := Stand.of_body B
    have hh0 : s₁.heap = s.heap := by rw [B.state]; rfl
    have hsz : scr.slots.size = xs.length := by rw [← Array.length_toList, hlist, List.length_map]
    have hval : ∀ j : Nat, j < xs.length → scr.slots[j]? = some (.int (xs.getD j 0)) := fun j hj => by
      rw [← Array.getElem?_toList, hlist]
      simp [hj]
    have hbl : b < s.heap.size := (Array.getElem?_eq_some_iff.mp hcb).1
    have hX : va_X b xs.length (fun j => xs.getD j 0) s s.heap := ⟨scr, hcb, hof, hkn, hsz, hval⟩
    have K : W p l e room_1 s m #[Value.ref b] below meth c s₁.heap [] 0 0 (lw_Z below #[Value.ref b] s) (entryFrame m ([Value.ref b] : List Value).toArray 8) := by
      rw [hh0]
      exact whole_start l hflags hbd ⟨B.exec, B.bytes, B.returns, hml, hown, hts, hX, hbl, B.notSynchronized, hgv⟩
    obtain ⟨t, a1, o, b1, b2, b3⟩ := K s₁ rfl X₀
    exact ⟨t, o, a1, b1, b2, b3⟩
theorem lw_pre_spec {args : Array Value} {s : State} (h : (Jvm.Cond.and given_1 narrow_1).before args s = true) (hr : rest_1_c.before args s = true) : ∃ (b : Addr) (xs : List Int32), lw_P b xs args s := by
  have hs := flat_of_before _ h
  have hq := flat_of_before _ hr
  have hc : (Cond.count 1).before args s = true := hs _ (by decide +kernel)
  have harr : (Cond.arrayOf (.arg 0) .int).before args s = true := hs _ (by decide +kernel)
  have hle : (Cond.le (.length (.arg 0)) (.int 3072)).before args s = true := hs _ (by decide +kernel)
  have hlen : (Cond.isInt (.length (.arg 0))).before args s = true := hq _ (by decide +kernel)
  have hall : (Cond.all (.arg 0) (.isInt (.elem (.arg 0) (.index 0)))).before args s = true := hq _ (by decide +kernel)
  obtain ⟨b, xs, hb, hx⟩ := State.ints_of_pre rfl harr hlen hall
  have hsm : xs.length < 2 ^ 31 := hx.choose_spec.2.2.2
  have hev : (Term.length (.arg 0)).eval args s none [] s = some (.int xs.length.toInt32) := hx.length_eval hb
  have hv := Cond.le_ints hev (show (Term.int 3072).eval args s none [] s = some (.int 3072) from rfl)
  have hd : xs.length.toInt32 ≤ 3072 := by
    simpa [Cond.before, Cond.holds, hv] using hle
  have hN : xs.length ≤ 3072 := (Int32.ofNat_le_ofNat hsm (by decide)).mp (show Int32.ofNat xs.length ≤ Int32.ofNat 3072 from hd)
  exact ⟨b, xs, Cond.one_arg hc (show args[0]? = some (.ref b) from hb), hx, hN, h⟩
theorem lw_comes (l : Launch) (hflags : l.flags = flags0) : Comes l x (Jvm.Cond.code x code maxLocals ret :: tables_1) room_1 (fun tb e args s => Calls_1 tb e args s ∧ rest_1 tb e args s ∧ Pre_1 tb e args s)
    (fun _ _ args s o t => lw_Q args s o t) := by
  intro p e ha hc hk s m args below hf hfit hheap happ hpre
  obtain ⟨b, xs, hP⟩ := lw_pre_spec hpre.2.2 hpre.2.1
  obtain ⟨k, o, h1, h2, h3, hQ⟩ := lw_walk l hflags b xs p e ha hc hk s m args below hf ((Spec.applies_iff_loose hf).mp happ).1 hP trivial
  exact ⟨k, o, h1, h2, h3, hQ⟩
theorem lw_frame {s t : State} {o : Outcome} {args : Array Value} (h : Framed s o t [] 601024 7293034) :
    Framed s o t (fieldLocs frame_1_writes args s ++ arrayLocs frame_1_arrays args s ++ staticLocs frame_1_statics s) 601024 7293034 := h
theorem lw_limb (L : Cond) (hL : ∀ (args : Array Value) (s t : State), L.after args s (.returned (some (.int 1))) t = true) :
    ArmFor flags0 classFile x code maxLocals ret World_1 tables_1 room_1 Calls_1 rest_1 Pre_1
      (fun tb e a s o t => postC L tb e a s o t ∧ Framed s o t (fieldLocs frame_1_writes a s ++ arrayLocs frame_1_arrays a s ++ staticLocs frame_1_statics s) 601024 7293034) := by
  intro l hflags _ _ p e ha hc hk s m args below hf hfit hheap happ hpre
  obtain ⟨k, o, h1, h2, h3, rfl, hF⟩ := lw_comes l hflags p e ha hc hk s m args below hf hfit hheap happ hpre
  exact ⟨k, _, h1, h2, h3, hL args s _, lw_frame hF⟩
theorem i_vc : Claimed_1_1 ∧ Claimed_1_2 := ⟨lw_limb limb_1_1 (fun args s t => by simp [limb_1_1, Cond.after, Cond.holds, Cond.value]), lw_limb limb_1_2 (fun args s t => Cond.after_iff.mpr (by
  first | (rw [show limb_1_2 = Cond.eq .result (.int 1) from rfl, Cond.eq_ints (x := 1) (y := 1) rfl rfl]; simp; done) | (simp [limb_1_2, Cond.value, Term.eval]; done)))⟩

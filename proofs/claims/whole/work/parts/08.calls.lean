/-! ===== the rules of calls ===== -/
theorem Wd_pre {G : GL} {h : AH} {s : State} {H : Heap} {locs : List Loc} (hK : KG G s) (hW : Wd G h s H locs) (as : List AV) : ∀ U : State, U.heap = H → s.WarmedH U.vm → mPc G as h (as.map (cv G)).toArray U := by
  intro U hU hWm
  refine ⟨rfl, KG_warm hK hWm ?_, hW.1, by rw [hU]; exact hW.2.1, hW.2.2.1⟩
  rw [hU]
  exact gok_mono hK.2.1 hW.2.2.2.1
theorem ob_recv {G : GL} {h : AH} {s : State} {H : Heap} {locs : List Loc} {t p : Nat} (hK : KG G s) (hW : Wd G h s H locs) (hob : isob t = true) (hm : (t, p) ∈ fixed) {C : String} (hC : classes[ocl h t p]? = some (C, TC t, (fl t).length)) : ∃ cell : Cell, H[adr G t p]? = some cell ∧ cell.vm.isStatics = false ∧ s.vm.findClass C = some cell.cls := by
  obtain ⟨j, hj, hw⟩ := wl_get (G := G) (idx_fx (h := h) hm)
  rw [cell_ob G h p hob] at hw
  exact va_recv hK.1 hW.2.1 hC hw
def rcl (t : Nat) : String := match t with
  | 0 => RX10
  | 1 => RX9
  | 12 => RX5
  | _ => RX11
theorem rcl_ok (h : AH) (p : Nat) : ∀ t ∈ [0, 1, 12, 15], classes[ocl h t p]? = some (rcl t, TC t, (fl t).length) := by
  intro t ht
  simp only [List.mem_cons, List.not_mem_nil, or_false] at ht
  rcases ht with rfl | rfl | rfl | rfl <;> rfl
theorem isob_4 {t : Nat} (h : t ∈ [0, 1, 12, 15]) : isob t = true := by
  simp only [List.mem_cons, List.not_mem_nil, or_false] at h
  rcases h with rfl | rfl | rfl | rfl <;> rfl
theorem map_rev_app (G : GL) (as rest : List AV) : (as.map (cv G)).reverse ++ rest.map (cv G) = (as.map (cv G)).reverse ++ rest.map (cv G) := rfl
theorem crS_i {own : String} {idx n : Nat} {y : MethodName} {M : MI} {T : List AV → AH → (Int32 → AH → Prop) → Prop} (hy : plainName y.cls = true) (ho : mOwn M = y.cls) (hw1 : Cond.methodLink own idx y ∈ lw_g) (hw2 : Cond.static y ∈ lw_g) (hw3 : Cond.initialized y.cls ∈ lw_g) (hw4 : Cond.code y (mCC M) (mNL M) (some .int) ∈ lw_g) (hd : (y.cls ≠ "java/lang/invoke/MethodHandle" ∧ y.cls ≠ "java/lang/invoke/VarHandle" ∧ (parseMethodDescriptor y.desc).map (fun d => d.parameters.length) = some n)) (hT : ∀ (as : List AV) (h : AH) (K : Int32 → AH → Prop), T as h K → (ini as).length ≤ mNL M ∧ AW M (.inl K) 0 (initL (mNL M) as) [] h 0 0) : CR own (.invokestatic idx) (n, mFr M + 1, 8 + (mNL M + 11) + mLo M, mMc M, mMs M, .inl T) := by
  intro G p l e R s m args below meth c cc H locs kc ks Qf pc ls as rest h hx hb hml hown hts hr1 hr2 hr3 hr4 hK hW hst hlen hcat hdg
  intro K hk kk
  obtain ⟨hn, hA⟩ := hT as h K hk
  have hM := met_i hy ho hst hn hA l G
  refine va_calli (va_runS (As := as.map (cv G)) (rest := rest.map (cv G)) ⟨hx, hb, hml, hown, hts⟩ hM (va_cwS n hts (goodG (fun w hw => ?_)) rfl rfl rfl hd ⟨hr1, hr2⟩) ⟨mPc_blind G as h, Wd_pre hK hW as⟩ rfl (by rw [List.length_map]; exact hlen) rfl rfl (by show 2 * 0 + _ ≤ 8; rw [cats_map]; simpa using hcat) hdg ⟨hr3, hr4⟩) hW.2.2.2 (fun q _ h => h) (fun q h => h) (fun x u t H1 locs1 ht hvm hw hB hz hk hS1 => kk x u H1 locs1 hw.1 ⟨hB.1, by rw [← ht]; exact hB.2.1, hB.2.2, hS1⟩ hw.2)
  simp only [va_wsS, List.mem_append, List.mem_cons, List.not_mem_nil, or_false] at hw
  rcases hw with (rfl | rfl | rfl) | rfl | hw
  · exact hw1
  · exact hw2
  · exact hw3
  · exact hw4
  · exact hw
theorem crN_i {host : String} {own : String} {idx n : Nat} {y : MethodName} {M : MI} {T : List AV → AH → (Int32 → AH → Prop) → Prop} (hy : plainName y.cls = true) (ho : mOwn M = y.cls) (hw1 : Cond.methodLinkNest own idx y host ∈ nestW) (hw2 : Cond.static y ∈ lw_g) (hw3 : Cond.initialized y.cls ∈ lw_g) (hw4 : Cond.code y (mCC M) (mNL M) (some .int) ∈ lw_g) (hd : (y.cls ≠ "java/lang/invoke/MethodHandle" ∧ y.cls ≠ "java/lang/invoke/VarHandle" ∧ (parseMethodDescriptor y.desc).map (fun d => d.parameters.length) = some n)) (hT : ∀ (as : List AV) (h : AH) (K : Int32 → AH → Prop), T as h K → (ini as).length ≤ mNL M ∧ AW M (.inl K) 0 (initL (mNL M) as) [] h 0 0) : CR own (.invokestatic idx) (n, mFr M + 1, 8 + (mNL M + 11) + mLo M, mMc M, mMs M, .inl T) := by
  intro G p l e R s m args below meth c cc H locs kc ks Qf pc ls as rest h hx hb hml hown hts hr1 hr2 hr3 hr4 hK hW hst hlen hcat hdg
  intro K hk kk
  obtain ⟨hn, hA⟩ := hT as h K hk
  have hM := met_i hy ho hst hn hA l G
  refine va_calli (va_runSN (As := as.map (cv G)) (rest := rest.map (cv G)) ⟨hx, hb, hml, hown, hts⟩ hM ⟨va_cnB n hts (goodG (fun w hw => ?_)) rfl rfl rfl (hK.2.2 _ hw1) (hts _ hw3) hd ⟨hr1, hr2⟩, hts _ hw2, trivial⟩ ⟨mPc_blind G as h, Wd_pre hK hW as⟩ rfl (by rw [List.length_map]; exact hlen) rfl rfl (by show 2 * 0 + _ ≤ 8; rw [cats_map]; simpa using hcat) hdg ⟨hr3, hr4⟩) hW.2.2.2 (fun q _ h => h) (fun q h => h) (fun x u t H1 locs1 ht hvm hw hB hz hk hS1 => kk x u H1 locs1 hw.1 ⟨hB.1, by rw [← ht]; exact hB.2.1, hB.2.2, hS1⟩ hw.2)
  simp only [List.mem_cons] at hw
  rcases hw with rfl | hw
  · exact hw4
  · exact hw
theorem crV_i {t : Nat} {own : String} {idx n : Nat} {y : MethodName} {M : MI} {T : List AV → AH → (Int32 → AH → Prop) → Prop} (hy : plainName y.cls = true) (ho : mOwn M = y.cls) (ht : t ∈ [0, 1, 12, 15]) (hyC : y.cls = rcl t) (hw1 : Cond.methodLink own idx y ∈ lw_g) (hw2 : Cond.instanceMethod y ∈ lw_g) (hw3 : Cond.initialized (rcl t) ∈ lw_g) (hw5 : Cond.selects (rcl t) y y ∈ lw_g) (hw4 : Cond.code y (mCC M) (mNL M) (some .int) ∈ lw_g) (hd : (y.cls ≠ "java/lang/invoke/MethodHandle" ∧ y.cls ≠ "java/lang/invoke/VarHandle" ∧ (parseMethodDescriptor y.desc).map (fun d => d.parameters.length) = some n)) (hTr : ∀ (as : List AV) (h : AH) (K : Int32 → AH → Prop), T as h K → ∃ (q : Nat) (r : List AV), as = aR t q :: r) (hT : ∀ (as : List AV) (h : AH) (K : Int32 → AH → Prop), T as h K → (ini as).length ≤ mNL M ∧ AW M (.inl K) 0 (initL (mNL M) as) [] h 0 0) : CR own (.invokevirtual idx) (n + 1, mFr M + 1, 8 + (mNL M + 11) + mLo M, mMc M, mMs M, .inl T) := by
  intro G p l e R s m args below meth c cc H locs kc ks Qf pc ls as rest h hx hb hml hown hts hr1 hr2 hr3 hr4 hK hW hst hlen hcat hdg
  intro K hk kk
  obtain ⟨hn, hA⟩ := hT as h K hk
  obtain ⟨q0, as', rfl⟩ := hTr as h K hk
  have hM := met_i hy ho hst hn hA l G
  have hl2 : as'.length = n := Nat.succ.inj hlen
  have hst0 : ((aR t q0 :: as').map (cv G)).reverse ++ rest.map (cv G) = (as'.map (cv G)).reverse ++ Value.ref (adr G t q0) :: rest.map (cv G) := by
    rw [List.map_cons, List.reverse_cons, List.append_assoc]
    rfl
  rw [hst0]
  refine va_calli (va_runV (As := as'.map (cv G)) (rest := rest.map (cv G)) (C := rcl t) ⟨hx, hb, hml, hown, hts⟩ hM (cwV n hts (goodG (fun w hw => ?_)) rfl rfl rfl ⟨hyC, hd⟩ ⟨hr1, hr2⟩) ⟨mPc_blind G _ h, ob_recv hK hW (isob_4 ht) (okSt_h hst) (rcl_ok h q0 t ht), Wd_pre hK hW (aR t q0 :: as')⟩ rfl (by rw [List.length_map]; exact hl2) rfl rfl (by show 2 * 0 + _ ≤ 8; rw [cats_map]; simpa using hcat) hdg ⟨hr3, hr4⟩) hW.2.2.2 (fun q _ h => h) (fun q h => h) (fun x u t H1 locs1 ht hvm hw hB hz hk hS1 => kk x u H1 locs1 hw.1 ⟨hB.1, by rw [← ht]; exact hB.2.1, hB.2.2, hS1⟩ hw.2)
  simp only [wsV, List.mem_append, List.mem_cons, List.not_mem_nil, or_false] at hw
  rcases hw with (rfl | rfl | rfl | rfl) | rfl | hw
  · exact hw1
  · exact hw2
  · exact hw5
  · exact hw3
  · exact hw4
  · exact hw
theorem crS_z {own : String} {idx n : Nat} {y : MethodName} {M : MI} {T : List AV → AH → (Int32 → AH → Prop) → Prop} (hy : plainName y.cls = true) (ho : mOwn M = y.cls) (hw1 : Cond.methodLink own idx y ∈ lw_g) (hw2 : Cond.static y ∈ lw_g) (hw3 : Cond.initialized y.cls ∈ lw_g) (hw4 : Cond.code y (mCC M) (mNL M) (some .boolean) ∈ lw_g) (hd : (y.cls ≠ "java/lang/invoke/MethodHandle" ∧ y.cls ≠ "java/lang/invoke/VarHandle" ∧ (parseMethodDescriptor y.desc).map (fun d => d.parameters.length) = some n)) (hT : ∀ (as : List AV) (h : AH) (K : Int32 → AH → Prop), T as h K → (ini as).length ≤ mNL M ∧ AW M (.inl (fun x u => (x = 0 ∨ x = 1) ∧ K x u)) 0 (initL (mNL M) as) [] h 0 0) : CR own (.invokestatic idx) (n, mFr M + 1, 8 + (mNL M + 11) + mLo M, mMc M, mMs M, .inl T) := by
  intro G p l e R s m args below meth c cc H locs kc ks Qf pc ls as rest h hx hb hml hown hts hr1 hr2 hr3 hr4 hK hW hst hlen hcat hdg
  intro K hk kk
  obtain ⟨hn, hA⟩ := hT as h K hk
  have hM := met_z hy ho hst hn hA l G
  refine va_calli (va_runS (As := as.map (cv G)) (rest := rest.map (cv G)) ⟨hx, hb, hml, hown, hts⟩ hM (va_cwS n hts (goodG (fun w hw => ?_)) rfl rfl rfl hd ⟨hr1, hr2⟩) ⟨mPc_blind G as h, Wd_pre hK hW as⟩ rfl (by rw [List.length_map]; exact hlen) rfl rfl (by show 2 * 0 + _ ≤ 8; rw [cats_map]; simpa using hcat) hdg ⟨hr3, hr4⟩) hW.2.2.2 (fun q _ h => h) (fun q h => h) (fun x u t H1 locs1 ht hvm hw hB hz hk hS1 => kk x u H1 locs1 hw.1 ⟨hB.1, by rw [← ht]; exact hB.2.1, hB.2.2, hS1⟩ hw.2)
  simp only [va_wsS, List.mem_append, List.mem_cons, List.not_mem_nil, or_false] at hw
  rcases hw with (rfl | rfl | rfl) | rfl | hw
  · exact hw1
  · exact hw2
  · exact hw3
  · exact hw4
  · exact hw
theorem crN_z {host : String} {own : String} {idx n : Nat} {y : MethodName} {M : MI} {T : List AV → AH → (Int32 → AH → Prop) → Prop} (hy : plainName y.cls = true) (ho : mOwn M = y.cls) (hw1 : Cond.methodLinkNest own idx y host ∈ nestW) (hw2 : Cond.static y ∈ lw_g) (hw3 : Cond.initialized y.cls ∈ lw_g) (hw4 : Cond.code y (mCC M) (mNL M) (some .boolean) ∈ lw_g) (hd : (y.cls ≠ "java/lang/invoke/MethodHandle" ∧ y.cls ≠ "java/lang/invoke/VarHandle" ∧ (parseMethodDescriptor y.desc).map (fun d => d.parameters.length) = some n)) (hT : ∀ (as : List AV) (h : AH) (K : Int32 → AH → Prop), T as h K → (ini as).length ≤ mNL M ∧ AW M (.inl (fun x u => (x = 0 ∨ x = 1) ∧ K x u)) 0 (initL (mNL M) as) [] h 0 0) : CR own (.invokestatic idx) (n, mFr M + 1, 8 + (mNL M + 11) + mLo M, mMc M, mMs M, .inl T) := by
  intro G p l e R s m args below meth c cc H locs kc ks Qf pc ls as rest h hx hb hml hown hts hr1 hr2 hr3 hr4 hK hW hst hlen hcat hdg
  intro K hk kk
  obtain ⟨hn, hA⟩ := hT as h K hk
  have hM := met_z hy ho hst hn hA l G
  refine va_calli (va_runSN (As := as.map (cv G)) (rest := rest.map (cv G)) ⟨hx, hb, hml, hown, hts⟩ hM ⟨va_cnB n hts (goodG (fun w hw => ?_)) rfl rfl rfl (hK.2.2 _ hw1) (hts _ hw3) hd ⟨hr1, hr2⟩, hts _ hw2, trivial⟩ ⟨mPc_blind G as h, Wd_pre hK hW as⟩ rfl (by rw [List.length_map]; exact hlen) rfl rfl (by show 2 * 0 + _ ≤ 8; rw [cats_map]; simpa using hcat) hdg ⟨hr3, hr4⟩) hW.2.2.2 (fun q _ h => h) (fun q h => h) (fun x u t H1 locs1 ht hvm hw hB hz hk hS1 => kk x u H1 locs1 hw.1 ⟨hB.1, by rw [← ht]; exact hB.2.1, hB.2.2, hS1⟩ hw.2)
  simp only [List.mem_cons] at hw
  rcases hw with rfl | hw
  · exact hw4
  · exact hw
theorem crV_z {t : Nat} {own : String} {idx n : Nat} {y : MethodName} {M : MI} {T : List AV → AH → (Int32 → AH → Prop) → Prop} (hy : plainName y.cls = true) (ho : mOwn M = y.cls) (ht : t ∈ [0, 1, 12, 15]) (hyC : y.cls = rcl t) (hw1 : Cond.methodLink own idx y ∈ lw_g) (hw2 : Cond.instanceMethod y ∈ lw_g) (hw3 : Cond.initialized (rcl t) ∈ lw_g) (hw5 : Cond.selects (rcl t) y y ∈ lw_g) (hw4 : Cond.code y (mCC M) (mNL M) (some .boolean) ∈ lw_g) (hd : (y.cls ≠ "java/lang/invoke/MethodHandle" ∧ y.cls ≠ "java/lang/invoke/VarHandle" ∧ (parseMethodDescriptor y.desc).map (fun d => d.parameters.length) = some n)) (hTr : ∀ (as : List AV) (h : AH) (K : Int32 → AH → Prop), T as h K → ∃ (q : Nat) (r : List AV), as = aR t q :: r) (hT : ∀ (as : List AV) (h : AH) (K : Int32 → AH → Prop), T as h K → (ini as).length ≤ mNL M ∧ AW M (.inl (fun x u => (x = 0 ∨ x = 1) ∧ K x u)) 0 (initL (mNL M) as) [] h 0 0) : CR own (.invokevirtual idx) (n + 1, mFr M + 1, 8 + (mNL M + 11) + mLo M, mMc M, mMs M, .inl T) := by
  intro G p l e R s m args below meth c cc H locs kc ks Qf pc ls as rest h hx hb hml hown hts hr1 hr2 hr3 hr4 hK hW hst hlen hcat hdg
  intro K hk kk
  obtain ⟨hn, hA⟩ := hT as h K hk
  obtain ⟨q0, as', rfl⟩ := hTr as h K hk
  have hM := met_z hy ho hst hn hA l G
  have hl2 : as'.length = n := Nat.succ.inj hlen
  have hst0 : ((aR t q0 :: as').map (cv G)).reverse ++ rest.map (cv G) = (as'.map (cv G)).reverse ++ Value.ref (adr G t q0) :: rest.map (cv G) := by
    rw [List.map_cons, List.reverse_cons, List.append_assoc]
    rfl
  rw [hst0]
  refine va_calli (va_runV (As := as'.map (cv G)) (rest := rest.map (cv G)) (C := rcl t) ⟨hx, hb, hml, hown, hts⟩ hM (cwV n hts (goodG (fun w hw => ?_)) rfl rfl rfl ⟨hyC, hd⟩ ⟨hr1, hr2⟩) ⟨mPc_blind G _ h, ob_recv hK hW (isob_4 ht) (okSt_h hst) (rcl_ok h q0 t ht), Wd_pre hK hW (aR t q0 :: as')⟩ rfl (by rw [List.length_map]; exact hl2) rfl rfl (by show 2 * 0 + _ ≤ 8; rw [cats_map]; simpa using hcat) hdg ⟨hr3, hr4⟩) hW.2.2.2 (fun q _ h => h) (fun q h => h) (fun x u t H1 locs1 ht hvm hw hB hz hk hS1 => kk x u H1 locs1 hw.1 ⟨hB.1, by rw [← ht]; exact hB.2.1, hB.2.2, hS1⟩ hw.2)
  simp only [wsV, List.mem_append, List.mem_cons, List.not_mem_nil, or_false] at hw
  rcases hw with (rfl | rfl | rfl | rfl) | rfl | hw
  · exact hw1
  · exact hw2
  · exact hw5
  · exact hw3
  · exact hw4
  · exact hw
theorem crS_v {own : String} {idx n : Nat} {y : MethodName} {M : MI} {T : List AV → AH → (AH → Prop) → Prop} (hy : plainName y.cls = true) (ho : mOwn M = y.cls) (hw1 : Cond.methodLink own idx y ∈ lw_g) (hw2 : Cond.static y ∈ lw_g) (hw3 : Cond.initialized y.cls ∈ lw_g) (hw4 : Cond.code y (mCC M) (mNL M) (none) ∈ lw_g) (hd : (y.cls ≠ "java/lang/invoke/MethodHandle" ∧ y.cls ≠ "java/lang/invoke/VarHandle" ∧ (parseMethodDescriptor y.desc).map (fun d => d.parameters.length) = some n)) (hT : ∀ (as : List AV) (h : AH) (K : AH → Prop), T as h K → (ini as).length ≤ mNL M ∧ AW M (.inr (.inl K)) 0 (initL (mNL M) as) [] h 0 0) : CR own (.invokestatic idx) (n, mFr M + 1, 8 + (mNL M + 11) + mLo M, mMc M, mMs M, .inr (.inl T)) := by
  intro G p l e R s m args below meth c cc H locs kc ks Qf pc ls as rest h hx hb hml hown hts hr1 hr2 hr3 hr4 hK hW hst hlen hcat hdg
  intro K hk kk
  obtain ⟨hn, hA⟩ := hT as h K hk
  have hM := met_v hy ho hst hn hA l G
  refine va_callv (va_runS (As := as.map (cv G)) (rest := rest.map (cv G)) ⟨hx, hb, hml, hown, hts⟩ hM (va_cwS n hts (goodG (fun w hw => ?_)) rfl rfl rfl hd ⟨hr1, hr2⟩) ⟨mPc_blind G as h, Wd_pre hK hW as⟩ rfl (by rw [List.length_map]; exact hlen) rfl rfl (by show 2 * 0 + _ ≤ 8; rw [cats_map]; simpa using hcat) hdg ⟨hr3, hr4⟩) hW.2.2.2 (fun q _ h => h) (fun q h => h) (fun u t H1 locs1 ht hvm hw hB hz hk hS1 => kk u H1 locs1 hw.1 ⟨hB.1, by rw [← ht]; exact hB.2.1, hB.2.2, hS1⟩ hw.2)
  simp only [va_wsS, List.mem_append, List.mem_cons, List.not_mem_nil, or_false] at hw
  rcases hw with (rfl | rfl | rfl) | rfl | hw
  · exact hw1
  · exact hw2
  · exact hw3
  · exact hw4
  · exact hw
theorem crN_v {host : String} {own : String} {idx n : Nat} {y : MethodName} {M : MI} {T : List AV → AH → (AH → Prop) → Prop} (hy : plainName y.cls = true) (ho : mOwn M = y.cls) (hw1 : Cond.methodLinkNest own idx y host ∈ nestW) (hw2 : Cond.static y ∈ lw_g) (hw3 : Cond.initialized y.cls ∈ lw_g) (hw4 : Cond.code y (mCC M) (mNL M) (none) ∈ lw_g) (hd : (y.cls ≠ "java/lang/invoke/MethodHandle" ∧ y.cls ≠ "java/lang/invoke/VarHandle" ∧ (parseMethodDescriptor y.desc).map (fun d => d.parameters.length) = some n)) (hT : ∀ (as : List AV) (h : AH) (K : AH → Prop), T as h K → (ini as).length ≤ mNL M ∧ AW M (.inr (.inl K)) 0 (initL (mNL M) as) [] h 0 0) : CR own (.invokestatic idx) (n, mFr M + 1, 8 + (mNL M + 11) + mLo M, mMc M, mMs M, .inr (.inl T)) := by
  intro G p l e R s m args below meth c cc H locs kc ks Qf pc ls as rest h hx hb hml hown hts hr1 hr2 hr3 hr4 hK hW hst hlen hcat hdg
  intro K hk kk
  obtain ⟨hn, hA⟩ := hT as h K hk
  have hM := met_v hy ho hst hn hA l G
  refine va_callv (va_runSN (As := as.map (cv G)) (rest := rest.map (cv G)) ⟨hx, hb, hml, hown, hts⟩ hM ⟨va_cnB n hts (goodG (fun w hw => ?_)) rfl rfl rfl (hK.2.2 _ hw1) (hts _ hw3) hd ⟨hr1, hr2⟩, hts _ hw2, trivial⟩ ⟨mPc_blind G as h, Wd_pre hK hW as⟩ rfl (by rw [List.length_map]; exact hlen) rfl rfl (by show 2 * 0 + _ ≤ 8; rw [cats_map]; simpa using hcat) hdg ⟨hr3, hr4⟩) hW.2.2.2 (fun q _ h => h) (fun q h => h) (fun u t H1 locs1 ht hvm hw hB hz hk hS1 => kk u H1 locs1 hw.1 ⟨hB.1, by rw [← ht]; exact hB.2.1, hB.2.2, hS1⟩ hw.2)
  simp only [List.mem_cons] at hw
  rcases hw with rfl | hw
  · exact hw4
  · exact hw
theorem crV_v {t : Nat} {own : String} {idx n : Nat} {y : MethodName} {M : MI} {T : List AV → AH → (AH → Prop) → Prop} (hy : plainName y.cls = true) (ho : mOwn M = y.cls) (ht : t ∈ [0, 1, 12, 15]) (hyC : y.cls = rcl t) (hw1 : Cond.methodLink own idx y ∈ lw_g) (hw2 : Cond.instanceMethod y ∈ lw_g) (hw3 : Cond.initialized (rcl t) ∈ lw_g) (hw5 : Cond.selects (rcl t) y y ∈ lw_g) (hw4 : Cond.code y (mCC M) (mNL M) (none) ∈ lw_g) (hd : (y.cls ≠ "java/lang/invoke/MethodHandle" ∧ y.cls ≠ "java/lang/invoke/VarHandle" ∧ (parseMethodDescriptor y.desc).map (fun d => d.parameters.length) = some n)) (hTr : ∀ (as : List AV) (h : AH) (K : AH → Prop), T as h K → ∃ (q : Nat) (r : List AV), as = aR t q :: r) (hT : ∀ (as : List AV) (h : AH) (K : AH → Prop), T as h K → (ini as).length ≤ mNL M ∧ AW M (.inr (.inl K)) 0 (initL (mNL M) as) [] h 0 0) : CR own (.invokevirtual idx) (n + 1, mFr M + 1, 8 + (mNL M + 11) + mLo M, mMc M, mMs M, .inr (.inl T)) := by
  intro G p l e R s m args below meth c cc H locs kc ks Qf pc ls as rest h hx hb hml hown hts hr1 hr2 hr3 hr4 hK hW hst hlen hcat hdg
  intro K hk kk
  obtain ⟨hn, hA⟩ := hT as h K hk
  obtain ⟨q0, as', rfl⟩ := hTr as h K hk
  have hM := met_v hy ho hst hn hA l G
  have hl2 : as'.length = n := Nat.succ.inj hlen
  have hst0 : ((aR t q0 :: as').map (cv G)).reverse ++ rest.map (cv G) = (as'.map (cv G)).reverse ++ Value.ref (adr G t q0) :: rest.map (cv G) := by
    rw [List.map_cons, List.reverse_cons, List.append_assoc]
    rfl
  rw [hst0]
  refine va_callv (va_runV (As := as'.map (cv G)) (rest := rest.map (cv G)) (C := rcl t) ⟨hx, hb, hml, hown, hts⟩ hM (cwV n hts (goodG (fun w hw => ?_)) rfl rfl rfl ⟨hyC, hd⟩ ⟨hr1, hr2⟩) ⟨mPc_blind G _ h, ob_recv hK hW (isob_4 ht) (okSt_h hst) (rcl_ok h q0 t ht), Wd_pre hK hW (aR t q0 :: as')⟩ rfl (by rw [List.length_map]; exact hl2) rfl rfl (by show 2 * 0 + _ ≤ 8; rw [cats_map]; simpa using hcat) hdg ⟨hr3, hr4⟩) hW.2.2.2 (fun q _ h => h) (fun q h => h) (fun u t H1 locs1 ht hvm hw hB hz hk hS1 => kk u H1 locs1 hw.1 ⟨hB.1, by rw [← ht]; exact hB.2.1, hB.2.2, hS1⟩ hw.2)
  simp only [wsV, List.mem_append, List.mem_cons, List.not_mem_nil, or_false] at hw
  rcases hw with (rfl | rfl | rfl | rfl) | rfl | hw
  · exact hw1
  · exact hw2
  · exact hw5
  · exact hw3
  · exact hw4
  · exact hw
theorem crS_l {own : String} {idx n : Nat} {y : MethodName} {M : MI} {T : List AV → AH → (Int64 → AH → Prop) → Prop} (hy : plainName y.cls = true) (ho : mOwn M = y.cls) (hw1 : Cond.methodLink own idx y ∈ lw_g) (hw2 : Cond.static y ∈ lw_g) (hw3 : Cond.initialized y.cls ∈ lw_g) (hw4 : Cond.code y (mCC M) (mNL M) (some .long) ∈ lw_g) (hd : (y.cls ≠ "java/lang/invoke/MethodHandle" ∧ y.cls ≠ "java/lang/invoke/VarHandle" ∧ (parseMethodDescriptor y.desc).map (fun d => d.parameters.length) = some n)) (hT : ∀ (as : List AV) (h : AH) (K : Int64 → AH → Prop), T as h K → (ini as).length ≤ mNL M ∧ AW M (.inr (.inr (.inl K))) 0 (initL (mNL M) as) [] h 0 0) : CR own (.invokestatic idx) (n, mFr M + 1, 8 + (mNL M + 11) + mLo M, mMc M, mMs M, .inr (.inr (.inl T))) := by
  intro G p l e R s m args below meth c cc H locs kc ks Qf pc ls as rest h hx hb hml hown hts hr1 hr2 hr3 hr4 hK hW hst hlen hcat hdg
  intro K hk kk
  obtain ⟨hn, hA⟩ := hT as h K hk
  have hM := met_l hy ho hst hn hA l G
  refine va_calll (va_runS (As := as.map (cv G)) (rest := rest.map (cv G)) ⟨hx, hb, hml, hown, hts⟩ hM (va_cwS n hts (goodG (fun w hw => ?_)) rfl rfl rfl hd ⟨hr1, hr2⟩) ⟨mPc_blind G as h, Wd_pre hK hW as⟩ rfl (by rw [List.length_map]; exact hlen) rfl rfl (by show 2 * 0 + _ ≤ 8; rw [cats_map]; simpa using hcat) hdg ⟨hr3, hr4⟩) hW.2.2.2 (fun q _ h => h) (fun q h => h) (fun x u t H1 locs1 ht hvm hw hB hz hk hS1 => kk x u H1 locs1 hw.1 ⟨hB.1, by rw [← ht]; exact hB.2.1, hB.2.2, hS1⟩ hw.2)
  simp only [va_wsS, List.mem_append, List.mem_cons, List.not_mem_nil, or_false] at hw
  rcases hw with (rfl | rfl | rfl) | rfl | hw
  · exact hw1
  · exact hw2
  · exact hw3
  · exact hw4
  · exact hw
theorem crN_l {host : String} {own : String} {idx n : Nat} {y : MethodName} {M : MI} {T : List AV → AH → (Int64 → AH → Prop) → Prop} (hy : plainName y.cls = true) (ho : mOwn M = y.cls) (hw1 : Cond.methodLinkNest own idx y host ∈ nestW) (hw2 : Cond.static y ∈ lw_g) (hw3 : Cond.initialized y.cls ∈ lw_g) (hw4 : Cond.code y (mCC M) (mNL M) (some .long) ∈ lw_g) (hd : (y.cls ≠ "java/lang/invoke/MethodHandle" ∧ y.cls ≠ "java/lang/invoke/VarHandle" ∧ (parseMethodDescriptor y.desc).map (fun d => d.parameters.length) = some n)) (hT : ∀ (as : List AV) (h : AH) (K : Int64 → AH → Prop), T as h K → (ini as).length ≤ mNL M ∧ AW M (.inr (.inr (.inl K))) 0 (initL (mNL M) as) [] h 0 0) : CR own (.invokestatic idx) (n, mFr M + 1, 8 + (mNL M + 11) + mLo M, mMc M, mMs M, .inr (.inr (.inl T))) := by
  intro G p l e R s m args below meth c cc H locs kc ks Qf pc ls as rest h hx hb hml hown hts hr1 hr2 hr3 hr4 hK hW hst hlen hcat hdg
  intro K hk kk
  obtain ⟨hn, hA⟩ := hT as h K hk
  have hM := met_l hy ho hst hn hA l G
  refine va_calll (va_runSN (As := as.map (cv G)) (rest := rest.map (cv G)) ⟨hx, hb, hml, hown, hts⟩ hM ⟨va_cnB n hts (goodG (fun w hw => ?_)) rfl rfl rfl (hK.2.2 _ hw1) (hts _ hw3) hd ⟨hr1, hr2⟩, hts _ hw2, trivial⟩ ⟨mPc_blind G as h, Wd_pre hK hW as⟩ rfl (by rw [List.length_map]; exact hlen) rfl rfl (by show 2 * 0 + _ ≤ 8; rw [cats_map]; simpa using hcat) hdg ⟨hr3, hr4⟩) hW.2.2.2 (fun q _ h => h) (fun q h => h) (fun x u t H1 locs1 ht hvm hw hB hz hk hS1 => kk x u H1 locs1 hw.1 ⟨hB.1, by rw [← ht]; exact hB.2.1, hB.2.2, hS1⟩ hw.2)
  simp only [List.mem_cons] at hw
  rcases hw with rfl | hw
  · exact hw4
  · exact hw
theorem crV_l {t : Nat} {own : String} {idx n : Nat} {y : MethodName} {M : MI} {T : List AV → AH → (Int64 → AH → Prop) → Prop} (hy : plainName y.cls = true) (ho : mOwn M = y.cls) (ht : t ∈ [0, 1, 12, 15]) (hyC : y.cls = rcl t) (hw1 : Cond.methodLink own idx y ∈ lw_g) (hw2 : Cond.instanceMethod y ∈ lw_g) (hw3 : Cond.initialized (rcl t) ∈ lw_g) (hw5 : Cond.selects (rcl t) y y ∈ lw_g) (hw4 : Cond.code y (mCC M) (mNL M) (some .long) ∈ lw_g) (hd : (y.cls ≠ "java/lang/invoke/MethodHandle" ∧ y.cls ≠ "java/lang/invoke/VarHandle" ∧ (parseMethodDescriptor y.desc).map (fun d => d.parameters.length) = some n)) (hTr : ∀ (as : List AV) (h : AH) (K : Int64 → AH → Prop), T as h K → ∃ (q : Nat) (r : List AV), as = aR t q :: r) (hT : ∀ (as : List AV) (h : AH) (K : Int64 → AH → Prop), T as h K → (ini as).length ≤ mNL M ∧ AW M (.inr (.inr (.inl K))) 0 (initL (mNL M) as) [] h 0 0) : CR own (.invokevirtual idx) (n + 1, mFr M + 1, 8 + (mNL M + 11) + mLo M, mMc M, mMs M, .inr (.inr (.inl T))) := by
  intro G p l e R s m args below meth c cc H locs kc ks Qf pc ls as rest h hx hb hml hown hts hr1 hr2 hr3 hr4 hK hW hst hlen hcat hdg
  intro K hk kk
  obtain ⟨hn, hA⟩ := hT as h K hk
  obtain ⟨q0, as', rfl⟩ := hTr as h K hk
  have hM := met_l hy ho hst hn hA l G
  have hl2 : as'.length = n := Nat.succ.inj hlen
  have hst0 : ((aR t q0 :: as').map (cv G)).reverse ++ rest.map (cv G) = (as'.map (cv G)).reverse ++ Value.ref (adr G t q0) :: rest.map (cv G) := by
    rw [List.map_cons, List.reverse_cons, List.append_assoc]
    rfl
  rw [hst0]
  refine va_calll (va_runV (As := as'.map (cv G)) (rest := rest.map (cv G)) (C := rcl t) ⟨hx, hb, hml, hown, hts⟩ hM (cwV n hts (goodG (fun w hw => ?_)) rfl rfl rfl ⟨hyC, hd⟩ ⟨hr1, hr2⟩) ⟨mPc_blind G _ h, ob_recv hK hW (isob_4 ht) (okSt_h hst) (rcl_ok h q0 t ht), Wd_pre hK hW (aR t q0 :: as')⟩ rfl (by rw [List.length_map]; exact hl2) rfl rfl (by show 2 * 0 + _ ≤ 8; rw [cats_map]; simpa using hcat) hdg ⟨hr3, hr4⟩) hW.2.2.2 (fun q _ h => h) (fun q h => h) (fun x u t H1 locs1 ht hvm hw hB hz hk hS1 => kk x u H1 locs1 hw.1 ⟨hB.1, by rw [← ht]; exact hB.2.1, hB.2.2, hS1⟩ hw.2)
  simp only [wsV, List.mem_append, List.mem_cons, List.not_mem_nil, or_false] at hw
  rcases hw with (rfl | rfl | rfl | rfl) | rfl | hw
  · exact hw1
  · exact hw2
  · exact hw5
  · exact hw3
  · exact hw4
  · exact hw
theorem crS_q {own : String} {idx n : Nat} {y : MethodName} {M : MI} {T : List AV → AH → (Option Nat → AH → Prop) → Prop} (hy : plainName y.cls = true) (ho : mOwn M = y.cls) (hw1 : Cond.methodLink own idx y ∈ lw_g) (hw2 : Cond.static y ∈ lw_g) (hw3 : Cond.initialized y.cls ∈ lw_g) (hw4 : Cond.code y (mCC M) (mNL M) (some (.object RX4)) ∈ lw_g) (hd : (y.cls ≠ "java/lang/invoke/MethodHandle" ∧ y.cls ≠ "java/lang/invoke/VarHandle" ∧ (parseMethodDescriptor y.desc).map (fun d => d.parameters.length) = some n)) (hT : ∀ (as : List AV) (h : AH) (K : Option Nat → AH → Prop), T as h K → (ini as).length ≤ mNL M ∧ AW M (.inr (.inr (.inr K))) 0 (initL (mNL M) as) [] h 0 0) : CR own (.invokestatic idx) (n, mFr M + 1, 8 + (mNL M + 11) + mLo M, mMc M, mMs M, .inr (.inr (.inr T))) := by
  intro G p l e R s m args below meth c cc H locs kc ks Qf pc ls as rest h hx hb hml hown hts hr1 hr2 hr3 hr4 hK hW hst hlen hcat hdg
  intro K hk kk
  obtain ⟨hn, hA⟩ := hT as h K hk
  have hM := met_q hy ho hst hn hA l G
  refine va_callq (va_runS (As := as.map (cv G)) (rest := rest.map (cv G)) ⟨hx, hb, hml, hown, hts⟩ hM (va_cwS n hts (goodG (fun w hw => ?_)) rfl rfl rfl hd ⟨hr1, hr2⟩) ⟨mPc_blind G as h, Wd_pre hK hW as⟩ rfl (by rw [List.length_map]; exact hlen) rfl rfl (by show 2 * 0 + _ ≤ 8; rw [cats_map]; simpa using hcat) hdg ⟨hr3, hr4⟩) hW.2.2.2 (fun q _ h => h) (fun q h => h) (fun x u t H1 locs1 ht hvm hw hB hz hk hS1 => kk x u H1 locs1 hw.1.1 hw.1.2 ⟨hB.1, by rw [← ht]; exact hB.2.1, hB.2.2, hS1⟩ hw.2)
  simp only [va_wsS, List.mem_append, List.mem_cons, List.not_mem_nil, or_false] at hw
  rcases hw with (rfl | rfl | rfl) | rfl | hw
  · exact hw1
  · exact hw2
  · exact hw3
  · exact hw4
  · exact hw
theorem crN_q {host : String} {own : String} {idx n : Nat} {y : MethodName} {M : MI} {T : List AV → AH → (Option Nat → AH → Prop) → Prop} (hy : plainName y.cls = true) (ho : mOwn M = y.cls) (hw1 : Cond.methodLinkNest own idx y host ∈ nestW) (hw2 : Cond.static y ∈ lw_g) (hw3 : Cond.initialized y.cls ∈ lw_g) (hw4 : Cond.code y (mCC M) (mNL M) (some (.object RX4)) ∈ lw_g) (hd : (y.cls ≠ "java/lang/invoke/MethodHandle" ∧ y.cls ≠ "java/lang/invoke/VarHandle" ∧ (parseMethodDescriptor y.desc).map (fun d => d.parameters.length) = some n)) (hT : ∀ (as : List AV) (h : AH) (K : Option Nat → AH → Prop), T as h K → (ini as).length ≤ mNL M ∧ AW M (.inr (.inr (.inr K))) 0 (initL (mNL M) as) [] h 0 0) : CR own (.invokestatic idx) (n, mFr M + 1, 8 + (mNL M + 11) + mLo M, mMc M, mMs M, .inr (.inr (.inr T))) := by
  intro G p l e R s m args below meth c cc H locs kc ks Qf pc ls as rest h hx hb hml hown hts hr1 hr2 hr3 hr4 hK hW hst hlen hcat hdg
  intro K hk kk
  obtain ⟨hn, hA⟩ := hT as h K hk
  have hM := met_q hy ho hst hn hA l G
  refine va_callq (va_runSN (As := as.map (cv G)) (rest := rest.map (cv G)) ⟨hx, hb, hml, hown, hts⟩ hM ⟨va_cnB n hts (goodG (fun w hw => ?_)) rfl rfl rfl (hK.2.2 _ hw1) (hts _ hw3) hd ⟨hr1, hr2⟩, hts _ hw2, trivial⟩ ⟨mPc_blind G as h, Wd_pre hK hW as⟩ rfl (by rw [List.length_map]; exact hlen) rfl rfl (by show 2 * 0 + _ ≤ 8; rw [cats_map]; simpa using hcat) hdg ⟨hr3, hr4⟩) hW.2.2.2 (fun q _ h => h) (fun q h => h) (fun x u t H1 locs1 ht hvm hw hB hz hk hS1 => kk x u H1 locs1 hw.1.1 hw.1.2 ⟨hB.1, by rw [← ht]; exact hB.2.1, hB.2.2, hS1⟩ hw.2)
  simp only [List.mem_cons] at hw
  rcases hw with rfl | hw
  · exact hw4
  · exact hw
theorem crV_q {t : Nat} {own : String} {idx n : Nat} {y : MethodName} {M : MI} {T : List AV → AH → (Option Nat → AH → Prop) → Prop} (hy : plainName y.cls = true) (ho : mOwn M = y.cls) (ht : t ∈ [0, 1, 12, 15]) (hyC : y.cls = rcl t) (hw1 : Cond.methodLink own idx y ∈ lw_g) (hw2 : Cond.instanceMethod y ∈ lw_g) (hw3 : Cond.initialized (rcl t) ∈ lw_g) (hw5 : Cond.selects (rcl t) y y ∈ lw_g) (hw4 : Cond.code y (mCC M) (mNL M) (some (.object RX4)) ∈ lw_g) (hd : (y.cls ≠ "java/lang/invoke/MethodHandle" ∧ y.cls ≠ "java/lang/invoke/VarHandle" ∧ (parseMethodDescriptor y.desc).map (fun d => d.parameters.length) = some n)) (hTr : ∀ (as : List AV) (h : AH) (K : Option Nat → AH → Prop), T as h K → ∃ (q : Nat) (r : List AV), as = aR t q :: r) (hT : ∀ (as : List AV) (h : AH) (K : Option Nat → AH → Prop), T as h K → (ini as).length ≤ mNL M ∧ AW M (.inr (.inr (.inr K))) 0 (initL (mNL M) as) [] h 0 0) : CR own (.invokevirtual idx) (n + 1, mFr M + 1, 8 + (mNL M + 11) + mLo M, mMc M, mMs M, .inr (.inr (.inr T))) := by
  intro G p l e R s m args below meth c cc H locs kc ks Qf pc ls as rest h hx hb hml hown hts hr1 hr2 hr3 hr4 hK hW hst hlen hcat hdg
  intro K hk kk
  obtain ⟨hn, hA⟩ := hT as h K hk
  obtain ⟨q0, as', rfl⟩ := hTr as h K hk
  have hM := met_q hy ho hst hn hA l G
  have hl2 : as'.length = n := Nat.succ.inj hlen
  have hst0 : ((aR t q0 :: as').map (cv G)).reverse ++ rest.map (cv G) = (as'.map (cv G)).reverse ++ Value.ref (adr G t q0) :: rest.map (cv G) := by
    rw [List.map_cons, List.reverse_cons, List.append_assoc]
    rfl
  rw [hst0]
  refine va_callq (va_runV (As := as'.map (cv G)) (rest := rest.map (cv G)) (C := rcl t) ⟨hx, hb, hml, hown, hts⟩ hM (cwV n hts (goodG (fun w hw => ?_)) rfl rfl rfl ⟨hyC, hd⟩ ⟨hr1, hr2⟩) ⟨mPc_blind G _ h, ob_recv hK hW (isob_4 ht) (okSt_h hst) (rcl_ok h q0 t ht), Wd_pre hK hW (aR t q0 :: as')⟩ rfl (by rw [List.length_map]; exact hl2) rfl rfl (by show 2 * 0 + _ ≤ 8; rw [cats_map]; simpa using hcat) hdg ⟨hr3, hr4⟩) hW.2.2.2 (fun q _ h => h) (fun q h => h) (fun x u t H1 locs1 ht hvm hw hB hz hk hS1 => kk x u H1 locs1 hw.1.1 hw.1.2 ⟨hB.1, by rw [← ht]; exact hB.2.1, hB.2.2, hS1⟩ hw.2)
  simp only [wsV, List.mem_append, List.mem_cons, List.not_mem_nil, or_false] at hw
  rcases hw with (rfl | rfl | rfl | rfl) | rfl | hw
  · exact hw1
  · exact hw2
  · exact hw5
  · exact hw3
  · exact hw4
  · exact hw
def T_max : List AV → AH → (Int32 → AH → Prop) → Prop := fun as h K => match as with
  | [.inl x, .inl y] => K (if x < y then y else x) h
  | _ => False
theorem cr_max {own : String} {idx : Nat} (hw1 : Cond.methodLink own idx Lib.Math.max.name ∈ lw_g) : CR own (.invokestatic idx) (2, 1, 21, 0, 0, .inl T_max) := by
  intro G p l e R s m args below meth c cc H locs kc ks Qf pc ls as rest h hx hb hml hown hts hr1 hr2 hr3 hr4 hK hW hst hlen hcat hdg
  intro K hk kk
  match as, hk with
  | [.inl x, .inl y], hk =>
    exact va_mmax hx hb hml hown (hts _ hw1) (hts _ (by decide +kernel)) (hts _ (by decide +kernel)) (hts _ (by decide +kernel)) hr1 (by show (List.map (fun v => v.category) (List.map (cv G) rest)).sum + 13 ≤ R.locals; rw [cats_map]; have : 21 ≤ R.locals := hr2; omega) hr3 hr4 hdg (kk _ _ H locs hk hW (fun _ q => q))
def T_min : List AV → AH → (Int32 → AH → Prop) → Prop := fun as h K => match as with
  | [.inl x, .inl y] => K (if y < x then y else x) h
  | _ => False
theorem cr_min {own : String} {idx : Nat} (hw1 : Cond.methodLink own idx Lib.Math.min.name ∈ lw_g) : CR own (.invokestatic idx) (2, 1, 21, 0, 0, .inl T_min) := by
  intro G p l e R s m args below meth c cc H locs kc ks Qf pc ls as rest h hx hb hml hown hts hr1 hr2 hr3 hr4 hK hW hst hlen hcat hdg
  intro K hk kk
  match as, hk with
  | [.inl x, .inl y], hk =>
    exact va_mmin hx hb hml hown (hts _ hw1) (hts _ (by decide +kernel)) (hts _ (by decide +kernel)) (hts _ (by decide +kernel)) hr1 (by show (List.map (fun v => v.category) (List.map (cv G) rest)).sum + 13 ≤ R.locals; rw [cats_map]; have : 21 ≤ R.locals := hr2; omega) hr3 hr4 hdg (kk _ _ H locs hk hW (fun _ q => q))
/-- System.arraycopy over int arrays of the world -/
def T_acopy : List AV → AH → (AH → Prop) → Prop := fun as h K => match as with
  | [.inr (.inr (.inl q)), .inl sp, .inr (.inr (.inl w)), .inl dp, .inl n] => akin q.1 = 0 ∧ akin w.1 = 0 ∧ ¬ sp < 0 ∧ ¬ dp < 0 ∧ ¬ n < 0 ∧ sp.toNatClampNeg + n.toNatClampNeg ≤ alen q.1 ∧ dp.toNatClampNeg + n.toNatClampNeg ≤ alen w.1 ∧ K (uC h.1 q.1 q.2 sp.toNatClampNeg w.1 w.2 dp.toNatClampNeg n.toNatClampNeg, h.2)
  | _ => False
theorem cpy_uC (f : Nat → Nat → Nat → Int32) (t p sp t2 p2 dp n : Nat) : uC f t p sp t2 p2 dp n t2 p2 = va_cpy (f t p) (f t2 p2) sp dp n := by
  funext j
  unfold uC va_cpy
  by_cases h : dp ≤ j ∧ j < dp + n <;> simp [h]
theorem cr_acopy {own : String} {idx : Nat} (hw1 : Cond.methodLink own idx arraycopyName ∈ lw_g) : CR own (.invokestatic idx) (5, 1, 8 + (nativeFrameWords "java/lang/System" "arraycopy" 5 + 11), 0, 0, .inr (.inl T_acopy)) := by
  intro G p l e R s m args below meth c cc H locs kc ks Qf pc ls as rest h hx hb hml hown hts hr1 hr2 hr3 hr4 hK hW hst hlen hcat hdg
  intro K hk kk
  match as, hk, hst with
  | [.inr (.inr (.inl q)), .inl sp, .inr (.inr (.inl w)), .inl dp, .inl n], hk, hst =>
    obtain ⟨k1, k2, h1, h2, h3, h4, h5, hk⟩ := hk
    have hm1 : q ∈ fixed := okSt_h hst
    have hm2 : w ∈ fixed := okSt_h (okSt_t (okSt_t hst))
    obtain ⟨j1, hj1, hw1'⟩ := wl_get (G := G) (idx_fx (h := h) hm1)
    obtain ⟨j2, hj2, hw2⟩ := wl_get (G := G) (idx_fx (h := h) hm2)
    rw [cell_a0 k1] at hw1'
    rw [cell_a0 k2] at hw2
    obtain ⟨t1, ht1⟩ := ty_get (G := G) (t := q.1) (p := q.2) (ty := .int) hm1 (by unfold aty; rw [k1]; rfl)
    obtain ⟨t2, ht2⟩ := ty_get (G := G) (t := w.1) (p := w.2) (ty := .int) hm2 (by unfold aty; rw [k2]; rfl)
    have h18 : w.1 ≠ 18 := kin18 w.1 (fixed_mem.mp hm2).1 (by omega)
    refine va_copyi (D := (G.1, G.2.1)) (cl := classes) (rest := rest.map (cv G)) hx hb hml hown (hts _ hw1) (hts _ (by decide +kernel)) (hts _ (by decide +kernel)) (hts _ (by decide +kernel)) hK.1 hW.2.1 hW.2.2.1 hW.2.2.2 j1 j2 t1 t2 hw1' hw2 ht1 ht2 rfl h1 h2 h3 h4 h5 (fun i _ => rfl) hr1 (by rw [cats_map]; have : 8 + (nativeFrameWords "java/lang/System" "arraycopy" 5 + 11) ≤ R.locals := hr2; omega) hdg (fun H1 locs1 hP1 hD1 hS1 => kk _ H1 locs1 hk ?_ (fun _ q => q))
    have e1 : (wl G h).set j2 (adr G w.1 w.2, .inl (gac G w.1 w.2, alen w.1, .inl (va_cpy (h.1 q.1 q.2) (h.1 w.1 w.2) sp.toNatClampNeg dp.toNatClampNeg n.toNatClampNeg))) = wl G (uC h.1 q.1 q.2 sp.toNatClampNeg w.1 w.2 dp.toNatClampNeg n.toNatClampNeg, h.2) := by
      have e2 := wl_set (G := G) (h := h) (h' := (uC h.1 q.1 q.2 sp.toNatClampNeg w.1 w.2 dp.toNatClampNeg n.toNatClampNeg, h.2)) (q := w) rfl hj2 hW.2.2.1 (fun q' hq' => by unfold fW; rw [cell_uC h18 hq'])
      rw [← e2]
      unfold fW
      rw [cell_a0 k2]
      congr 3
      show _ = (_, _, Sum.inl (uC h.1 q.1 q.2 sp.toNatClampNeg w.1 w.2 dp.toNatClampNeg n.toNatClampNeg w.1 w.2))
      rw [cpy_uC]
    rw [e1] at hP1 hD1
    exact ⟨hW.1, hP1, hD1, hS1⟩

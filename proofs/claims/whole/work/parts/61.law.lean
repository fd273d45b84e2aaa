/-! ===== the law's calls: the world moves, the script and the law's own array stay ===== -/
def gLw (s : State) : Nat → Prop := fun q => s.heap.size ≤ q
def LK (G : GL) (s : State) : Prop := va_K (G.1, G.2.1) classes (tysG G) s ∧ ∀ w ∈ nestW, va_Nw w s
def LW (G : GL) (h : AH) (f : Nat → Int64) (s : State) (H : Heap) (locs : List Loc) : Prop := okh h ∧ va_P (G.1, G.2.1) classes (wl G h) H ∧ va_D (gA0 G) (wl G h) ∧ OU G f H ∧ gok G H.size ∧ va_S (gLw s) s.heap H locs
theorem nest_warm {s U : State} (hW : s.WarmedH U.vm) (h : ∀ w ∈ nestW, va_Nw w s) : ∀ w ∈ nestW, va_Nw w U := by
  intro w hw
  have h := h w hw
  simp only [nestW, List.mem_cons, List.not_mem_nil, or_false] at hw
  rcases hw with rfl | rfl | rfl | rfl | rfl | rfl | rfl | rfl | rfl | rfl | rfl | rfl <;> first | exact va_Nw.warmM hW h | exact va_Nw.warmC hW h
theorem LW_pre {G : GL} {h : AH} {f : Nat → Int64} {s : State} {H : Heap} {locs : List Loc} (hK : LK G s) (hW : LW G h f s H locs) (as : List AV) : ∀ U : State, U.heap = H → s.WarmedH U.vm → mPc G as h (as.map (cv G)).toArray U := fun U hU hWm => ⟨rfl, ⟨va_K.moved hWm.alike hK.1, by rw [hU]; exact hW.2.2.2.2.1, nest_warm hWm hK.2⟩, hW.1, by rw [hU]; exact hW.2.1, hW.2.2.1⟩
theorem LW_next {G : GL} {h h' : AH} {f : Nat → Int64} {s t : State} {H H1 : Heap} {locs locs1 : List Loc} (hW : LW G h f s H locs) (hB : Wd0 G h' t) (ht : t.heap = H1) (hz : H.size ≤ H1.size) (hk : ∀ q : Nat, q < H.size → ¬ gA0 G q → H1[q]? = H[q]?) (hS1 : va_S (gLw s) s.heap H1 locs1) : LW G h' f s H1 locs1 := ⟨hB.1, by rw [← ht]; exact hB.2.1, hB.2.2, OU_kept hW.2.2.2.1 hW.2.2.2.2.1.2 hk, gok_mono hW.2.2.2.2.1 hz, hS1⟩
theorem law_recv {G : GL} {h : AH} {f : Nat → Int64} {s : State} {H : Heap} {locs : List Loc} {t p : Nat} (hK : LK G s) (hW : LW G h f s H locs) (hob : isob t = true) (hm : (t, p) ∈ fixed) {C : String} (hC : classes[ocl h t p]? = some (C, TC t, (fl t).length)) : ∃ cell : Cell, H[adr G t p]? = some cell ∧ cell.vm.isStatics = false ∧ s.vm.findClass C = some cell.cls := by
  obtain ⟨j, hj, hw⟩ := wl_get (G := G) (idx_fx (h := h) hm)
  rw [cell_ob G h p hob] at hw
  exact va_recv hK.1 hW.2.1 hC hw
/-- a call of the law that answers an int -/
theorem lawV_i {t : Nat} {idx n : Nat} {y : MethodName} {M : MI} {T : List AV → AH → (Int32 → AH → Prop) → Prop} (hy : plainName y.cls = true) (ho : mOwn M = y.cls) (ht : t ∈ [0, 1, 12, 15]) (hyC : y.cls = rcl t) (hw1 : Cond.methodLink RL idx y ∈ lw_g) (hw2 : Cond.instanceMethod y ∈ lw_g) (hw3 : Cond.initialized (rcl t) ∈ lw_g) (hw5 : Cond.selects (rcl t) y y ∈ lw_g) (hw4 : Cond.code y (mCC M) (mNL M) (some .int) ∈ lw_g) (hd : (y.cls ≠ "java/lang/invoke/MethodHandle" ∧ y.cls ≠ "java/lang/invoke/VarHandle" ∧ (parseMethodDescriptor y.desc).map (fun d => d.parameters.length) = some n)) (hTr : ∀ (as : List AV) (h : AH) (K : Int32 → AH → Prop), T as h K → ∃ (q : Nat) (r : List AV), as = aR t q :: r) (hT : ∀ (as : List AV) (h : AH) (K : Int32 → AH → Prop), T as h K → (ini as).length ≤ mNL M ∧ AW M (.inl K) 0 (initL (mNL M) as) [] h 0 0)
    (G : GL) (p : Program) (l : Launch) (e : Env) (R : Room) (s : State) (m : MethodId) (args : Array Value) (below : List Frame) (meth : Method) (c : Code) (H : Heap) (locs : List Loc) (kc ks : Nat) (Qf : State → Prop) (pc : Nat) (ls : Array Slot) (as rest : List AV) (h : AH) (f : Nat → Int64)
    (hx : p.tables.exec = Jvm.exec) (hb : c.code = cL_law) (hml : c.maxLocals = ls.size) (hown : s.vm.findClass RL = some m.cls) (hts : ∀ w ∈ lw_g, w.before args s = true) (hr1 : mFr M + 1 ≤ R.frames) (hr2 : 8 + (mNL M + 11) + mLo M ≤ R.locals) (hr3 : kc + mMc M ≤ R.cells) (hr4 : ks + mMs M ≤ R.slots) (hg : gB G = s.heap.size) (hK : LK G s) (hW : LW G h f s H locs) (hst : okSt h as) (hlen : as.length = n + 1) (hcat : cats rest ≤ 8) (hdg : decode cL_law pc = .ok (.invokevirtual idx, 3))
    (K : Int32 → AH → Prop) (hk : T as h K) (kk : ∀ (x : Int32) (h' : AH) (H' : Heap) (locs' : List Loc), K x h' → LW G h' f s H' locs' → W p l e R s m args below meth c H' locs' (kc + mMc M) (ks + mMs M) Qf (F0 m (pc + 3) ls (.int x :: rest.map (cv G)))) : W p l e R s m args below meth c H locs kc ks Qf (F0 m pc ls ((as.map (cv G)).reverse ++ rest.map (cv G))) := by
  obtain ⟨hn, hA⟩ := hT as h K hk
  obtain ⟨q0, as', rfl⟩ := hTr as h K hk
  have hM := met_i hy ho hst hn hA l G
  have hl2 : as'.length = n := Nat.succ.inj hlen
  have hst0 : ((aR t q0 :: as').map (cv G)).reverse ++ rest.map (cv G) = (as'.map (cv G)).reverse ++ Value.ref (adr G t q0) :: rest.map (cv G) := by
    rw [List.map_cons, List.reverse_cons, List.append_assoc]
    rfl
  rw [hst0]
  refine va_calli (va_runV (As := as'.map (cv G)) (rest := rest.map (cv G)) (C := rcl t) ⟨hx, hb, hml, hown, hts⟩ hM (cwV n hts (goodG (fun w hw => ?_)) rfl rfl rfl ⟨hyC, hd⟩ ⟨hr1, hr2⟩) ⟨mPc_blind G _ h, law_recv hK hW (isob_4 ht) (okSt_h hst) (rcl_ok h q0 t ht), LW_pre hK hW (aR t q0 :: as')⟩ rfl (by rw [List.length_map]; exact hl2) rfl rfl (by show 2 * 0 + _ ≤ 8; rw [cats_map]; simpa using hcat) hdg ⟨hr3, hr4⟩) hW.2.2.2.2.2 (fun q _ z => (show s.heap.size ≤ q by rw [← hg]; exact z.1)) (fun q z => (show s.heap.size ≤ q by rw [← hg]; exact z.1)) (fun x u t H1 locs1 ht hvm hw hB hz hk hS1 => kk x u H1 locs1 hw.1 (LW_next hW hB ht hz hk hS1))
  simp only [wsV, List.mem_append, List.mem_cons, List.not_mem_nil, or_false] at hw
  rcases hw with (rfl | rfl | rfl | rfl) | rfl | hw
  · exact hw1
  · exact hw2
  · exact hw5
  · exact hw3
  · exact hw4
  · exact hw

/-! ===== the law's arguments, and a case of it ===== -/
theorem lawV_l {t : Nat} {idx n : Nat} {y : MethodName} {M : MI} {T : List AV → AH → (Int64 → AH → Prop) → Prop} (hy : plainName y.cls = true) (ho : mOwn M = y.cls) (ht : t ∈ [0, 1, 12, 15]) (hyC : y.cls = rcl t) (hw1 : Cond.methodLink RL idx y ∈ lw_g) (hw2 : Cond.instanceMethod y ∈ lw_g) (hw3 : Cond.initialized (rcl t) ∈ lw_g) (hw5 : Cond.selects (rcl t) y y ∈ lw_g) (hw4 : Cond.code y (mCC M) (mNL M) (some .long) ∈ lw_g) (hd : (y.cls ≠ "java/lang/invoke/MethodHandle" ∧ y.cls ≠ "java/lang/invoke/VarHandle" ∧ (parseMethodDescriptor y.desc).map (fun d => d.parameters.length) = some n)) (hTr : ∀ (as : List AV) (h : AH) (K : Int64 → AH → Prop), T as h K → ∃ (q : Nat) (r : List AV), as = aR t q :: r) (hT : ∀ (as : List AV) (h : AH) (K : Int64 → AH → Prop), T as h K → (ini as).length ≤ mNL M ∧ AW M (.inr (.inr (.inl K))) 0 (initL (mNL M) as) [] h 0 0)
    (G : GL) (p : Program) (l : Launch) (e : Env) (R : Room) (s : State) (m : MethodId) (args : Array Value) (below : List Frame) (meth : Method) (c : Code) (H : Heap) (locs : List Loc) (kc ks : Nat) (Qf : State → Prop) (pc : Nat) (ls : Array Slot) (as rest : List AV) (h : AH) (f : Nat → Int64)
    (hx : p.tables.exec = Jvm.exec) (hb : c.code = cL_law) (hml : c.maxLocals = ls.size) (hown : s.vm.findClass RL = some m.cls) (hts : ∀ w ∈ lw_g, w.before args s = true) (hr1 : mFr M + 1 ≤ R.frames) (hr2 : 8 + (mNL M + 11) + mLo M ≤ R.locals) (hr3 : kc + mMc M ≤ R.cells) (hr4 : ks + mMs M ≤ R.slots) (hg : gB G = s.heap.size) (hK : LK G s) (hW : LW G h f s H locs) (hst : okSt h as) (hlen : as.length = n + 1) (hcat : cats rest ≤ 8) (hdg : decode cL_law pc = .ok (.invokevirtual idx, 3))
    (K : Int64 → AH → Prop) (hk : T as h K) (kk : ∀ (x : Int64) (h' : AH) (H' : Heap) (locs' : List Loc), K x h' → LW G h' f s H' locs' → W p l e R s m args below meth c H' locs' (kc + mMc M) (ks + mMs M) Qf (F0 m (pc + 3) ls (.long x :: rest.map (cv G)))) : W p l e R s m args below meth c H locs kc ks Qf (F0 m pc ls ((as.map (cv G)).reverse ++ rest.map (cv G))) := by
  obtain ⟨hn, hA⟩ := hT as h K hk
  obtain ⟨q0, as', rfl⟩ := hTr as h K hk
  have hM := met_l hy ho hst hn hA l G
  have hl2 : as'.length = n := Nat.succ.inj hlen
  have hst0 : ((aR t q0 :: as').map (cv G)).reverse ++ rest.map (cv G) = (as'.map (cv G)).reverse ++ Value.ref (adr G t q0) :: rest.map (cv G) := by
    rw [List.map_cons, List.reverse_cons, List.append_assoc]
    rfl
  rw [hst0]
  refine va_calll (va_runV (As := as'.map (cv G)) (rest := rest.map (cv G)) (C := rcl t) ⟨hx, hb, hml, hown, hts⟩ hM (cwV n hts (goodG (fun w hw => ?_)) rfl rfl rfl ⟨hyC, hd⟩ ⟨hr1, hr2⟩) ⟨mPc_blind G _ h, law_recv hK hW (isob_4 ht) (okSt_h hst) (rcl_ok h q0 t ht), LW_pre hK hW (aR t q0 :: as')⟩ rfl (by rw [List.length_map]; exact hl2) rfl rfl (by show 2 * 0 + _ ≤ 8; rw [cats_map]; simpa using hcat) hdg ⟨hr3, hr4⟩) hW.2.2.2.2.2 (fun q _ z => (show s.heap.size ≤ q by rw [← hg]; exact z.1)) (fun q z => (show s.heap.size ≤ q by rw [← hg]; exact z.1)) (fun x u t H1 locs1 ht hvm hw hB hz hk hS1 => kk x u H1 locs1 hw.1 (LW_next hW hB ht hz hk hS1))
  simp only [wsV, List.mem_append, List.mem_cons, List.not_mem_nil, or_false] at hw
  rcases hw with (rfl | rfl | rfl | rfl) | rfl | hw
  · exact hw1
  · exact hw2
  · exact hw5
  · exact hw3
  · exact hw4
  · exact hw
def LRi (l : Launch) (M : MI) (idx n : Nat) (T : List AV → AH → (Int32 → AH → Prop) → Prop) : Prop := ∀ (G : GL) (p : Program) (e : Env) (R : Room) (s : State) (m : MethodId) (args : Array Value) (below : List Frame) (meth : Method) (c : Code) (H : Heap) (locs : List Loc) (kc ks : Nat) (Qf : State → Prop) (pc : Nat) (ls : Array Slot) (as rest : List AV) (h : AH) (f : Nat → Int64) (hx : p.tables.exec = Jvm.exec) (hb : c.code = cL_law) (hml : c.maxLocals = ls.size) (hown : s.vm.findClass RL = some m.cls) (hts : ∀ w ∈ lw_g, w.before args s = true) (hr1 : mFr M + 1 ≤ R.frames) (hr2 : 8 + (mNL M + 11) + mLo M ≤ R.locals) (hr3 : kc + mMc M ≤ R.cells) (hr4 : ks + mMs M ≤ R.slots) (hg : gB G = s.heap.size) (hK : LK G s) (hW : LW G h f s H locs) (hst : okSt h as) (hlen : as.length = n + 1) (hcat : cats rest ≤ 8) (hdg : decode cL_law pc = .ok (.invokevirtual idx, 3)) (K : Int32 → AH → Prop) (hk : T as h K) (kk : ∀ (x : Int32) (h' : AH) (H' : Heap) (locs' : List Loc), K x h' → LW G h' f s H' locs' → W p l e R s m args below meth c H' locs' (kc + mMc M) (ks + mMs M) Qf (F0 m (pc + 3) ls (.int x :: rest.map (cv G)))), W p l e R s m args below meth c H locs kc ks Qf (F0 m pc ls ((as.map (cv G)).reverse ++ rest.map (cv G)))
def LRl (l : Launch) (M : MI) (idx n : Nat) (T : List AV → AH → (Int64 → AH → Prop) → Prop) : Prop := ∀ (G : GL) (p : Program) (e : Env) (R : Room) (s : State) (m : MethodId) (args : Array Value) (below : List Frame) (meth : Method) (c : Code) (H : Heap) (locs : List Loc) (kc ks : Nat) (Qf : State → Prop) (pc : Nat) (ls : Array Slot) (as rest : List AV) (h : AH) (f : Nat → Int64) (hx : p.tables.exec = Jvm.exec) (hb : c.code = cL_law) (hml : c.maxLocals = ls.size) (hown : s.vm.findClass RL = some m.cls) (hts : ∀ w ∈ lw_g, w.before args s = true) (hr1 : mFr M + 1 ≤ R.frames) (hr2 : 8 + (mNL M + 11) + mLo M ≤ R.locals) (hr3 : kc + mMc M ≤ R.cells) (hr4 : ks + mMs M ≤ R.slots) (hg : gB G = s.heap.size) (hK : LK G s) (hW : LW G h f s H locs) (hst : okSt h as) (hlen : as.length = n + 1) (hcat : cats rest ≤ 8) (hdg : decode cL_law pc = .ok (.invokevirtual idx, 3)) (K : Int64 → AH → Prop) (hk : T as h K) (kk : ∀ (x : Int64) (h' : AH) (H' : Heap) (locs' : List Loc), K x h' → LW G h' f s H' locs' → W p l e R s m args below meth c H' locs' (kc + mMc M) (ks + mMs M) Qf (F0 m (pc + 3) ls (.long x :: rest.map (cv G)))), W p l e R s m args below meth c H locs kc ks Qf (F0 m pc ls ((as.map (cv G)).reverse ++ rest.map (cv G)))
abbrev LA (pc j : Nat) : Prop := decode cL_law pc = .ok (.aload_n 0, 1) ∧ decode cL_law (pc + 1) = .ok (.iload 4, 2) ∧ decode cL_law (pc + 3) = .ok (.iconst (j : Int), 1) ∧ decode cL_law (pc + 4) = .ok (.iadd, 1) ∧ decode cL_law (pc + 5) = .ok (.iaload, 1)
def LAs (n pc : Nat) : Bool := (List.range n).all (fun j => decide (LA (pc + 6 * j) (j + 1)))
theorem LAs_ok {n pc : Nat} (h : LAs n pc = true) : ∀ j, j < n → LA (pc + 6 * j) (j + 1) := fun j hj => of_decide_eq_true (List.all_eq_true.mp h j (List.mem_range.mpr hj))
/-- what stays all the law long -/
def LSg (G : GL) (p : Program) (s : State) (m : MethodId) (c : Code) (b L : Nat) (xs : Nat → Int32) : Prop := p.tables.exec = Jvm.exec ∧ c.code = cL_law ∧ c.maxLocals = 8 ∧ s.vm.findClass RL = some m.cls ∧ (∀ w ∈ lw_g, w.before #[Value.ref b] s = true) ∧ va_X b L xs s s.heap ∧ b < s.heap.size ∧ gB G = s.heap.size ∧ LK G s ∧ L ≤ 3072 ∧ XG G s s.heap ∧ va_K (G.1, G.2.1) classes [(gac G 23 0, .long)] s ∧ s.heap.size ≤ adr G 23 0
abbrev LV (G : GL) (b i : Nat) : List (Nat × Value) := [(4, .int (nI i)), (0, .ref b), (1, .ref (adr G 0 0)), (2, .ref (adr G 15 0)), (3, .ref (adr G 23 0))]
/-- the law at a place, k calls done, its counter at i -/
def LN (G : GL) (p : Program) (l : Launch) (e : Env) (s : State) (m : MethodId) (below : List Frame) (meth : Method) (c : Code) (b : Nat) (Qf : State → Prop) (k i pc : Nat) : Prop := ∀ (h : AH) (f : Nat → Int64) (H : Heap) (locs : List Loc) (ls : Array Slot), INV k h → LW G h f s H locs → lv_has ls 8 (LV G b i) → W p l e room_1 s m #[Value.ref b] below meth c H locs (100 + 101 * k) (3000 + 706 * k) Qf (F0 m pc ls [])
abbrev ags (t : Nat) (xs : Nat → Int32) (i n : Nat) : List AV := aR t 0 :: (List.range n).map (fun j => aI (xs (i + (j + 1))))
theorem ags_s (t : Nat) (xs : Nat → Int32) (i n : Nat) : ags t xs i (n + 1) = ags t xs i n ++ [aI (xs (i + (n + 1)))] := by
  unfold ags
  rw [List.range_succ, List.map_append]
  rfl
theorem ags_ok (h : AH) (t : Nat) (xs : Nat → Int32) (i n : Nat) (ht : (t, 0) ∈ fixed) : okSt h (ags t xs i n) := by
  intro v hv
  rcases List.mem_cons.mp hv with rfl | hv
  · exact ht
  · obtain ⟨j, _, rfl⟩ := List.mem_map.mp hv
    trivial
theorem ags_len (t : Nat) (xs : Nat → Int32) (i n : Nat) : (ags t xs i n).length = n + 1 := by simp [ags]
theorem ld_arg {G : GL} {p : Program} {l : Launch} {e : Env} {R : Room} {s : State} {m : MethodId} {args : Array Value} {below : List Frame} {meth : Method} {c : Code} {b L : Nat} {xs : Nat → Int32} {H : Heap} {locs : List Loc} {kc ks : Nat} {Qf : State → Prop} {ls : Array Slot} {i j pc : Nat} {st : List Value} {lv : List (Nat × Value)} (hs : LSg G p s m c b L xs) (hS : va_S (gLw s) s.heap H locs) (hl : lv_has ls 8 lv) (k0 k4 : Nat) (h0 : lv[k0]? = some (0, .ref b)) (h4 : lv[k4]? = some (4, .int (nI i))) (hi : i + j < L) (hd : LA pc j)
    (kk : W p l e R s m args below meth c H locs kc ks Qf (F0 m (pc + 6) ls (.int (xs (i + j)) :: st))) : W p l e R s m args below meth c H locs kc ks Qf (F0 m pc ls st) := by
  obtain ⟨hx, hb, hml, hown, hts, hX, hbl, hg, hK, hL, -⟩ := hs
  obtain ⟨d0, d1, d3, d4, d5⟩ := hd
  have hb9 : i + j < 2 ^ 31 := by omega
  refine lv_aload_n hx hb d0 rfl (lv_at hl k0 h0) ?_
  refine lv_iload hx hb d1 (lv_at hl k4 h4) ?_
  refine lv_iconst (v := nI j) hx hb d3 Int32.ofInt_eq_ofNat ?_
  refine lv_iadd hx hb d4 ?_
  rw [nI_add]
  refine va_sld hx hb hX hbl (A := gLw s) (Nat.not_le.mpr hbl) hS (inR_vp ⟨by rw [nI_toInt hb9]; omega, by rw [nI_toInt hb9]; omega⟩) d5 ?_
  rw [nI_clamp hb9]
  exact kk
theorem ld_args {G : GL} {p : Program} {l : Launch} {e : Env} {R : Room} {s : State} {m : MethodId} {args : Array Value} {below : List Frame} {meth : Method} {c : Code} {b L : Nat} {xs : Nat → Int32} {H : Heap} {locs : List Loc} {kc ks : Nat} {Qf : State → Prop} {ls : Array Slot} {i pc : Nat} {lv : List (Nat × Value)} (hs : LSg G p s m c b L xs) (hS : va_S (gLw s) s.heap H locs) (hl : lv_has ls 8 lv) (k0 k4 : Nat) (h0 : lv[k0]? = some (0, .ref b)) (h4 : lv[k4]? = some (4, .int (nI i))) (t : Nat) (st : List Value) : ∀ n : Nat, i + n < L → (∀ j, j < n → LA (pc + 6 * j) (j + 1)) →
    W p l e R s m args below meth c H locs kc ks Qf (F0 m (pc + 6 * n) ls (((ags t xs i n).map (cv G)).reverse ++ st)) → W p l e R s m args below meth c H locs kc ks Qf (F0 m pc ls (.ref (adr G t 0) :: st)) := by
  intro n
  induction n with
  | zero => intro _ _ kk; exact kk
  | succ n ih =>
    intro hn hd kk
    refine ih (by omega) (fun j hj => hd j (Nat.lt_succ_of_lt hj)) ?_
    refine ld_arg hs hS hl k0 k4 h0 h4 (j := n + 1) hn (hd n (Nat.lt_succ_self n)) ?_
    rw [ags_s, List.map_append, List.reverse_append] at kk
    exact kk
theorem LN_up {G : GL} {p : Program} {l : Launch} {e : Env} {s : State} {m : MethodId} {below : List Frame} {meth : Method} {c : Code} {b : Nat} {Qf : State → Prop} {k i pc : Nat} (nx : LN G p l e s m below meth c b Qf (k + 1) i pc) : LN G p l e s m below meth c b Qf k i pc := by
  intro h f H locs ls hI hW hl
  obtain ⟨V, I, S, b9, cP, rP, wP⟩ := hI
  exact W.widen (k := 100 + 101 * (k + 1)) (n := 3000 + 706 * (k + 1)) (by omega) (by omega) (nx h f H locs ls ⟨V, I, S, b9, cP, rP, BP_up wP (Nat.le_succ k)⟩ hW hl)
theorem case_i {G : GL} {p : Program} {l : Launch} {e : Env} {s : State} {m : MethodId} {below : List Frame} {meth : Method} {c : Code} {b L : Nat} {xs : Nat → Int32} {Qf : State → Prop} {k pc : Nat} (hs : LSg G p s m c b L xs) (n ix im : Nat) (off : Int) (MX MM : MI) {TX TM : List AV → AH → (Int32 → AH → Prop) → Prop} (RX : LRi l MX ix n TX) (RM : LRi l MM im n TM) (rX : mFr MX + 1 ≤ 11 ∧ 8 + (mNL MX + 11) + mLo MX ≤ 422 ∧ mMc MX ≤ 100 ∧ mMs MX ≤ 700) (rM : mFr MM + 1 ≤ 11 ∧ 8 + (mNL MM + 11) + mLo MM ≤ 422 ∧ mMc MM ≤ 1 ∧ mMs MM ≤ 6)
    (hdec : decode cL_law pc = .ok (.aload_n 1, 1) ∧ LAs n (pc + 1) = true ∧ decode cL_law (pc + 1 + 6 * n) = .ok (.invokevirtual ix, 3) ∧ decode cL_law (pc + 1 + 6 * n + 3) = .ok (.aload_n 2, 1) ∧ LAs n (pc + 1 + 6 * n + 3 + 1) = true ∧ decode cL_law (pc + 1 + 6 * n + 3 + 1 + 6 * n) = .ok (.invokevirtual im, 3) ∧ decode cL_law (pc + 1 + 6 * n + 3 + 1 + 6 * n + 3) = .ok (.if_icmp .eq off, 3) ∧ ((pc + 1 + 6 * n + 3 + 1 + 6 * n + 3 : Nat) : Int) + off = ((1725 : Nat) : Int))
    (hk : k < 512) (hi : 6 * k + 5 < L) (hn : n ≤ 5) (nx : LN G p l e s m below meth c b Qf (k + 1) (6 * k) 1725)
    (hT : ∀ h, INV k h → TX (ags 0 xs (6 * k) n) h (fun x h1 => TM (ags 15 xs (6 * k) n) h1 (fun y h2 => x = y ∧ INV (k + 1) h2))) : LN G p l e s m below meth c b Qf k (6 * k) pc := by
  intro h f H locs ls hI hW hl
  obtain ⟨d0, dA, d1, d2, dB, d3, d4, d5⟩ := hdec
  have hs9 := hs
  obtain ⟨hx, hb, hml, hown, hts, hX, hbl, hg, hK, hL, -⟩ := hs9
  have q1 : (60000 : Nat) ≤ room_1.cells := Nat.le_of_ble_eq_true rfl
  have q2 : (400000 : Nat) ≤ room_1.slots := Nat.le_of_ble_eq_true rfl
  obtain ⟨x1, x2, x3, x4⟩ := rX
  obtain ⟨m1, m2, m3, m4⟩ := rM
  refine lv_aload_n hx hb d0 rfl (lv_at hl 2 rfl) ?_
  refine ld_args hs hW.2.2.2.2.2 hl 1 0 rfl rfl 0 [] n (by omega) (LAs_ok dA) ?_
  refine RX G p e room_1 s m #[Value.ref b] below meth c H locs _ _ Qf (pc + 1 + 6 * n) ls (ags 0 xs (6 * k) n) [] h f hx hb (by rw [hml]; exact hl.1.symm) hown hts x1 x2 (by omega) (by omega) hg hK hW (ags_ok h 0 xs (6 * k) n (by decide)) (ags_len 0 xs (6 * k) n) (Nat.le_of_ble_eq_true rfl) d1 _ (hT h hI) ?_
  intro x h1 H1 locs1 hx1 hW1
  refine lv_aload_n hx hb d2 rfl (lv_at hl 3 rfl) ?_
  refine ld_args hs hW1.2.2.2.2.2 hl 1 0 rfl rfl 15 ([aI x].map (cv G)) n (by omega) (LAs_ok dB) ?_
  refine RM G p e room_1 s m #[Value.ref b] below meth c H1 locs1 _ _ Qf (pc + 1 + 6 * n + 3 + 1 + 6 * n) ls (ags 15 xs (6 * k) n) [aI x] h1 f hx hb (by rw [hml]; exact hl.1.symm) hown hts m1 m2 (by omega) (by omega) hg hK hW1 (ags_ok h1 15 xs (6 * k) n (by decide)) (ags_len 15 xs (6 * k) n) (Nat.le_of_ble_eq_true rfl) d3 _ hx1 ?_
  intro y h2 H2 locs2 hxy hW2
  refine lv_icmp_eq (tgt := 1725) hx hb d4 d5 (fun _ => ?_) (fun z => absurd hxy.1 z)
  refine W.widen (k := 100 + 101 * (k + 1)) (n := 3000 + 706 * (k + 1)) (by omega) (by omega) ?_
  exact nx h2 f H2 locs2 ls hxy.2 hW2 hl
theorem case_l {G : GL} {p : Program} {l : Launch} {e : Env} {s : State} {m : MethodId} {below : List Frame} {meth : Method} {c : Code} {b L : Nat} {xs : Nat → Int32} {Qf : State → Prop} {k pc : Nat} (hs : LSg G p s m c b L xs) (n ix im : Nat) (off : Int) (MX MM : MI) {TX TM : List AV → AH → (Int64 → AH → Prop) → Prop} (RX : LRl l MX ix n TX) (RM : LRl l MM im n TM) (rX : mFr MX + 1 ≤ 11 ∧ 8 + (mNL MX + 11) + mLo MX ≤ 422 ∧ mMc MX ≤ 100 ∧ mMs MX ≤ 700) (rM : mFr MM + 1 ≤ 11 ∧ 8 + (mNL MM + 11) + mLo MM ≤ 422 ∧ mMc MM ≤ 1 ∧ mMs MM ≤ 6)
    (hdec : decode cL_law pc = .ok (.aload_n 1, 1) ∧ LAs n (pc + 1) = true ∧ decode cL_law (pc + 1 + 6 * n) = .ok (.invokevirtual ix, 3) ∧ decode cL_law (pc + 1 + 6 * n + 3) = .ok (.aload_n 2, 1) ∧ LAs n (pc + 1 + 6 * n + 3 + 1) = true ∧ decode cL_law (pc + 1 + 6 * n + 3 + 1 + 6 * n) = .ok (.invokevirtual im, 3) ∧ decode cL_law (pc + 1 + 6 * n + 3 + 1 + 6 * n + 3) = .ok (.lcmp, 1) ∧ decode cL_law (pc + 1 + 6 * n + 3 + 1 + 6 * n + 3 + 1) = .ok (.ifCond .eq off, 3) ∧ ((pc + 1 + 6 * n + 3 + 1 + 6 * n + 3 + 1 : Nat) : Int) + off = ((1725 : Nat) : Int))
    (hk : k < 512) (hi : 6 * k + 5 < L) (hn : n ≤ 5) (nx : LN G p l e s m below meth c b Qf (k + 1) (6 * k) 1725)
    (hT : ∀ h, INV k h → TX (ags 0 xs (6 * k) n) h (fun x h1 => TM (ags 15 xs (6 * k) n) h1 (fun y h2 => x = y ∧ INV (k + 1) h2))) : LN G p l e s m below meth c b Qf k (6 * k) pc := by
  intro h f H locs ls hI hW hl
  obtain ⟨d0, dA, d1, d2, dB, d3, d4, d5, d6⟩ := hdec
  have hs9 := hs
  obtain ⟨hx, hb, hml, hown, hts, hX, hbl, hg, hK, hL, -⟩ := hs9
  have q1 : (60000 : Nat) ≤ room_1.cells := Nat.le_of_ble_eq_true rfl
  have q2 : (400000 : Nat) ≤ room_1.slots := Nat.le_of_ble_eq_true rfl
  obtain ⟨x1, x2, x3, x4⟩ := rX
  obtain ⟨m1, m2, m3, m4⟩ := rM
  refine lv_aload_n hx hb d0 rfl (lv_at hl 2 rfl) ?_
  refine ld_args hs hW.2.2.2.2.2 hl 1 0 rfl rfl 0 [] n (by omega) (LAs_ok dA) ?_
  refine RX G p e room_1 s m #[Value.ref b] below meth c H locs _ _ Qf (pc + 1 + 6 * n) ls (ags 0 xs (6 * k) n) [] h f hx hb (by rw [hml]; exact hl.1.symm) hown hts x1 x2 (by omega) (by omega) hg hK hW (ags_ok h 0 xs (6 * k) n (by decide)) (ags_len 0 xs (6 * k) n) (Nat.le_of_ble_eq_true rfl) d1 _ (hT h hI) ?_
  intro x h1 H1 locs1 hx1 hW1
  refine lv_aload_n hx hb d2 rfl (lv_at hl 3 rfl) ?_
  refine ld_args hs hW1.2.2.2.2.2 hl 1 0 rfl rfl 15 ([aL x].map (cv G)) n (by omega) (LAs_ok dB) ?_
  refine RM G p e room_1 s m #[Value.ref b] below meth c H1 locs1 _ _ Qf (pc + 1 + 6 * n + 3 + 1 + 6 * n) ls (ags 15 xs (6 * k) n) [aL x] h1 f hx hb (by rw [hml]; exact hl.1.symm) hown hts m1 m2 (by omega) (by omega) hg hK hW1 (ags_ok h1 15 xs (6 * k) n (by decide)) (ags_len 15 xs (6 * k) n) (Nat.le_of_ble_eq_true rfl) d3 _ hx1 ?_
  intro y h2 H2 locs2 hxy hW2
  refine W.lcmp hx hb d4 ?_
  refine lv_if_eq (tgt := 1725) hx hb d5 d6 (fun _ => ?_) (fun z => absurd ((lg_cmp_eq _ _).mpr hxy.1) z)
  refine W.widen (k := 100 + 101 * (k + 1)) (n := 3000 + 706 * (k + 1)) (by omega) (by omega) ?_
  exact nx h2 f H2 locs2 ls hxy.2 hW2 hl

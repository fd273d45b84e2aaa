/-! ===== soundness of a step, by its instruction ===== -/
theorem cok_mem {cc : ByteArray} {nL : Nat} {l : List (Nat × Instr × List Nat)} (h : cok cc nL l = true) {q : Nat × Instr × List Nat} (hq : q ∈ l) : cok1 cc nL q = true := by
  induction l with
  | nil => cases hq
  | cons a r ih =>
    unfold cok at h
    simp only [Bool.and_eq_true] at h
    rcases List.mem_cons.mp hq with e | e
    · subst e; exact h.1.1
    · exact ih h.2 e
theorem cok_dec {cc : ByteArray} {nL : Nat} {q : Nat × Instr × List Nat} (h : cok1 cc nL q = true) : (∃ n, decode cc q.1 = .ok (q.2.1, n) ∧ (ilen q.2.1 = 0 ∨ ilen q.2.1 = n)) ∧ tok q.1 nL q.2.1 q.2.2 = true := by
  unfold cok1 at h
  simp only [Bool.and_eq_true] at h
  refine ⟨?_, h.2⟩
  have h1 := h.1
  split at h1
  · rename_i i n hd
    simp only [Bool.and_eq_true, decide_eq_true_eq, Bool.or_eq_true] at h1
    obtain ⟨e, h2⟩ := h1
    subst e
    refine ⟨n, hd, ?_⟩
    rcases h2 with h2 | h2
    · exact Or.inl (Nat.eq_of_beq_eq_true h2)
    · exact Or.inr (Nat.eq_of_beq_eq_true h2)
  · cases h1
theorem cok_next {cc : ByteArray} {nL : Nat} {l pre : List (Nat × Instr × List Nat)} (h : cok cc nL l = true) {q q' : Nat × Instr × List Nat} {r : List (Nat × Instr × List Nat)} (e : l = pre ++ q :: q' :: r) (hf : nofall q.2.1 = false) : q'.1 = q.1 + ilen q.2.1 := by
  induction pre generalizing l with
  | nil =>
    subst e
    rw [List.nil_append] at h
    unfold cok at h
    simp only [Bool.and_eq_true, Bool.or_eq_true] at h
    rcases h.1.2 with h2 | h2
    · rw [hf] at h2; cases h2
    · exact Nat.eq_of_beq_eq_true h2
  | cons a pre ih =>
    subst e
    rw [List.cons_append] at h
    unfold cok at h
    simp only [Bool.and_eq_true] at h
    exact ih h.2 rfl
theorem swc_get {x : Int32} {jp : Nat → Prop} : ∀ {ts : List Nat} {i k t : Nat}, swc x jp i ts → ts[k]? = some t → x = nI (i + k) → jp t
  | [], _, _, _, _, h, _ => by simp at h
  | a :: ts, i, 0, t, hs, h, hx => by
    simp at h
    subst h
    exact hs.1 hx
  | a :: ts, i, k + 1, t, hs, h, hx => swc_get (i := i + 1) hs.2 h (by rw [hx]; congr 1; omega)
theorem tblI : ∀ t ∈ [0, 1, 12, 15], ∀ k < 23, (fl t)[k]?.map (fun f => f.1) = some 0 → ((TC t k).2.2.2 = false ∧ parseFieldDescriptor (TC t k).2.2.1 = some .int) := by decide +kernel
theorem tblZ : ∀ t ∈ [0, 1, 12, 15], ∀ k < 23, (fl t)[k]?.map (fun f => f.1) = some 3 → ((TC t k).2.2.2 = false ∧ parseFieldDescriptor (TC t k).2.2.1 = some .boolean) := by decide +kernel
theorem tblR : ∀ t ∈ [0, 1, 12, 15], ∀ k < 23, (fl t)[k]?.map (fun f => f.1) = some 2 → ((TC t k).2.2.2 = false ∧ parseFieldDescriptor (TC t k).2.2.1 = some (.object RX4)) := by decide +kernel
theorem tblL : ∀ t ∈ [0, 1, 12, 15], ∀ k < 23, ∀ p < acnt t, ((fl t)[k]?.map (fun f => f.1) = some 1 → (((fl t)[k]?.map (fun f => f.2.1)).getD 0 < 23 ∧ p + ((fl t)[k]?.map (fun f => f.2.2)).getD 0 < acnt (((fl t)[k]?.map (fun f => f.2.1)).getD 0))) := by decide +kernel
theorem fl23 {t k : Nat} {f : Nat × Nat × Nat} (h : (fl t)[k]? = some f) : k < 23 := by
  have h1 := fl_lt h
  unfold fl at h1
  split at h1 <;> simp at h1 <;> omega
theorem isob4 {t : Nat} (h : isob t = true) (h18 : t ≠ 18) : t ∈ [0, 1, 12, 15] := by
  rcases isob_kin h with rfl | rfl | rfl | rfl | rfl
  · decide
  · decide
  · decide
  · decide
  · exact absurd rfl h18
theorem fl18 {k : Nat} {f : Nat × Nat × Nat} (h : (fl 18)[k]? = some f) : f.1 = 0 := by
  have h1 : f ∈ fl 18 := List.mem_of_getElem? h
  simp [fl] at h1
  rw [h1]
theorem fl_link {t p k : Nat} {f : Nat × Nat × Nat} (hb : isob t = true) (hf : (fl t)[k]? = some f) (h1 : f.1 = 1) (hp : (t, p) ∈ fixed ∨ t = 18) : (f.2.1, p + f.2.2) ∈ fixed := by
  by_cases h18 : t = 18
  · subst h18
    rw [fl18 hf] at h1
    cases h1
  · have hp : (t, p) ∈ fixed := hp.resolve_right h18
    have := tblL t (isob4 hb h18) k (fl23 hf) p (fixed_mem.mp hp).2 (by rw [hf]; simp [h1])
    rw [hf] at this
    exact fixed_mem.mpr this
theorem ob_put {t : Nat} (h : t ∈ [0, 1, 12, 15]) : ∃ ty0 : Nat → FieldType, (∀ k, k < (fl t).length → parseFieldDescriptor (TC t k).2.2.1 = some (ty0 k)) ∧ ∀ a, a < (fl t).length → ∀ b, b < (fl t).length → a ≠ b → (TC t a).2.1 ≠ (TC t b).2.1 := by
  simp only [List.mem_cons, List.not_mem_nil, or_false] at h
  rcases h with rfl | rfl | rfl | rfl
  · exact ⟨tyX10, tyX10_ok, nmX10⟩
  · exact ⟨tyX9, tyX9_ok, nmX9⟩
  · exact ⟨tyX5, tyX5_ok, nmX5⟩
  · exact ⟨tyX11, tyX11_ok, nmX11⟩
theorem kin3 : ∀ t < 23, akin t = 3 → alen t = 8 := by decide +kernel
theorem kin18 : ∀ t < 23, akin t ≤ 3 → t ≠ 18 := by decide +kernel
theorem sh_cast (k : Int32) : ∃ C : String, classes[kcls k]? = some (C, TX4, 7) ∧ (C = RX4 ∨ Cond.castable C RX4 ∈ nestW) := by
  unfold kcls
  split
  · exact ⟨RX7, rfl, Or.inr (by decide +kernel)⟩
  split
  · exact ⟨RX2, rfl, Or.inr (by decide +kernel)⟩
  split
  · exact ⟨RX8, rfl, Or.inr (by decide +kernel)⟩
  split
  · exact ⟨RX3, rfl, Or.inr (by decide +kernel)⟩
  split
  · exact ⟨RX1, rfl, Or.inr (by decide +kernel)⟩
  split
  · exact ⟨RX6, rfl, Or.inr (by decide +kernel)⟩
  split
  · exact ⟨RX0, rfl, Or.inr (by decide +kernel)⟩
  · exact ⟨RX4, rfl, Or.inl rfl⟩
theorem nar01 {x : Int32} (h : x = 0 ∨ x = 1) : narrow .boolean (.int x) = .int x ∧ fits .boolean (.int x) = true ∧ vp_nar .boolean x = x := by
  rcases h with rfl | rfl <;> exact ⟨by decide, by decide, by decide⟩
theorem Wd_wI {G : GL} {h : AH} {s : State} {H1 : Heap} {locs1 : List Loc} {t p i j : Nat} {x : Int32} {e : va_E} (hok : okh h) (ht : t ≠ 18) (hj : (idx h)[j]? = some (t, p)) (hD : va_D (gA0 G) (wl G h)) (he : e = cellE G (wI h t p i x) t p)
    (hP1 : va_P (G.1, G.2.1) classes ((wl G h).set j (adr G t p, e)) H1) (hD1 : va_D (gA0 G) ((wl G h).set j (adr G t p, e))) (hS1 : va_S (gA0 G) s.heap H1 locs1) : Wd G (wI h t p i x) s H1 locs1 := by
  have e1 : (wl G h).set j (adr G t p, e) = wl G (wI h t p i x) := by
    rw [he]
    exact wl_set (q := (t, p)) rfl hj hD (fun q' hq' => by unfold fW; rw [cell_wI ht hq'])
  rw [e1] at hP1 hD1
  exact ⟨hok, hP1, hD1, hS1⟩
theorem Wd_wR {G : GL} {h : AH} {s : State} {H1 : Heap} {locs1 : List Loc} {t p i j : Nat} {x : Option Nat} {e : va_E} (hok : okh h) (hx : okv h (aS x)) (hj : (idx h)[j]? = some (t, p)) (hD : va_D (gA0 G) (wl G h)) (he : e = cellE G (wR h t p i x) t p)
    (hP1 : va_P (G.1, G.2.1) classes ((wl G h).set j (adr G t p, e)) H1) (hD1 : va_D (gA0 G) ((wl G h).set j (adr G t p, e))) (hS1 : va_S (gA0 G) s.heap H1 locs1) : Wd G (wR h t p i x) s H1 locs1 := by
  have e1 : (wl G h).set j (adr G t p, e) = wl G (wR h t p i x) := by
    rw [he]
    exact wl_set (q := (t, p)) rfl hj hD (fun q' hq' => by unfold fW; rw [cell_wR hq'])
  rw [e1] at hP1 hD1
  exact ⟨okh_wR hok hx, hP1, hD1, hS1⟩
theorem lks_get {x : Int32} {jp : Nat → Prop} {pc d : Nat} {dflt : Int} (t1 : (pc : Int) + dflt = (d : Int)) : ∀ (ps : List (Int × Int)) (ts : List Nat), ps.map (fun o => (pc : Int) + o.2) = ts.map (fun t : Nat => (t : Int)) → (∀ q ∈ ps, -1000 < q.1 ∧ q.1 < 1000) → lks x jp d ps ts → ∃ (off : Int) (tgt : Nat), Op.lookupswitch.offset ps dflt x.toInt = off ∧ (pc : Int) + off = (tgt : Int) ∧ jp tgt
  | [], [], _, _, hs => ⟨dflt, d, rfl, t1, hs⟩
  | q :: ps, t :: ts, h3, h4, hs => by
    simp only [List.map_cons, List.cons.injEq] at h3
    have hq := h4 q List.mem_cons_self
    have hk : (iI q.1).toInt = q.1 := Int32.toInt_ofInt_of_le (by omega) (by omega)
    by_cases e : x = iI q.1
    · refine ⟨q.2, t, ?_, h3.1, hs.1 e⟩
      obtain ⟨a, o⟩ := q
      rw [Op.lookupswitch.offset_cons, if_pos]
      rw [e]
      exact hk.symm
    · obtain ⟨off, tgt, e1, e2, e3⟩ := lks_get t1 ps ts h3.2 (fun z hz => h4 z (List.mem_cons_of_mem _ hz)) (hs.2 e)
      obtain ⟨a, o⟩ := q
      exact ⟨off, tgt, (lv_osw e hk).trans e1, e2, e3⟩
/-- a call, by its rule -/
theorem cll_sound {M : MI} {Q : RQ} {ins : Instr} {ce : CE} {pc : Nat} {L : LSt} {st : List AV} {h : AH} {kc ks : Nat} {nx : List AV → AH → Nat → Nat → Prop} (hcr : CR (mOwn M) ins ce) (r1 : ce.2.1 ≤ mFr M) (r2 : ce.2.2.1 ≤ mLo M) (hd : decode (mCC M) pc = .ok (ins, 3)) (hs : cll ce st h kc ks (mMc M) (mMs M) nx)
    (hn : ∀ st h kc ks, nx st h kc ks → AW M Q (pc + 3) L st h kc ks) : AW M Q pc L st h kc ks := by
  intro G p l e R s m args below meth c H locs ls Qf S0 hC hK hE hW hS0 hkc hks hL hst hl hlen
  obtain ⟨hx, hb, hml, hown, hts, hfr, hlo, hmc, hms⟩ := id hC
  obtain ⟨hok, hs⟩ := tif_inv hs
  simp only [Bool.and_eq_true] at hok
  have hlen2 := Nat.le_of_ble_eq_true hok.1
  have hcat := Nat.le_of_ble_eq_true hok.2
  have hsplit : st.map (cv G) = (((st.take ce.1).reverse).map (cv G)).reverse ++ (st.drop ce.1).map (cv G) := by
    rw [← List.map_reverse, List.reverse_reverse, ← List.map_append, List.take_append_drop]
  have has : okSt h (st.take ce.1).reverse := fun v hv => hst v (List.mem_of_mem_take (List.mem_reverse.mp hv))
  have hrs : okSt h (st.drop ce.1) := fun v hv => hst v (List.mem_of_mem_drop hv)
  have hal : (st.take ce.1).reverse.length = ce.1 := by rw [List.length_reverse, List.length_take]; omega
  have hbud : kc + ce.2.2.2.1 ≤ mMc M ∧ ks + ce.2.2.2.2.1 ≤ mMs M ∧ (match ce.2.2.2.2.2 with
    | .inl T => T (st.take ce.1).reverse h (fun x h => nx (aI x :: st.drop ce.1) h (kc + ce.2.2.2.1) (ks + ce.2.2.2.2.1))
    | .inr (.inl T) => T (st.take ce.1).reverse h (fun h => nx (st.drop ce.1) h (kc + ce.2.2.2.1) (ks + ce.2.2.2.2.1))
    | .inr (.inr (.inl T)) => T (st.take ce.1).reverse h (fun x h => nx (aL x :: st.drop ce.1) h (kc + ce.2.2.2.1) (ks + ce.2.2.2.2.1))
    | .inr (.inr (.inr T)) => T (st.take ce.1).reverse h (fun x h => nx (aS x :: st.drop ce.1) h (kc + ce.2.2.2.1) (ks + ce.2.2.2.2.1))) := by
    unfold bud at hs
    split at hs
    · rename_i e1 e2
      rw [e1, e2]
      exact ⟨hkc, hks, hs⟩
    · exact ⟨hs.1.1, hs.1.2, hs.2⟩
  obtain ⟨b1, b2, hs⟩ := hbud
  have hrule := hcr G p l e R s m args below meth c (mCC M) H locs kc ks Qf pc ls (st.take ce.1).reverse (st.drop ce.1) h hx hb (by rw [hml]; exact hl.1.symm) hown hts (Nat.le_trans r1 hfr) (Nat.le_trans r2 hlo) (Nat.le_trans b1 hmc) (Nat.le_trans b2 hms) hK hW has hal hcat hd
  rw [hsplit]
  split at hs
  · rename_i T hT
    rw [hT] at hrule
    exact hrule _ hs (fun x h' H' locs' hk hw' hsub => hn _ _ _ _ hk G p l e R s m args below meth c H' locs' ls Qf S0 hC hK hE hw' (fun a ha => hsub a (hS0 a ha)) b1 b2 (fun i v hv => okv_mono hsub (hL i v hv)) (okSt_i (fun v hv => okv_mono hsub (hrs v hv))) hl hlen)
  · rename_i T hT
    rw [hT] at hrule
    exact hrule _ hs (fun h' H' locs' hk hw' hsub => hn _ _ _ _ hk G p l e R s m args below meth c H' locs' ls Qf S0 hC hK hE hw' (fun a ha => hsub a (hS0 a ha)) b1 b2 (fun i v hv => okv_mono hsub (hL i v hv)) (fun v hv => okv_mono hsub (hrs v hv)) hl hlen)
  · rename_i T hT
    rw [hT] at hrule
    exact hrule _ hs (fun x h' H' locs' hk hw' hsub => hn _ _ _ _ hk G p l e R s m args below meth c H' locs' ls Qf S0 hC hK hE hw' (fun a ha => hsub a (hS0 a ha)) b1 b2 (fun i v hv => okv_mono hsub (hL i v hv)) (okSt_l (fun v hv => okv_mono hsub (hrs v hv))) hl hlen)
  · rename_i T hT
    rw [hT] at hrule
    exact hrule _ hs (fun x h' H' locs' hk hx' hw' hsub => hn _ _ _ _ hk G p l e R s m args below meth c H' locs' ls Qf S0 hC hK hE hw' (fun a ha => hsub a (hS0 a ha)) b1 b2 (fun i v hv => okv_mono hsub (hL i v hv)) (okSt_c hx' (fun v hv => okv_mono hsub (hrs v hv))) hl hlen)
set_option maxHeartbeats 4000000 in
theorem stp_sound {M : MI} {Q : RQ} (hM : MOK M) {nx : LSt → List AV → AH → Nat → Nat → Prop} {jp : Nat → LSt → List AV → AH → Nat → Nat → Prop} {pc : Nat} {ins : Instr} {tg : List Nat} {L : LSt} {st : List AV} {h : AH} {kc ks : Nat} (hq : (pc, ins, tg) ∈ mCode M)
    (hn : ∀ L st h kc ks, nofall ins = false → nx L st h kc ks → AW M Q (pc + ilen ins) L st h kc ks) (hj : ∀ t L st h kc ks, jp t L st h kc ks → AW M Q t L st h kc ks) (hs : stp M Q nx jp ins tg L st h kc ks) : AW M Q pc L st h kc ks := by
  intro G p l e R s m args below meth c H locs ls Qf S0 hC hK hE hW hS0 hkc hks hL hst hl hlen
  obtain ⟨hx, hb, hml, hown, hts, hfr, hlo, hmc, hms⟩ := id hC
  obtain ⟨hokh, hP, hD, hS⟩ := id hW
  obtain ⟨⟨n0, hd0, hd1⟩, htk⟩ := cok_dec (cok_mem hM.1 hq)
  have hd : ilen ins ≠ 0 → decode (mCC M) pc = .ok (ins, ilen ins) := fun hne => by
    rcases hd1 with h1 | h1
    · exact absurd h1 hne
    · rw [h1]; exact hd0
  clear hd1
  cases ins with
  | iconst n =>
    exact lv_iconst hx hb (hd (Nat.succ_ne_zero _)) (cst_eq n) (hn _ _ _ _ _ rfl hs G p l e R s m args below meth c H locs ls Qf S0 hC hK hE hW hS0 hkc hks hL (okSt_i hst) hl hlen)
  | bipush n =>
    exact lv_bipush hx hb (hd (Nat.succ_ne_zero _)) ((of_decide_eq_true htk).trans (cst_eq n)) (hn _ _ _ _ _ rfl hs G p l e R s m args below meth c H locs ls Qf S0 hC hK hE hW hS0 hkc hks hL (okSt_i hst) hl hlen)
  | sipush n =>
    exact lv_sipush hx hb (hd (Nat.succ_ne_zero _)) ((of_decide_eq_true htk).trans (cst_eq n)) (hn _ _ _ _ _ rfl hs G p l e R s m args below meth c H locs ls Qf S0 hC hK hE hW hS0 hkc hks hL (okSt_i hst) hl hlen)
  | lconst n =>
    exact lv_lconst hx hb (hd (Nat.succ_ne_zero _)) rfl (hn _ _ _ _ _ rfl hs G p l e R s m args below meth c H locs ls Qf S0 hC hK hE hW hS0 hkc hks hL (okSt_l hst) hl hlen)
  | aconst_null =>
    exact lv_null hx hb (hd (Nat.succ_ne_zero _)) (hn _ _ _ _ _ rfl hs G p l e R s m args below meth c H locs ls Qf S0 hC hK hE hW hS0 hkc hks hL (okSt_c trivial hst) hl hlen)
  | ldc i =>
    cases hv : lkp (mC M) i with
    | none => simp only [stp, hv] at hs
    | some v =>
      simp only [stp, hv] at hs
      exact lv_ldc hx hb hown (hts _ (hM.2.2.1 (i, v) (lkp_mem hv))) (hd (Nat.succ_ne_zero _)) (hn _ _ _ _ _ rfl hs G p l e R s m args below meth c H locs ls Qf S0 hC hK hE hW hS0 hkc hks hL (okSt_i hst) hl hlen)
  | ldc_w i =>
    cases hv : lkp (mC M) i with
    | none => simp only [stp, hv] at hs
    | some v =>
      simp only [stp, hv] at hs
      exact lv_ldcw hx hb hown (hts _ (hM.2.2.1 (i, v) (lkp_mem hv))) (hd (Nat.succ_ne_zero _)) (hn _ _ _ _ _ rfl hs G p l e R s m args below meth c H locs ls Qf S0 hC hK hE hW hS0 hkc hks hL (okSt_i hst) hl hlen)
  | ldc2_w i =>
    cases hv : lkp (mCl M) i with
    | none => simp only [stp, hv] at hs
    | some v =>
      simp only [stp, hv] at hs
      exact lv_ldc2 hx hb hown (hts _ (hM.2.2.2.1 (i, v) (lkp_mem hv))) (hd (Nat.succ_ne_zero _)) (hn _ _ _ _ _ rfl hs G p l e R s m args below meth c H locs ls Qf S0 hC hK hE hW hS0 hkc hks hL (okSt_l hst) hl hlen)
  | iload_n i =>
    obtain ⟨x, h1, hs⟩ := gI_inv hs
    exact lv_iload_n hx hb (hd (Nat.succ_ne_zero _)) rfl (cvL_at hl h1) (hn _ _ _ _ _ rfl hs G p l e R s m args below meth c H locs ls Qf S0 hC hK hE hW hS0 hkc hks hL (okSt_i hst) hl hlen)
  | iload i =>
    obtain ⟨x, h1, hs⟩ := gI_inv hs
    exact lv_iload hx hb (hd (Nat.succ_ne_zero _)) (cvL_at hl h1) (hn _ _ _ _ _ rfl hs G p l e R s m args below meth c H locs ls Qf S0 hC hK hE hW hS0 hkc hks hL (okSt_i hst) hl hlen)
  | lload_n i =>
    obtain ⟨x, h1, hs⟩ := gL_inv hs
    exact lv_lload_n hx hb (hd (Nat.succ_ne_zero _)) rfl (cvL_at hl h1) (hn _ _ _ _ _ rfl hs G p l e R s m args below meth c H locs ls Qf S0 hC hK hE hW hS0 hkc hks hL (okSt_l hst) hl hlen)
  | lload i =>
    obtain ⟨x, h1, hs⟩ := gL_inv hs
    exact lv_lload hx hb (hd (Nat.succ_ne_zero _)) (cvL_at hl h1) (hn _ _ _ _ _ rfl hs G p l e R s m args below meth c H locs ls Qf S0 hC hK hE hW hS0 hkc hks hL (okSt_l hst) hl hlen)
  | aload_n i =>
    have hs : gA L i (fun x => nx L (x :: st) h kc ks) := hs
    obtain ⟨x, h1, hs⟩ := gA_inv hs
    match x, h1, hs with
    | .inl q, h1, hs => exact lv_aload_n hx hb (hd (Nat.succ_ne_zero _)) rfl (cvL_at hl h1) (hn _ _ _ _ _ rfl hs G p l e R s m args below meth c H locs ls Qf S0 hC hK hE hW hS0 hkc hks hL (okSt_c (hL _ _ h1) hst) hl hlen)
    | .inr (some a), h1, hs => exact lv_aload_n hx hb (hd (Nat.succ_ne_zero _)) rfl (cvL_at hl h1) (hn _ _ _ _ _ rfl hs G p l e R s m args below meth c H locs ls Qf S0 hC hK hE hW hS0 hkc hks hL (okSt_c (hL _ _ h1) hst) hl hlen)
    | .inr none, h1, hs => exact lv_aload_nN hx hb (hd (Nat.succ_ne_zero _)) rfl (cvL_at hl h1) (hn _ _ _ _ _ rfl hs G p l e R s m args below meth c H locs ls Qf S0 hC hK hE hW hS0 hkc hks hL (okSt_c (hL _ _ h1) hst) hl hlen)
  | aload i =>
    have hs : gA L i (fun x => nx L (x :: st) h kc ks) := hs
    obtain ⟨x, h1, hs⟩ := gA_inv hs
    match x, h1, hs with
    | .inl q, h1, hs => exact lv_aload hx hb (hd (Nat.succ_ne_zero _)) (cvL_at hl h1) (hn _ _ _ _ _ rfl hs G p l e R s m args below meth c H locs ls Qf S0 hC hK hE hW hS0 hkc hks hL (okSt_c (hL _ _ h1) hst) hl hlen)
    | .inr (some a), h1, hs => exact lv_aload hx hb (hd (Nat.succ_ne_zero _)) (cvL_at hl h1) (hn _ _ _ _ _ rfl hs G p l e R s m args below meth c H locs ls Qf S0 hC hK hE hW hS0 hkc hks hL (okSt_c (hL _ _ h1) hst) hl hlen)
    | .inr none, h1, hs => exact lv_aloadN hx hb (hd (Nat.succ_ne_zero _)) (cvL_at hl h1) (hn _ _ _ _ _ rfl hs G p l e R s m args below meth c H locs ls Qf S0 hC hK hE hW hS0 hkc hks hL (okSt_c (hL _ _ h1) hst) hl hlen)
  | istore_n i =>
    obtain ⟨x, r, he_, hs_⟩ := pI_inv hs; clear hs; subst he_; have hs := hs_; clear hs_
    exact lv_istore_n hx hb (hd (Nat.succ_ne_zero _)) rfl hl (Nat.blt_eq ▸ htk : _ < _) rfl (fun ls' hl' => (hn _ _ _ _ _ rfl hs G p l e R s m args below meth c H locs ls' Qf S0 hC hK hE hW hS0 hkc hks (okLs_st hL trivial) (okSt_t hst) (lv_st (v := aI x) hl') (by rw [stL_len]; exact hlen)))
  | istore i =>
    obtain ⟨x, r, he_, hs_⟩ := pI_inv hs; clear hs; subst he_; have hs := hs_; clear hs_
    exact lv_istore hx hb (hd (Nat.succ_ne_zero _)) hl (Nat.blt_eq ▸ htk : _ < _) rfl (fun ls' hl' => (hn _ _ _ _ _ rfl hs G p l e R s m args below meth c H locs ls' Qf S0 hC hK hE hW hS0 hkc hks (okLs_st hL trivial) (okSt_t hst) (lv_st (v := aI x) hl') (by rw [stL_len]; exact hlen)))
  | lstore_n i =>
    obtain ⟨x, r, he_, hs_⟩ := pL_inv hs; clear hs; subst he_; have hs := hs_; clear hs_
    exact lv_lstore_n hx hb (hd (Nat.succ_ne_zero _)) rfl hl (Nat.blt_eq ▸ htk : _ < _) rfl (fun ls' hl' => (hn _ _ _ _ _ rfl hs G p l e R s m args below meth c H locs ls' Qf S0 hC hK hE hW hS0 hkc hks (okLs_st2 hL trivial) (okSt_t hst) (lv_st2 (v := aL x) hlen (Nat.blt_eq ▸ htk : _ < _) hl') (by rw [setL_len, stL_len]; exact hlen)))
  | lstore i =>
    obtain ⟨x, r, he_, hs_⟩ := pL_inv hs; clear hs; subst he_; have hs := hs_; clear hs_
    exact lv_lstore hx hb (hd (Nat.succ_ne_zero _)) hl (Nat.blt_eq ▸ htk : _ < _) rfl (fun ls' hl' => (hn _ _ _ _ _ rfl hs G p l e R s m args below meth c H locs ls' Qf S0 hC hK hE hW hS0 hkc hks (okLs_st2 hL trivial) (okSt_t hst) (lv_st2 (v := aL x) hlen (Nat.blt_eq ▸ htk : _ < _) hl') (by rw [setL_len, stL_len]; exact hlen)))
  | astore_n i =>
    have hs : pA st (fun x st => nx (stL L i (some x)) st h kc ks) := hs
    obtain ⟨x, r, he_, hs_⟩ := pA_inv hs; clear hs; subst he_; have hs := hs_; clear hs_
    match x, hs, hst with
    | .inl q, hs, hst => exact lv_astore_n hx hb (hd (Nat.succ_ne_zero _)) rfl hl (Nat.blt_eq ▸ htk : _ < _) rfl (fun ls' hl' => (hn _ _ _ _ _ rfl hs G p l e R s m args below meth c H locs ls' Qf S0 hC hK hE hW hS0 hkc hks (okLs_st hL (okSt_h hst)) (okSt_t hst) (lv_st (v := aR q.1 q.2) hl') (by rw [stL_len]; exact hlen)))
    | .inr (some a), hs, hst => exact lv_astore_n hx hb (hd (Nat.succ_ne_zero _)) rfl hl (Nat.blt_eq ▸ htk : _ < _) rfl (fun ls' hl' => (hn _ _ _ _ _ rfl hs G p l e R s m args below meth c H locs ls' Qf S0 hC hK hE hW hS0 hkc hks (okLs_st hL (okSt_h hst)) (okSt_t hst) (lv_st (v := aS (some a)) hl') (by rw [stL_len]; exact hlen)))
    | .inr none, hs, hst => exact lv_astore_nN hx hb (hd (Nat.succ_ne_zero _)) rfl hl (Nat.blt_eq ▸ htk : _ < _) rfl (fun ls' hl' => (hn _ _ _ _ _ rfl hs G p l e R s m args below meth c H locs ls' Qf S0 hC hK hE hW hS0 hkc hks (okLs_st hL (okSt_h hst)) (okSt_t hst) (lv_st (v := aS none) hl') (by rw [stL_len]; exact hlen)))
  | astore i =>
    have hs : pA st (fun x st => nx (stL L i (some x)) st h kc ks) := hs
    obtain ⟨x, r, he_, hs_⟩ := pA_inv hs; clear hs; subst he_; have hs := hs_; clear hs_
    match x, hs, hst with
    | .inl q, hs, hst => exact lv_astore hx hb (hd (Nat.succ_ne_zero _)) hl (Nat.blt_eq ▸ htk : _ < _) rfl (fun ls' hl' => (hn _ _ _ _ _ rfl hs G p l e R s m args below meth c H locs ls' Qf S0 hC hK hE hW hS0 hkc hks (okLs_st hL (okSt_h hst)) (okSt_t hst) (lv_st (v := aR q.1 q.2) hl') (by rw [stL_len]; exact hlen)))
    | .inr (some a), hs, hst => exact lv_astore hx hb (hd (Nat.succ_ne_zero _)) hl (Nat.blt_eq ▸ htk : _ < _) rfl (fun ls' hl' => (hn _ _ _ _ _ rfl hs G p l e R s m args below meth c H locs ls' Qf S0 hC hK hE hW hS0 hkc hks (okLs_st hL (okSt_h hst)) (okSt_t hst) (lv_st (v := aS (some a)) hl') (by rw [stL_len]; exact hlen)))
    | .inr none, hs, hst => exact lv_astoreN hx hb (hd (Nat.succ_ne_zero _)) hl (Nat.blt_eq ▸ htk : _ < _) rfl (fun ls' hl' => (hn _ _ _ _ _ rfl hs G p l e R s m args below meth c H locs ls' Qf S0 hC hK hE hW hS0 hkc hks (okLs_st hL (okSt_h hst)) (okSt_t hst) (lv_st (v := aS none) hl') (by rw [stL_len]; exact hlen)))
  | iinc i n =>
    obtain ⟨x, h1, hs⟩ := gI_inv hs
    obtain ⟨k, hk⟩ := List.getElem?_of_mem (cvL_mem (G := G) (q := (i, Value.int x)) |>.mpr ⟨_, h1, rfl⟩)
    exact lv_iinc hx hb (hd (Nat.succ_ne_zero _)) hl hk (congrArg (x + ·) (cst_eq n)) (Nat.blt_eq ▸ htk : _ < _) rfl (fun ls' hl' => (hn _ _ _ _ _ rfl hs G p l e R s m args below meth c H locs ls' Qf S0 hC hK hE hW hS0 hkc hks (okLs_st hL trivial) hst (lv_st (v := aI (x + cst n)) hl') (by rw [stL_len]; exact hlen)))
  | iadd =>
    obtain ⟨y, r, he_, hs_⟩ := pI_inv hs; clear hs; subst he_; have hs := hs_; clear hs_
    obtain ⟨x, r, he_, hs_⟩ := pI_inv hs; clear hs; subst he_; have hs := hs_; clear hs_
    exact lv_iadd hx hb (hd (Nat.succ_ne_zero _)) (hn _ _ _ _ _ rfl hs G p l e R s m args below meth c H locs ls Qf S0 hC hK hE hW hS0 hkc hks hL (okSt_i (okSt_t (okSt_t hst))) hl hlen)
  | isub =>
    obtain ⟨y, r, he_, hs_⟩ := pI_inv hs; clear hs; subst he_; have hs := hs_; clear hs_
    obtain ⟨x, r, he_, hs_⟩ := pI_inv hs; clear hs; subst he_; have hs := hs_; clear hs_
    exact lv_isub hx hb (hd (Nat.succ_ne_zero _)) (hn _ _ _ _ _ rfl hs G p l e R s m args below meth c H locs ls Qf S0 hC hK hE hW hS0 hkc hks hL (okSt_i (okSt_t (okSt_t hst))) hl hlen)
  | imul =>
    obtain ⟨y, r, he_, hs_⟩ := pI_inv hs; clear hs; subst he_; have hs := hs_; clear hs_
    obtain ⟨x, r, he_, hs_⟩ := pI_inv hs; clear hs; subst he_; have hs := hs_; clear hs_
    exact lv_imul hx hb (hd (Nat.succ_ne_zero _)) (hn _ _ _ _ _ rfl hs G p l e R s m args below meth c H locs ls Qf S0 hC hK hE hW hS0 hkc hks hL (okSt_i (okSt_t (okSt_t hst))) hl hlen)
  | iand =>
    obtain ⟨y, r, he_, hs_⟩ := pI_inv hs; clear hs; subst he_; have hs := hs_; clear hs_
    obtain ⟨x, r, he_, hs_⟩ := pI_inv hs; clear hs; subst he_; have hs := hs_; clear hs_
    exact lv_iand hx hb (hd (Nat.succ_ne_zero _)) (hn _ _ _ _ _ rfl hs G p l e R s m args below meth c H locs ls Qf S0 hC hK hE hW hS0 hkc hks hL (okSt_i (okSt_t (okSt_t hst))) hl hlen)
  | ior =>
    obtain ⟨y, r, he_, hs_⟩ := pI_inv hs; clear hs; subst he_; have hs := hs_; clear hs_
    obtain ⟨x, r, he_, hs_⟩ := pI_inv hs; clear hs; subst he_; have hs := hs_; clear hs_
    exact lv_ior hx hb (hd (Nat.succ_ne_zero _)) (hn _ _ _ _ _ rfl hs G p l e R s m args below meth c H locs ls Qf S0 hC hK hE hW hS0 hkc hks hL (okSt_i (okSt_t (okSt_t hst))) hl hlen)
  | ishl =>
    obtain ⟨y, r, he_, hs_⟩ := pI_inv hs; clear hs; subst he_; have hs := hs_; clear hs_
    obtain ⟨x, r, he_, hs_⟩ := pI_inv hs; clear hs; subst he_; have hs := hs_; clear hs_
    exact lv_ishl hx hb (hd (Nat.succ_ne_zero _)) (hn _ _ _ _ _ rfl hs G p l e R s m args below meth c H locs ls Qf S0 hC hK hE hW hS0 hkc hks hL (okSt_i (okSt_t (okSt_t hst))) hl hlen)
  | ishr =>
    obtain ⟨y, r, he_, hs_⟩ := pI_inv hs; clear hs; subst he_; have hs := hs_; clear hs_
    obtain ⟨x, r, he_, hs_⟩ := pI_inv hs; clear hs; subst he_; have hs := hs_; clear hs_
    exact lv_ishr hx hb (hd (Nat.succ_ne_zero _)) (hn _ _ _ _ _ rfl hs G p l e R s m args below meth c H locs ls Qf S0 hC hK hE hW hS0 hkc hks hL (okSt_i (okSt_t (okSt_t hst))) hl hlen)
  | idiv =>
    obtain ⟨y, r, he_, hs_⟩ := pI_inv hs; clear hs; subst he_; have hs := hs_; clear hs_
    obtain ⟨x, r, he_, hs_⟩ := pI_inv hs; clear hs; subst he_; have hs := hs_; clear hs_
    exact lv_idiv hx hb (hd (Nat.succ_ne_zero _)) hs.1 (hn _ _ _ _ _ rfl hs.2 G p l e R s m args below meth c H locs ls Qf S0 hC hK hE hW hS0 hkc hks hL (okSt_i (okSt_t (okSt_t hst))) hl hlen)
  | irem =>
    obtain ⟨y, r, he_, hs_⟩ := pI_inv hs; clear hs; subst he_; have hs := hs_; clear hs_
    obtain ⟨x, r, he_, hs_⟩ := pI_inv hs; clear hs; subst he_; have hs := hs_; clear hs_
    exact lv_irem hx hb (hd (Nat.succ_ne_zero _)) hs.1 (hn _ _ _ _ _ rfl hs.2 G p l e R s m args below meth c H locs ls Qf S0 hC hK hE hW hS0 hkc hks hL (okSt_i (okSt_t (okSt_t hst))) hl hlen)
  | ineg =>
    obtain ⟨x, r, he_, hs_⟩ := pI_inv hs; clear hs; subst he_; have hs := hs_; clear hs_
    exact lv_ineg hx hb (hd (Nat.succ_ne_zero _)) (hn _ _ _ _ _ rfl hs G p l e R s m args below meth c H locs ls Qf S0 hC hK hE hW hS0 hkc hks hL (okSt_i (okSt_t hst)) hl hlen)
  | ladd =>
    obtain ⟨y, r, he_, hs_⟩ := pL_inv hs; clear hs; subst he_; have hs := hs_; clear hs_
    obtain ⟨x, r, he_, hs_⟩ := pL_inv hs; clear hs; subst he_; have hs := hs_; clear hs_
    exact lv_ladd hx hb (hd (Nat.succ_ne_zero _)) (hn _ _ _ _ _ rfl hs G p l e R s m args below meth c H locs ls Qf S0 hC hK hE hW hS0 hkc hks hL (okSt_l (okSt_t (okSt_t hst))) hl hlen)
  | lsub =>
    obtain ⟨y, r, he_, hs_⟩ := pL_inv hs; clear hs; subst he_; have hs := hs_; clear hs_
    obtain ⟨x, r, he_, hs_⟩ := pL_inv hs; clear hs; subst he_; have hs := hs_; clear hs_
    exact lv_lsub hx hb (hd (Nat.succ_ne_zero _)) (hn _ _ _ _ _ rfl hs G p l e R s m args below meth c H locs ls Qf S0 hC hK hE hW hS0 hkc hks hL (okSt_l (okSt_t (okSt_t hst))) hl hlen)
  | land =>
    obtain ⟨y, r, he_, hs_⟩ := pL_inv hs; clear hs; subst he_; have hs := hs_; clear hs_
    obtain ⟨x, r, he_, hs_⟩ := pL_inv hs; clear hs; subst he_; have hs := hs_; clear hs_
    exact lv_land hx hb (hd (Nat.succ_ne_zero _)) (hn _ _ _ _ _ rfl hs G p l e R s m args below meth c H locs ls Qf S0 hC hK hE hW hS0 hkc hks hL (okSt_l (okSt_t (okSt_t hst))) hl hlen)
  | lor =>
    obtain ⟨y, r, he_, hs_⟩ := pL_inv hs; clear hs; subst he_; have hs := hs_; clear hs_
    obtain ⟨x, r, he_, hs_⟩ := pL_inv hs; clear hs; subst he_; have hs := hs_; clear hs_
    exact lv_lor hx hb (hd (Nat.succ_ne_zero _)) (hn _ _ _ _ _ rfl hs G p l e R s m args below meth c H locs ls Qf S0 hC hK hE hW hS0 hkc hks hL (okSt_l (okSt_t (okSt_t hst))) hl hlen)
  | ldiv =>
    obtain ⟨y, r, he_, hs_⟩ := pL_inv hs; clear hs; subst he_; have hs := hs_; clear hs_
    obtain ⟨x, r, he_, hs_⟩ := pL_inv hs; clear hs; subst he_; have hs := hs_; clear hs_
    exact lv_ldiv hx hb (hd (Nat.succ_ne_zero _)) hs.1 (hn _ _ _ _ _ rfl hs.2 G p l e R s m args below meth c H locs ls Qf S0 hC hK hE hW hS0 hkc hks hL (okSt_l (okSt_t (okSt_t hst))) hl hlen)
  | lrem =>
    obtain ⟨y, r, he_, hs_⟩ := pL_inv hs; clear hs; subst he_; have hs := hs_; clear hs_
    obtain ⟨x, r, he_, hs_⟩ := pL_inv hs; clear hs; subst he_; have hs := hs_; clear hs_
    exact lv_lrem hx hb (hd (Nat.succ_ne_zero _)) hs.1 (hn _ _ _ _ _ rfl hs.2 G p l e R s m args below meth c H locs ls Qf S0 hC hK hE hW hS0 hkc hks hL (okSt_l (okSt_t (okSt_t hst))) hl hlen)
  | lushr =>
    obtain ⟨y, r, he_, hs_⟩ := pI_inv hs; clear hs; subst he_; have hs := hs_; clear hs_
    obtain ⟨x, r, he_, hs_⟩ := pL_inv hs; clear hs; subst he_; have hs := hs_; clear hs_
    exact lv_lushr hx hb (hd (Nat.succ_ne_zero _)) rfl (hn _ _ _ _ _ rfl hs G p l e R s m args below meth c H locs ls Qf S0 hC hK hE hW hS0 hkc hks hL (okSt_l (okSt_t (okSt_t hst))) hl hlen)
  | lshl =>
    obtain ⟨y, r, he_, hs_⟩ := pI_inv hs; clear hs; subst he_; have hs := hs_; clear hs_
    obtain ⟨x, r, he_, hs_⟩ := pL_inv hs; clear hs; subst he_; have hs := hs_; clear hs_
    exact lv_lshl hx hb (hd (Nat.succ_ne_zero _)) rfl (hn _ _ _ _ _ rfl hs G p l e R s m args below meth c H locs ls Qf S0 hC hK hE hW hS0 hkc hks hL (okSt_l (okSt_t (okSt_t hst))) hl hlen)
  | lcmp =>
    obtain ⟨y, r, he_, hs_⟩ := pL_inv hs; clear hs; subst he_; have hs := hs_; clear hs_
    obtain ⟨x, r, he_, hs_⟩ := pL_inv hs; clear hs; subst he_; have hs := hs_; clear hs_
    exact W.lcmp hx hb (hd (Nat.succ_ne_zero _)) (hn _ _ _ _ _ rfl hs G p l e R s m args below meth c H locs ls Qf S0 hC hK hE hW hS0 hkc hks hL (okSt_i (okSt_t (okSt_t hst))) hl hlen)
  | i2l =>
    obtain ⟨x, r, he_, hs_⟩ := pI_inv hs; clear hs; subst he_; have hs := hs_; clear hs_
    exact lv_i2l hx hb (hd (Nat.succ_ne_zero _)) rfl (hn _ _ _ _ _ rfl hs G p l e R s m args below meth c H locs ls Qf S0 hC hK hE hW hS0 hkc hks hL (okSt_l (okSt_t hst)) hl hlen)
  | l2i =>
    obtain ⟨x, r, he_, hs_⟩ := pL_inv hs; clear hs; subst he_; have hs := hs_; clear hs_
    exact lv_l2i hx hb (hd (Nat.succ_ne_zero _)) rfl (hn _ _ _ _ _ rfl hs G p l e R s m args below meth c H locs ls Qf S0 hC hK hE hW hS0 hkc hks hL (okSt_i (okSt_t hst)) hl hlen)
  | i2b =>
    obtain ⟨x, r, he_, hs_⟩ := pI_inv hs; clear hs; subst he_; have hs := hs_; clear hs_
    exact lv_i2b hx hb (hd (Nat.succ_ne_zero _)) rfl (hn _ _ _ _ _ rfl hs G p l e R s m args below meth c H locs ls Qf S0 hC hK hE hW hS0 hkc hks hL (okSt_i (okSt_t hst)) hl hlen)
  | i2s =>
    obtain ⟨x, r, he_, hs_⟩ := pI_inv hs; clear hs; subst he_; have hs := hs_; clear hs_
    exact lv_i2s hx hb (hd (Nat.succ_ne_zero _)) rfl (hn _ _ _ _ _ rfl hs G p l e R s m args below meth c H locs ls Qf S0 hC hK hE hW hS0 hkc hks hL (okSt_i (okSt_t hst)) hl hlen)
  | dup =>
    obtain ⟨v, r, he_, hv, hs_⟩ := p1_inv hs; clear hs; subst he_; have hs := hs_; clear hs_
    exact lv_dup hx hb (hd (Nat.succ_ne_zero _)) ((cv_cat G v).trans hv) (hn _ _ _ _ _ rfl hs G p l e R s m args below meth c H locs ls Qf S0 hC hK hE hW hS0 hkc hks hL (okSt_c (okSt_h hst) hst) hl hlen)
  | dup2 =>
    obtain ⟨v, r, he_, hv, hs_⟩ := p1_inv hs; clear hs; subst he_; have hs := hs_; clear hs_
    obtain ⟨w, r, he_, hw, hs_⟩ := p1_inv hs; clear hs; subst he_; have hs := hs_; clear hs_
    exact lv_dup2_11 hx hb (hd (Nat.succ_ne_zero _)) ((cv_cat G v).trans hv) ((cv_cat G w).trans hw) (hn _ _ _ _ _ rfl hs G p l e R s m args below meth c H locs ls Qf S0 hC hK hE hW hS0 hkc hks hL (okSt_c (okSt_h hst) (okSt_c (okSt_h (okSt_t hst)) hst)) hl hlen)
  | pop =>
    obtain ⟨v, r, he_, hv, hs_⟩ := p1_inv hs; clear hs; subst he_; have hs := hs_; clear hs_
    exact lv_pop hx hb (hd (Nat.succ_ne_zero _)) ((cv_cat G v).trans hv) (hn _ _ _ _ _ rfl hs G p l e R s m args below meth c H locs ls Qf S0 hC hK hE hW hS0 hkc hks hL (okSt_t hst) hl hlen)
  | goto off =>
    exact lv_goto (tgt := tg.headD 0) hx hb (hd (Nat.succ_ne_zero _)) (of_decide_eq_true htk) (hj _ _ _ _ _ _ hs G p l e R s m args below meth c H locs ls Qf S0 hC hK hE hW hS0 hkc hks hL hst hl hlen)
  | ifCond cd off =>
    obtain ⟨x, r, he_, hs_⟩ := pI_inv hs; clear hs; subst he_; have hs := hs_; clear hs_
    cases cd with
    | eq => exact lv_if_eq (tgt := tg.headD 0) hx hb (hd (Nat.succ_ne_zero _)) (of_decide_eq_true htk) (fun q => (hj _ _ _ _ _ _ (And.left hs q) G p l e R s m args below meth c H locs ls Qf S0 hC hK hE hW hS0 hkc hks hL (okSt_t hst) hl hlen)) (fun q => (hn _ _ _ _ _ rfl (And.right hs q) G p l e R s m args below meth c H locs ls Qf S0 hC hK hE hW hS0 hkc hks hL (okSt_t hst) hl hlen))
    | ne => exact lv_if_ne (tgt := tg.headD 0) hx hb (hd (Nat.succ_ne_zero _)) (of_decide_eq_true htk) (fun q => (hj _ _ _ _ _ _ (And.left hs q) G p l e R s m args below meth c H locs ls Qf S0 hC hK hE hW hS0 hkc hks hL (okSt_t hst) hl hlen)) (fun q => (hn _ _ _ _ _ rfl (And.right hs (fun z => z q)) G p l e R s m args below meth c H locs ls Qf S0 hC hK hE hW hS0 hkc hks hL (okSt_t hst) hl hlen))
    | lt => exact lv_if_lt (tgt := tg.headD 0) hx hb (hd (Nat.succ_ne_zero _)) (of_decide_eq_true htk) (fun q => (hj _ _ _ _ _ _ (And.left hs q) G p l e R s m args below meth c H locs ls Qf S0 hC hK hE hW hS0 hkc hks hL (okSt_t hst) hl hlen)) (fun q => (hn _ _ _ _ _ rfl (And.right hs q) G p l e R s m args below meth c H locs ls Qf S0 hC hK hE hW hS0 hkc hks hL (okSt_t hst) hl hlen))
    | ge => exact lv_if_ge (tgt := tg.headD 0) hx hb (hd (Nat.succ_ne_zero _)) (of_decide_eq_true htk) (fun q => (hj _ _ _ _ _ _ (And.left hs q) G p l e R s m args below meth c H locs ls Qf S0 hC hK hE hW hS0 hkc hks hL (okSt_t hst) hl hlen)) (fun q => (hn _ _ _ _ _ rfl (And.right hs q) G p l e R s m args below meth c H locs ls Qf S0 hC hK hE hW hS0 hkc hks hL (okSt_t hst) hl hlen))
    | gt => exact lv_if_gt (tgt := tg.headD 0) hx hb (hd (Nat.succ_ne_zero _)) (of_decide_eq_true htk) (fun q => (hj _ _ _ _ _ _ (And.left hs q) G p l e R s m args below meth c H locs ls Qf S0 hC hK hE hW hS0 hkc hks hL (okSt_t hst) hl hlen)) (fun q => (hn _ _ _ _ _ rfl (And.right hs q) G p l e R s m args below meth c H locs ls Qf S0 hC hK hE hW hS0 hkc hks hL (okSt_t hst) hl hlen))
    | le => exact lv_if_le (tgt := tg.headD 0) hx hb (hd (Nat.succ_ne_zero _)) (of_decide_eq_true htk) (fun q => (hj _ _ _ _ _ _ (And.left hs q) G p l e R s m args below meth c H locs ls Qf S0 hC hK hE hW hS0 hkc hks hL (okSt_t hst) hl hlen)) (fun q => (hn _ _ _ _ _ rfl (And.right hs q) G p l e R s m args below meth c H locs ls Qf S0 hC hK hE hW hS0 hkc hks hL (okSt_t hst) hl hlen))
  | if_icmp cd off =>
    obtain ⟨y, r, he_, hs_⟩ := pI_inv hs; clear hs; subst he_; have hs := hs_; clear hs_
    obtain ⟨x, r, he_, hs_⟩ := pI_inv hs; clear hs; subst he_; have hs := hs_; clear hs_
    cases cd with
    | eq => exact lv_icmp_eq (tgt := tg.headD 0) hx hb (hd (Nat.succ_ne_zero _)) (of_decide_eq_true htk) (fun q => (hj _ _ _ _ _ _ (And.left hs q) G p l e R s m args below meth c H locs ls Qf S0 hC hK hE hW hS0 hkc hks hL (okSt_t (okSt_t hst)) hl hlen)) (fun q => (hn _ _ _ _ _ rfl (And.right hs q) G p l e R s m args below meth c H locs ls Qf S0 hC hK hE hW hS0 hkc hks hL (okSt_t (okSt_t hst)) hl hlen))
    | ne => exact lv_icmp_ne (tgt := tg.headD 0) hx hb (hd (Nat.succ_ne_zero _)) (of_decide_eq_true htk) (fun q => (hj _ _ _ _ _ _ (And.left hs q) G p l e R s m args below meth c H locs ls Qf S0 hC hK hE hW hS0 hkc hks hL (okSt_t (okSt_t hst)) hl hlen)) (fun q => (hn _ _ _ _ _ rfl (And.right hs (fun z => z q)) G p l e R s m args below meth c H locs ls Qf S0 hC hK hE hW hS0 hkc hks hL (okSt_t (okSt_t hst)) hl hlen))
    | lt => exact lv_icmp_lt (tgt := tg.headD 0) hx hb (hd (Nat.succ_ne_zero _)) (of_decide_eq_true htk) (fun q => (hj _ _ _ _ _ _ (And.left hs q) G p l e R s m args below meth c H locs ls Qf S0 hC hK hE hW hS0 hkc hks hL (okSt_t (okSt_t hst)) hl hlen)) (fun q => (hn _ _ _ _ _ rfl (And.right hs q) G p l e R s m args below meth c H locs ls Qf S0 hC hK hE hW hS0 hkc hks hL (okSt_t (okSt_t hst)) hl hlen))
    | ge => exact lv_icmp_ge (tgt := tg.headD 0) hx hb (hd (Nat.succ_ne_zero _)) (of_decide_eq_true htk) (fun q => (hj _ _ _ _ _ _ (And.left hs q) G p l e R s m args below meth c H locs ls Qf S0 hC hK hE hW hS0 hkc hks hL (okSt_t (okSt_t hst)) hl hlen)) (fun q => (hn _ _ _ _ _ rfl (And.right hs q) G p l e R s m args below meth c H locs ls Qf S0 hC hK hE hW hS0 hkc hks hL (okSt_t (okSt_t hst)) hl hlen))
    | gt => exact lv_icmp_gt (tgt := tg.headD 0) hx hb (hd (Nat.succ_ne_zero _)) (of_decide_eq_true htk) (fun q => (hj _ _ _ _ _ _ (And.left hs q) G p l e R s m args below meth c H locs ls Qf S0 hC hK hE hW hS0 hkc hks hL (okSt_t (okSt_t hst)) hl hlen)) (fun q => (hn _ _ _ _ _ rfl (And.right hs q) G p l e R s m args below meth c H locs ls Qf S0 hC hK hE hW hS0 hkc hks hL (okSt_t (okSt_t hst)) hl hlen))
    | le => exact lv_icmp_le (tgt := tg.headD 0) hx hb (hd (Nat.succ_ne_zero _)) (of_decide_eq_true htk) (fun q => (hj _ _ _ _ _ _ (And.left hs q) G p l e R s m args below meth c H locs ls Qf S0 hC hK hE hW hS0 hkc hks hL (okSt_t (okSt_t hst)) hl hlen)) (fun q => (hn _ _ _ _ _ rfl (And.right hs q) G p l e R s m args below meth c H locs ls Qf S0 hC hK hE hW hS0 hkc hks hL (okSt_t (okSt_t hst)) hl hlen))
  | ifnull off =>
    obtain ⟨o, r, he_, hs_⟩ := pO_inv hs; clear hs; subst he_; have hs := hs_; clear hs_
    cases o with
    | none => exact lv_ifnullN (tgt := tg.headD 0) hx hb (hd (Nat.succ_ne_zero _)) (of_decide_eq_true htk) (hj _ _ _ _ _ _ (And.left hs rfl) G p l e R s m args below meth c H locs ls Qf S0 hC hK hE hW hS0 hkc hks hL (okSt_t hst) hl hlen)
    | some a => exact lv_ifnull hx hb (hd (Nat.succ_ne_zero _)) (hn _ _ _ _ _ rfl (And.right hs (fun z => by cases z)) G p l e R s m args below meth c H locs ls Qf S0 hC hK hE hW hS0 hkc hks hL (okSt_t hst) hl hlen)
  | ifnonnull off =>
    obtain ⟨o, r, he_, hs_⟩ := pO_inv hs; clear hs; subst he_; have hs := hs_; clear hs_
    cases o with
    | none => exact lv_ifnonnullN hx hb (hd (Nat.succ_ne_zero _)) (hn _ _ _ _ _ rfl (And.left hs rfl) G p l e R s m args below meth c H locs ls Qf S0 hC hK hE hW hS0 hkc hks hL (okSt_t hst) hl hlen)
    | some a => exact lv_ifnonnull (tgt := tg.headD 0) hx hb (hd (Nat.succ_ne_zero _)) (of_decide_eq_true htk) (hj _ _ _ _ _ _ (And.right hs (fun z => by cases z)) G p l e R s m args below meth c H locs ls Qf S0 hC hK hE hW hS0 hkc hks hL (okSt_t hst) hl hlen)
  | tableswitch d lo hi offs =>
    obtain ⟨x, r, he_, hs_⟩ := pI_inv hs; clear hs; subst he_; have hs := hs_; clear hs_
    have htk2 := htk
    simp only [tok, Bool.and_eq_true, decide_eq_true_eq] at htk2
    obtain ⟨⟨⟨t1, t2⟩, t3⟩, t4⟩ := htk2
    by_cases ho : x.toInt < lo ∨ hi < x.toInt
    · exact lv_tableOut (tgt := tg.headD 0) hx hb hd0 ho t1 (hj _ _ _ _ _ _ (And.left hs ho) G p l e R s m args below meth c H locs ls Qf S0 hC hK hE hW hS0 hkc hks hL (okSt_t hst) hl hlen)
    · have h1 : ¬ x.toInt < lo := fun q => ho (Or.inl q)
      have h2 : ¬ hi < x.toInt := fun q => ho (Or.inr q)
      have hk : (x.toInt - lo).toNat < offs.size := by omega
      have hoff : offs[(x.toInt - lo).toNat]? = some offs[(x.toInt - lo).toNat] := Array.getElem?_eq_getElem hk
      have hl3 : tg.tail.length = offs.size := by have := congrArg List.length t3; simp at this; simp; omega
      have hk2 : (x.toInt - lo).toNat < tg.tail.length := by omega
      have ht : (pc : Int) + offs[(x.toInt - lo).toNat] = ((tg.tail[(x.toInt - lo).toNat] : Nat) : Int) := by
        have e1 := congrArg (fun z : List Int => z[(x.toInt - lo).toNat]?) t3
        simp only [List.getElem?_map, Array.getElem?_toList, hoff, Option.map_some] at e1
        rw [List.getElem?_eq_getElem hk2] at e1
        exact Option.some.inj e1
      have hxn : x = nI (lo.toNat + (x.toInt - lo).toNat) := by
        apply Int32.toInt_inj.mp
        rw [nI_toInt (by omega)]
        omega
      have hq2 := swc_get (jp := fun t => jp t L r h kc ks) (And.right hs) (List.getElem?_eq_getElem hk2) hxn
      exact lv_tableIn hx hb hd0 h1 h2 hoff ht (hj _ _ _ _ _ _ hq2 G p l e R s m args below meth c H locs ls Qf S0 hC hK hE hW hS0 hkc hks hL (okSt_t hst) hl hlen)
  | lookupswitch d ps =>
    obtain ⟨x, r, he_, hs_⟩ := pI_inv hs; clear hs; subst he_; have hs := hs_; clear hs_
    have htk2 := htk
    simp only [tok, Bool.and_eq_true, decide_eq_true_eq] at htk2
    obtain ⟨⟨⟨t1, t2⟩, t3⟩, t4⟩ := htk2
    obtain ⟨off, tgt, e1, e2, e3⟩ := lks_get t1 ps.toList tg.tail t3 (fun q hq => of_decide_eq_true (List.all_eq_true.mp t4 q hq)) hs
    exact lv_lookup hx hb hd0 t2 e1 e2 (hj _ _ _ _ _ _ e3 G p l e R s m args below meth c H locs ls Qf S0 hC hK hE hW hS0 hkc hks hL (okSt_t hst) hl hlen)
  | getfield i =>
    cases hf : lkp (mF M) i with
    | none => simp only [stp, hf] at hs
    | some f =>
      simp only [stp, hf] at hs
      obtain ⟨hob, hfl, hlink⟩ := hM.2.1 (i, f) (lkp_mem hf)
      obtain ⟨v, a, r, he_, hs_, hv⟩ := pX_inv hs; clear hs; subst he_; have hs := hs_; clear hs_
      have hmem : (f.1, a) ∈ idx h ∧ cv G v = .ref (adr G f.1 a) ∧ ((f.1, a) ∈ fixed ∨ f.1 = 18) := by
        rcases hv with hv | ⟨h18, hv⟩
        · subst hv
          exact ⟨idx_fx (okSt_h hst), rfl, Or.inl (okSt_h hst)⟩
        · subst hv
          rw [h18]
          exact ⟨idx_sh (okSt_h hst), rfl, Or.inr rfl⟩
      obtain ⟨hm1, hm2, hm3⟩ := hmem
      obtain ⟨j, hjj, hw⟩ := wl_get (G := G) hm1
      rw [cell_ob G h a hob] at hw
      obtain ⟨C, hcl, hin⟩ := ob_cls h a hob
      have key : ∀ v' : AV, fval G h f.1 a f.2.1 f.2.2 = cv G v' → okv h v' → nx L (v' :: r) h kc ks → W p l e R s m args below meth c H locs kc ks Qf (F0 m pc ls (List.map (cv G) (v :: r))) := by
        intro v' e1 e2 e3
        rw [List.map_cons, hm2]
        exact va_get (D := (G.1, G.2.1)) (cl := classes) hx hb hts hin hown hK.1 hP j hw hcl f.2.1 (fl_lt hfl) (hts _ hlink) (fun _ h9 => h9) ((flds_get hfl).trans (congrArg some e1)) (hd (Nat.succ_ne_zero _)) (hn _ _ _ _ _ rfl e3 G p l e R s m args below meth c H locs ls Qf S0 hC hK hE hW hS0 hkc hks hL (okSt_c e2 (okSt_t hst)) hl hlen)
      split at hs
      · rename_i hk1
        exact key (aR f.2.2.2.1 (a + f.2.2.2.2)) (by unfold fval; rw [hk1]; rfl) (fl_link hob hfl hk1 hm3) hs
      · rename_i hk1
        refine key (aS (h.2.1 f.1 a f.2.1)) (by unfold fval; rw [hk1]; rfl) ?_ hs
        show okv h (aS (h.2.1 f.1 a f.2.1))
        cases ho : h.2.1 f.1 a f.2.1 with
        | none => trivial
        | some z => exact hokh _ _ _ _ ho
      · rename_i hk1 hk2
        exact key (aI (h.1 f.1 a f.2.1)) (by unfold fval; split <;> first | rfl | contradiction) trivial hs
  | putfield i =>
    cases hf : lkp (mF M) i with
    | none => simp only [stp, hf] at hs
    | some f =>
      simp only [stp, hf] at hs
      obtain ⟨hob, hfl, hlink⟩ := hM.2.1 (i, f) (lkp_mem hf)
      have recv : ∀ {v : AV} {a : Nat} {r : List AV}, f.1 ≠ 18 → okSt h (v :: r) → (v = aR f.1 a ∨ f.1 = 18 ∧ v = aS (some a)) → (f.1, a) ∈ fixed ∧ cv G v = .ref (adr G f.1 a) := by
        intro v a r h18 ho hv
        rcases hv with hv | ⟨h, hv⟩
        · subst hv
          exact ⟨okSt_h ho, rfl⟩
        · exact absurd h h18
      split at hs
      · rename_i hk1
        obtain ⟨x, r, he_, hs_⟩ := pI_inv hs; clear hs; subst he_; have hs := hs_; clear hs_
        obtain ⟨v, a, r, he_, hs_, hv⟩ := pX_inv hs; clear hs; subst he_; have hs := hs_; clear hs_
        obtain ⟨hne, hs⟩ := tif_inv hs
        have h18 : f.1 ≠ 18 := fun e => by rw [e] at hne; cases hne
        obtain ⟨hm1, hm2⟩ := recv h18 (okSt_t hst) hv
        obtain ⟨j, hjj, hw⟩ := wl_get (G := G) (idx_fx (h := h) hm1)
        rw [cell_ob G h a hob] at hw
        obtain ⟨C, hcl, hin⟩ := ob_cls h a hob
        obtain ⟨ty0, hty, hnm⟩ := ob_put (isob4 hob h18)
        obtain ⟨hfin, hdesc⟩ := tblI f.1 (isob4 hob h18) f.2.1 (fl23 hfl) (by rw [hfl]; simp [hk1])
        have hlf : f.2.1 < (flds G h f.1 a).length := by unfold flds; simp; exact fl_lt hfl
        rw [List.map_cons, List.map_cons, hm2]
        exact va_put (D := (G.1, G.2.1)) (cl := classes) hx hb hts hin ty0 hty hnm hown hK.1 hP hD hS j hw hcl f.2.1 (fl_lt hfl) (hts _ hlink) (fun _ h9 => h9) hfin hdesc rfl rfl hlf (hd (Nat.succ_ne_zero _)) (fun H1 locs1 hP1 hD1 hS1 => (hn _ _ _ _ _ rfl hs G p l e R s m args below meth c H1 locs1 ls Qf S0 hC hK hE (Wd_wI hokh h18 hjj hD (by rw [cell_ob G _ a hob, ocl_wI h18, flds_wI hfl (by rw [hk1]; decide) (by rw [hk1]; decide)]; rfl) hP1 hD1 hS1) hS0 hkc hks hL (okSt_t (okSt_t hst)) hl hlen))
      · rename_i hk1
        obtain ⟨x, r, he_, hs_⟩ := pI_inv hs; clear hs; subst he_; have hs := hs_; clear hs_
        obtain ⟨v, a, r, he_, hs_, hv⟩ := pX_inv hs; clear hs; subst he_; have hs := hs_; clear hs_
        obtain ⟨hne, h01, hs⟩ := tif_inv hs
        have h18 : f.1 ≠ 18 := fun e => by rw [e] at hne; cases hne
        obtain ⟨hm1, hm2⟩ := recv h18 (okSt_t hst) hv
        obtain ⟨j, hjj, hw⟩ := wl_get (G := G) (idx_fx (h := h) hm1)
        rw [cell_ob G h a hob] at hw
        obtain ⟨C, hcl, hin⟩ := ob_cls h a hob
        obtain ⟨ty0, hty, hnm⟩ := ob_put (isob4 hob h18)
        obtain ⟨hfin, hdesc⟩ := tblZ f.1 (isob4 hob h18) f.2.1 (fl23 hfl) (by rw [hfl]; simp [hk1])
        have hlf : f.2.1 < (flds G h f.1 a).length := by unfold flds; simp; exact fl_lt hfl
        rw [List.map_cons, List.map_cons, hm2]
        exact va_put (D := (G.1, G.2.1)) (cl := classes) hx hb hts hin ty0 hty hnm hown hK.1 hP hD hS j hw hcl f.2.1 (fl_lt hfl) (hts _ hlink) (fun _ h9 => h9) hfin hdesc (nar01 h01).1 (nar01 h01).2.1 hlf (hd (Nat.succ_ne_zero _)) (fun H1 locs1 hP1 hD1 hS1 => (hn _ _ _ _ _ rfl hs G p l e R s m args below meth c H1 locs1 ls Qf S0 hC hK hE (Wd_wI hokh h18 hjj hD (by rw [cell_ob G _ a hob, ocl_wI h18, flds_wI hfl (by rw [hk1]; decide) (by rw [hk1]; decide)]; rfl) hP1 hD1 hS1) hS0 hkc hks hL (okSt_t (okSt_t hst)) hl hlen))
      · rename_i hk1
        obtain ⟨o, r, he_, hs_⟩ := pO_inv hs; clear hs; subst he_; have hs := hs_; clear hs_
        obtain ⟨v, a, r, he_, hs_, hv⟩ := pX_inv hs; clear hs; subst he_; have hs := hs_; clear hs_
        obtain ⟨hne, hs⟩ := tif_inv hs
        have h18 : f.1 ≠ 18 := fun e => by rw [e] at hne; cases hne
        obtain ⟨hm1, hm2⟩ := recv h18 (okSt_t hst) hv
        obtain ⟨j, hjj, hw⟩ := wl_get (G := G) (idx_fx (h := h) hm1)
        rw [cell_ob G h a hob] at hw
        obtain ⟨C, hcl, hin⟩ := ob_cls h a hob
        obtain ⟨ty0, hty, hnm⟩ := ob_put (isob4 hob h18)
        obtain ⟨hfin, hdesc⟩ := tblR f.1 (isob4 hob h18) f.2.1 (fl23 hfl) (by rw [hfl]; simp [hk1])
        have hlf : f.2.1 < (flds G h f.1 a).length := by unfold flds; simp; exact fl_lt hfl
        rw [List.map_cons, List.map_cons, hm2]
        exact va_put (D := (G.1, G.2.1)) (cl := classes) hx hb hts hin ty0 hty hnm hown hK.1 hP hD hS j hw hcl f.2.1 (fl_lt hfl) (hts _ hlink) (fun _ h9 => h9) hfin hdesc (by cases o <;> rfl) (by cases o <;> rfl) hlf (hd (Nat.succ_ne_zero _)) (fun H1 locs1 hP1 hD1 hS1 => (hn _ _ _ _ _ rfl hs G p l e R s m args below meth c H1 locs1 ls Qf S0 hC hK hE (Wd_wR hokh (okSt_h hst) hjj hD (by rw [cell_ob G _ a hob, flds_wR hfl hk1]; rfl) hP1 hD1 hS1) hS0 hkc hks hL (okSt_t (okSt_t hst)) hl hlen))
      · exact hs.elim
  | iaload =>
    obtain ⟨i, r, he_, hs_⟩ := pI_inv hs; clear hs; subst he_; have hs := hs_; clear hs_
    obtain ⟨t, a, r, he_, hs_⟩ := pR_inv hs; clear hs; subst he_; have hs := hs_; clear hs_
    obtain ⟨hk, hin, hs⟩ := tif_inv hs
    have hk := Nat.eq_of_beq_eq_true hk
    have hm : (t, a) ∈ fixed := okSt_h (okSt_t hst)
    obtain ⟨j, hjj, hw⟩ := wl_get (G := G) (idx_fx (h := h) hm)
    rw [cell_a0 hk] at hw
    obtain ⟨t0, ht0⟩ := ty_get (G := G) (ty := .int) hm (by unfold aty; rw [hk]; rfl)
    exact va_iald (D := (G.1, G.2.1)) (cl := classes) hx hb hK.1 hP j t0 hw ht0 (inR_vp hin) (hd (Nat.succ_ne_zero _)) (hn _ _ _ _ _ rfl hs G p l e R s m args below meth c H locs ls Qf S0 hC hK hE hW hS0 hkc hks hL (okSt_i (okSt_t (okSt_t hst))) hl hlen)
  | baload =>
    obtain ⟨i, r, he_, hs_⟩ := pI_inv hs; clear hs; subst he_; have hs := hs_; clear hs_
    obtain ⟨t, a, r, he_, hs_⟩ := pR_inv hs; clear hs; subst he_; have hs := hs_; clear hs_
    obtain ⟨hk, hin, hs⟩ := tif_inv hs
    have hk := Nat.eq_of_beq_eq_true hk
    have hm : (t, a) ∈ fixed := okSt_h (okSt_t hst)
    obtain ⟨j, hjj, hw⟩ := wl_get (G := G) (idx_fx (h := h) hm)
    rw [cell_a1 hk] at hw
    obtain ⟨t0, ht0⟩ := ty_get (G := G) (ty := .boolean) hm (by unfold aty; rw [hk]; rfl)
    exact va_zald (D := (G.1, G.2.1)) (cl := classes) hx hb hK.1 hP j t0 hw ht0 (inR_vp hin) (hd (Nat.succ_ne_zero _)) (hn _ _ _ _ _ rfl hs G p l e R s m args below meth c H locs ls Qf S0 hC hK hE hW hS0 hkc hks hL (okSt_i (okSt_t (okSt_t hst))) hl hlen)
  | aaload =>
    obtain ⟨i, r, he_, hs_⟩ := pI_inv hs; clear hs; subst he_; have hs := hs_; clear hs_
    obtain ⟨t, a, r, he_, hs_⟩ := pR_inv hs; clear hs; subst he_; have hs := hs_; clear hs_
    have hm : (t, a) ∈ fixed := okSt_h (okSt_t hst)
    obtain ⟨j, hjj, hw⟩ := wl_get (G := G) (idx_fx (h := h) hm)
    split at hs
    · rename_i hk
      obtain ⟨hin, hs⟩ := hs
      rw [cell_a2 hk] at hw
      obtain ⟨t0, ht0⟩ := ty_get (G := G) (ty := .object RX4) hm (by unfold aty; rw [hk]; rfl)
      refine va_aldq (D := (G.1, G.2.1)) (cl := classes) hx hb hK.1 hP j t0 hw ht0 (inR_vp hin) (hd (Nat.succ_ne_zero _)) (hn _ _ _ _ _ rfl hs G p l e R s m args below meth c H locs ls Qf S0 hC hK hE hW hS0 hkc hks hL (okSt_c ?_ (okSt_t (okSt_t hst))) hl hlen)
      show okv h (aS (h.2.1 t a i.toNatClampNeg))
      cases ho : h.2.1 t a i.toNatClampNeg with
      | none => trivial
      | some z => exact hokh _ _ _ _ ho
    · rename_i hk
      obtain ⟨hin, hs⟩ := hs
      rw [cell_a3 hk] at hw
      obtain ⟨t0, ht0⟩ := ty_get (G := G) (ty := .object RX5) hm (by unfold aty; rw [hk]; rfl)
      have h8 := kin3 t (fixed_mem.mp hm).1 hk
      have hi8 : i.toNatClampNeg < 8 := by have h1 := inR_vp hin; rw [h8] at h1; exact Nat.not_le.mp (fun q => h1 (Or.inr q))
      exact va_aldq (D := (G.1, G.2.1)) (cl := classes) hx hb hK.1 hP j t0 hw ht0 (inR_vp hin) (hd (Nat.succ_ne_zero _)) (hn _ _ _ _ _ rfl hs G p l e R s m args below meth c H locs ls Qf S0 hC hK hE hW hS0 hkc hks hL (okSt_c (show okv h (aR 12 i.toNatClampNeg) from fixed_mem.mpr ⟨by decide, hi8⟩) (okSt_t (okSt_t hst))) hl hlen)
    · exact hs.elim
  | iastore =>
    obtain ⟨x, r, he_, hs_⟩ := pI_inv hs; clear hs; subst he_; have hs := hs_; clear hs_
    obtain ⟨i, r, he_, hs_⟩ := pI_inv hs; clear hs; subst he_; have hs := hs_; clear hs_
    obtain ⟨t, a, r, he_, hs_⟩ := pR_inv hs; clear hs; subst he_; have hs := hs_; clear hs_
    obtain ⟨hk, hin, hs⟩ := tif_inv hs
    have hk := Nat.eq_of_beq_eq_true hk
    have hm : (t, a) ∈ fixed := okSt_h (okSt_t (okSt_t hst))
    obtain ⟨j, hjj, hw⟩ := wl_get (G := G) (idx_fx (h := h) hm)
    rw [cell_a0 hk] at hw
    obtain ⟨t0, ht0⟩ := ty_get (G := G) (ty := .int) hm (by unfold aty; rw [hk]; rfl)
    exact va_iast (D := (G.1, G.2.1)) (cl := classes) hx hb hK.1 hP hD hS j t0 hw ht0 (inR_vp hin) (hd (Nat.succ_ne_zero _)) (fun H1 locs1 hP1 hD1 hS1 => (hn _ _ _ _ _ rfl hs G p l e R s m args below meth c H1 locs1 ls Qf S0 hC hK hE (Wd_wI hokh (kin18 t (fixed_mem.mp hm).1 (by omega)) hjj hD (by rw [cell_a0 hk]; show _ = Sum.inl (_, _, Sum.inl (uI h.1 t a i.toNatClampNeg x t a)); rw [upd_uI] <;> rfl) hP1 hD1 hS1) hS0 hkc hks hL (okSt_t (okSt_t (okSt_t hst))) hl hlen))
  | bastore =>
    obtain ⟨x, r, he_, hs_⟩ := pI_inv hs; clear hs; subst he_; have hs := hs_; clear hs_
    obtain ⟨i, r, he_, hs_⟩ := pI_inv hs; clear hs; subst he_; have hs := hs_; clear hs_
    obtain ⟨t, a, r, he_, hs_⟩ := pR_inv hs; clear hs; subst he_; have hs := hs_; clear hs_
    obtain ⟨hk, hin, h01, hs⟩ := tif_inv hs
    have hk := Nat.eq_of_beq_eq_true hk
    have hm : (t, a) ∈ fixed := okSt_h (okSt_t (okSt_t hst))
    obtain ⟨j, hjj, hw⟩ := wl_get (G := G) (idx_fx (h := h) hm)
    rw [cell_a1 hk] at hw
    obtain ⟨t0, ht0⟩ := ty_get (G := G) (ty := .boolean) hm (by unfold aty; rw [hk]; rfl)
    exact va_zast (D := (G.1, G.2.1)) (cl := classes) hx hb hK.1 hP hD hS j t0 hw ht0 (inR_vp hin) (hd (Nat.succ_ne_zero _)) (fun H1 locs1 hP1 hD1 hS1 => (hn _ _ _ _ _ rfl hs G p l e R s m args below meth c H1 locs1 ls Qf S0 hC hK hE (Wd_wI hokh (kin18 t (fixed_mem.mp hm).1 (by omega)) hjj hD (by rw [cell_a1 hk, (nar01 h01).2.2]; show _ = Sum.inl (_, _, Sum.inl (uI h.1 t a i.toNatClampNeg x t a)); rw [upd_uI] <;> rfl) hP1 hD1 hS1) hS0 hkc hks hL (okSt_t (okSt_t (okSt_t hst))) hl hlen))
  | aastore =>
    obtain ⟨o, r, he_, hs_⟩ := pO_inv hs; clear hs; subst he_; have hs := hs_; clear hs_
    obtain ⟨i, r, he_, hs_⟩ := pI_inv hs; clear hs; subst he_; have hs := hs_; clear hs_
    obtain ⟨t, a, r, he_, hs_⟩ := pR_inv hs; clear hs; subst he_; have hs := hs_; clear hs_
    obtain ⟨hk, hin, hs⟩ := tif_inv hs
    have hk := Nat.eq_of_beq_eq_true hk
    have hm : (t, a) ∈ fixed := okSt_h (okSt_t (okSt_t hst))
    obtain ⟨j, hjj, hw⟩ := wl_get (G := G) (idx_fx (h := h) hm)
    rw [cell_a2 hk] at hw
    obtain ⟨t0, ht0⟩ := ty_get (G := G) (ty := .object RX4) hm (by unfold aty; rw [hk]; rfl)
    cases o with
    | none => exact va_astqN (D := (G.1, G.2.1)) (cl := classes) hx hb hK.1 hP hD hS j t0 hw ht0 (inR_vp hin) (hd (Nat.succ_ne_zero _)) (fun H1 locs1 hP1 hD1 hS1 => (hn _ _ _ _ _ rfl hs G p l e R s m args below meth c H1 locs1 ls Qf S0 hC hK hE (Wd_wR hokh (okSt_h hst) hjj hD (by rw [cell_a2 hk]; show _ = Sum.inl (_, _, Sum.inr (Sum.inr (Sum.inr (Sum.inr (uR h.2.1 t a i.toNatClampNeg _ t a))))); rw [upd_uR] <;> rfl) hP1 hD1 hS1) hS0 hkc hks hL (okSt_t (okSt_t (okSt_t hst))) hl hlen))
    | some b =>
      have hmb : b ∈ h.2.2 := okSt_h hst
      obtain ⟨j2, hj2, hw2⟩ := wl_get (G := G) (idx_sh hmb)
      rw [cell_ob G h b rfl] at hw2
      obtain ⟨C, hcl, hca⟩ := sh_cast (h.1 18 b 0)
      rcases hca with hca | hca
      · subst hca
        exact va_astq (D := (G.1, G.2.1)) (cl := classes) (r := (RX4, TX4, 7)) hx hb hK.1 hP hD hS j t0 j2 _ hw ht0 hw2 hcl (inR_vp hin) (hd (Nat.succ_ne_zero _)) (fun H1 locs1 hP1 hD1 hS1 => (hn _ _ _ _ _ rfl hs G p l e R s m args below meth c H1 locs1 ls Qf S0 hC hK hE (Wd_wR hokh (okSt_h hst) hjj hD (by rw [cell_a2 hk]; show _ = Sum.inl (_, _, Sum.inr (Sum.inr (Sum.inr (Sum.inr (uR h.2.1 t a i.toNatClampNeg _ t a))))); rw [upd_uR] <;> rfl) hP1 hD1 hS1) hS0 hkc hks hL (okSt_t (okSt_t (okSt_t hst))) hl hlen))
      · exact va_astqO (D := (G.1, G.2.1)) (cl := classes) (r := (C, TX4, 7)) hx hb hK.1 hP hD hS j t0 j2 _ hw ht0 (hK.2.2 _ hca) hw2 hcl (inR_vp hin) (hd (Nat.succ_ne_zero _)) (fun H1 locs1 hP1 hD1 hS1 => (hn _ _ _ _ _ rfl hs G p l e R s m args below meth c H1 locs1 ls Qf S0 hC hK hE (Wd_wR hokh (okSt_h hst) hjj hD (by rw [cell_a2 hk]; show _ = Sum.inl (_, _, Sum.inr (Sum.inr (Sum.inr (Sum.inr (uR h.2.1 t a i.toNatClampNeg _ t a))))); rw [upd_uR] <;> rfl) hP1 hD1 hS1) hS0 hkc hks hL (okSt_t (okSt_t (okSt_t hst))) hl hlen))
  | arraylength =>
    have hs : pR st (fun t _ st => tif (Nat.ble (akin t) 3) (nx L (aI (nI (alen t)) :: st) h kc ks)) := hs
    obtain ⟨t, a, r, he_, hs_⟩ := pR_inv hs; clear hs; subst he_; have hs := hs_; clear hs_
    obtain ⟨hk, hs⟩ := tif_inv hs
    have hk := Nat.le_of_ble_eq_true hk
    have hm : (t, a) ∈ fixed := okSt_h hst
    obtain ⟨j, hjj, hw⟩ := wl_get (G := G) (idx_fx (h := h) hm)
    have hk4 : akin t = 0 ∨ akin t = 1 ∨ akin t = 2 ∨ akin t = 3 := by omega
    rcases hk4 with hk | hk | hk | hk
    · rw [cell_a0 hk] at hw
      obtain ⟨t0, ht0⟩ := ty_get (G := G) (ty := .int) hm (by unfold aty; rw [hk]; rfl)
      exact va_alen (D := (G.1, G.2.1)) (cl := classes) hx hb hK.1 hP j t0 hw ht0 rfl (hd (Nat.succ_ne_zero _)) (hn _ _ _ _ _ rfl hs G p l e R s m args below meth c H locs ls Qf S0 hC hK hE hW hS0 hkc hks hL (okSt_i (okSt_t hst)) hl hlen)
    · rw [cell_a1 hk] at hw
      obtain ⟨t0, ht0⟩ := ty_get (G := G) (ty := .boolean) hm (by unfold aty; rw [hk]; rfl)
      exact va_alen (D := (G.1, G.2.1)) (cl := classes) hx hb hK.1 hP j t0 hw ht0 rfl (hd (Nat.succ_ne_zero _)) (hn _ _ _ _ _ rfl hs G p l e R s m args below meth c H locs ls Qf S0 hC hK hE hW hS0 hkc hks hL (okSt_i (okSt_t hst)) hl hlen)
    · rw [cell_a2 hk] at hw
      obtain ⟨t0, ht0⟩ := ty_get (G := G) (ty := .object RX4) hm (by unfold aty; rw [hk]; rfl)
      exact va_alen (D := (G.1, G.2.1)) (cl := classes) hx hb hK.1 hP j t0 hw ht0 rfl (hd (Nat.succ_ne_zero _)) (hn _ _ _ _ _ rfl hs G p l e R s m args below meth c H locs ls Qf S0 hC hK hE hW hS0 hkc hks hL (okSt_i (okSt_t hst)) hl hlen)
    · rw [cell_a3 hk] at hw
      obtain ⟨t0, ht0⟩ := ty_get (G := G) (ty := .object RX5) hm (by unfold aty; rw [hk]; rfl)
      exact va_alen (D := (G.1, G.2.1)) (cl := classes) hx hb hK.1 hP j t0 hw ht0 rfl (hd (Nat.succ_ne_zero _)) (hn _ _ _ _ _ rfl hs G p l e R s m args below meth c H locs ls Qf S0 hC hK hE hW hS0 hkc hks hL (okSt_i (okSt_t hst)) hl hlen)
  | invokevirtual i =>
    cases hf : lkp (mCs M) (3 * i) with
    | none => simp only [stp, hf] at hs
    | some ce =>
      simp only [stp, hf] at hs
      obtain ⟨r1, r2, hcr⟩ := hM.2.2.2.2 (3 * i, ce) (lkp_mem hf)
      have hki : kIns (3 * i) = .invokevirtual i := by unfold kIns; rw [show (3 * i) % 3 = 0 by omega, show (3 * i) / 3 = i by omega]; rfl
      rw [hki] at hcr
      exact cll_sound hcr r1 r2 (hd (Nat.succ_ne_zero _)) hs (fun st h kc ks q => hn _ _ _ _ _ rfl q) G p l e R s m args below meth c H locs ls Qf S0 hC hK hE hW hS0 hkc hks hL hst hl hlen
  | invokestatic i =>
    cases hf : lkp (mCs M) (3 * i + 1) with
    | none => simp only [stp, hf] at hs
    | some ce =>
      simp only [stp, hf] at hs
      obtain ⟨r1, r2, hcr⟩ := hM.2.2.2.2 (3 * i + 1, ce) (lkp_mem hf)
      have hki : kIns (3 * i + 1) = .invokestatic i := by unfold kIns; rw [show (3 * i + 1) % 3 = 1 by omega, show (3 * i + 1) / 3 = i by omega]; rfl
      rw [hki] at hcr
      exact cll_sound hcr r1 r2 (hd (Nat.succ_ne_zero _)) hs (fun st h kc ks q => hn _ _ _ _ _ rfl q) G p l e R s m args below meth c H locs ls Qf S0 hC hK hE hW hS0 hkc hks hL hst hl hlen
  | invokespecial i =>
    cases hf : lkp (mCs M) (3 * i + 2) with
    | none => simp only [stp, hf] at hs
    | some ce =>
      simp only [stp, hf] at hs
      obtain ⟨r1, r2, hcr⟩ := hM.2.2.2.2 (3 * i + 2, ce) (lkp_mem hf)
      have hki : kIns (3 * i + 2) = .invokespecial i := by unfold kIns; rw [show (3 * i + 2) % 3 = 2 by omega, show (3 * i + 2) / 3 = i by omega]; rfl
      rw [hki] at hcr
      exact cll_sound hcr r1 r2 (hd (Nat.succ_ne_zero _)) hs (fun st h kc ks q => hn _ _ _ _ _ rfl q) G p l e R s m args below meth c H locs ls Qf S0 hC hK hE hW hS0 hkc hks hL hst hl hlen
  | ireturn =>
    match Q, hE, hs with
    | .inl q, hE, hs => match st, hs with
      | [.inl x], hs => exact hE x h H locs kc ks pc ls (hd (Nat.succ_ne_zero _)) hs hW hS0 hkc hks
  | return_ =>
    match Q, hE, hs with
    | .inr (.inl q), hE, hs => match st, hs with
      | [], hs => exact hE h H locs kc ks pc ls (hd (Nat.succ_ne_zero _)) hs hW hS0 hkc hks
  | lreturn =>
    match Q, hE, hs with
    | .inr (.inr (.inl q)), hE, hs => match st, hs with
      | [.inr (.inl x)], hs => exact hE x h H locs kc ks pc ls (hd (Nat.succ_ne_zero _)) hs hW hS0 hkc hks
  | areturn =>
    match Q, hE, hs with
    | .inr (.inr (.inr q)), hE, hs => match st, hs, hst with
      | [.inr (.inr (.inr x))], hs, hst => exact hE x h H locs kc ks pc ls (hd (Nat.succ_ne_zero _)) hs (okSt_h hst) hW hS0 hkc hks
  | _ => exact (show False from hs).elim

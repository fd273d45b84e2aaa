/-! ===== the run of a method is sound ===== -/
theorem msk_nth {L : LSt} : ∀ {b : List Bool} {i : Nat} {v : AV}, nth (msk b L) i = some v → nth L i = some v := by
  induction L with
  | nil => intro b i v h; cases b <;> exact h
  | cons a l ih =>
    intro b i v h
    cases b with
    | nil => exact h
    | cons c bs =>
      cases i with
      | zero =>
        cases c with
        | true => exact h
        | false => cases h
      | succ i => exact ih h
theorem msk_len {L : LSt} : ∀ {b : List Bool}, (msk b L).length = L.length := by
  induction L with
  | nil => intro b; cases b <;> rfl
  | cons a l ih =>
    intro b
    cases b with
    | nil => rfl
    | cons c bs => exact congrArg (· + 1) ih
theorem AW_mask {M : MI} {Q : RQ} {pc : Nat} {b : List Bool} {L : LSt} {st : List AV} {h : AH} {kc ks : Nat} (k : AW M Q pc (msk b L) st h kc ks) : AW M Q pc L st h kc ks := by
  intro G p l e R s m args below meth c H locs ls Qf S0 hC hK hE hW hS0 hkc hks hL hst hl hlen
  refine k G p l e R s m args below meth c H locs ls Qf S0 hC hK hE hW hS0 hkc hks (fun i v hv => hL i v (msk_nth hv)) hst ⟨hl.1, hl.2.1, fun q hq => hl.2.2 q ?_⟩ (msk_len.trans hlen)
  obtain ⟨v, h1, h2⟩ := cvL_mem.mp hq
  exact cvL_mem.mpr ⟨v, msk_nth h1, h2⟩
theorem ctg_sound {M : MI} {Q : RQ} {cuts : List (Nat × List Bool)} {g : List (Nat × Instr × List Nat) → LSt → List AV → AH → Nat → Nat → Prop} (hg : ∀ q r, (∃ pre, mCode M = pre ++ q :: r) → ∀ L st h kc ks, g (q :: r) L st h kc ks → AW M Q q.1 L st h kc ks)
    {r : List (Nat × Instr × List Nat)} (hr : ∃ pre, mCode M = pre ++ r) {L : LSt} {st : List AV} {h : AH} {kc ks : Nat} (k : ctg M Q cuts g r L st h kc ks) : ∃ q r', r = q :: r' ∧ AW M Q q.1 L st h kc ks := by
  cases r with
  | nil => exact k.elim
  | cons q r' =>
    refine ⟨q, r', rfl, ?_⟩
    unfold ctg at k
    simp only at k
    split at k
    · exact AW_mask k
    · exact hg q r' hr L st h kc ks k
theorem frm_suf : ∀ (l : List (Nat × Instr × List Nat)) (t : Nat), (∃ pre, l = pre ++ frm l t) ∧ ∀ q r, frm l t = q :: r → q.1 = t
  | [], t => ⟨⟨[], rfl⟩, fun q r h => by cases h⟩
  | a :: l, t => by
    unfold frm
    cases hb : Nat.beq a.1 t with
    | true => exact ⟨⟨[], rfl⟩, fun q r h => by cases h; exact Nat.eq_of_beq_eq_true hb⟩
    | false =>
      obtain ⟨⟨pre, h1⟩, h2⟩ := frm_suf l t
      exact ⟨⟨a :: pre, congrArg (a :: ·) h1⟩, h2⟩
theorem go_sound {M : MI} {Q : RQ} {cuts : List (Nat × List Bool)} (hM : MOK M) : ∀ (n : Nat) (q : Nat × Instr × List Nat) (r : List (Nat × Instr × List Nat)), (∃ pre, mCode M = pre ++ q :: r) → ∀ L st h kc ks, go M Q cuts n (q :: r) L st h kc ks → AW M Q q.1 L st h kc ks := by
  intro n
  induction n with
  | zero => intro q r _ L st h kc ks k; exact k.elim
  | succ n ih =>
    intro q r hp L st h kc ks k
    obtain ⟨pre, hpre⟩ := hp
    have k : stp M Q (ctg M Q cuts (go M Q cuts n) r) (fun t => ctg M Q cuts (go M Q cuts n) (frm (mCode M) t)) q.2.1 q.2.2 L st h kc ks := k
    refine stp_sound (pc := q.1) hM (by rw [hpre]; exact List.mem_append_right _ List.mem_cons_self) ?_ ?_ k
    · intro L st h kc ks hf k
      obtain ⟨q', r', e, k2⟩ := ctg_sound ih ⟨pre ++ [q], by rw [hpre]; simp⟩ k
      rw [e] at hpre
      rw [← cok_next hM.1 hpre hf]
      exact k2
    · intro t L st h kc ks k
      obtain ⟨h1, h2⟩ := frm_suf (mCode M) t
      obtain ⟨q', r', e, k⟩ := ctg_sound ih h1 k
      rw [h2 q' r' e] at k
      exact k
/-- a method's state, from its run up to the cuts -/
theorem AW_go {M : MI} {Q : RQ} {cuts : List (Nat × List Bool)} (hM : MOK M) (n : Nat) {pc : Nat} {L : LSt} {st : List AV} {h : AH} {kc ks : Nat} (k : go M Q cuts n (frm (mCode M) pc) L st h kc ks) : AW M Q pc L st h kc ks := by
  obtain ⟨h1, h2⟩ := frm_suf (mCode M) pc
  cases hf : frm (mCode M) pc with
  | nil =>
    rw [hf] at k
    cases n <;> exact k.elim
  | cons q r =>
    rw [hf] at k h1
    have := go_sound hM n q r h1 L st h kc ks k
    rw [h2 q r hf] at this
    exact this
/-! ===== a method's contract ===== -/
def ini : List AV → LSt
  | [] => []
  | v :: r => match acat v with
    | 2 => some v :: none :: ini r
    | _ => some v :: ini r
def padL (L : LSt) : Nat → LSt
  | 0 => L
  | n + 1 => padL (L ++ [none]) n
def initL (nL : Nat) (as : List AV) : LSt := ini as ++ List.replicate (nL - (ini as).length) none
theorem nth_app {L : LSt} {n i : Nat} {v : AV} (h : nth (L ++ List.replicate n none) i = some v) : nth L i = some v := by
  induction L generalizing i with
  | nil =>
    exfalso
    have : ∀ (n i : Nat), nth (List.replicate n none) i = none := by
      intro n
      induction n with
      | zero => intro i; cases i <;> rfl
      | succ n ih => intro i; cases i with
        | zero => rfl
        | succ i => exact ih i
    rw [List.nil_append, this] at h
    cases h
  | cons a l ih =>
    cases i with
    | zero => exact h
    | succ i => exact ih h
theorem ini_args (G : GL) : ∀ (as : List AV) (k i : Nat) (v : AV), nth (ini as) i = some v → (k + i, cv G v) ∈ lv_args k (as.map (cv G))
  | [], _, _, _, h => by cases h
  | a :: as, k, i, v, h => by
    have hc := cv_cat G a
    rcases (show acat a = 2 ∨ acat a = 1 by unfold acat; split <;> simp) with h2 | h1
    · have e : ini (a :: as) = some a :: none :: ini as := by rw [ini, h2] <;> rfl
      rw [e] at h
      rw [List.map_cons]
      unfold lv_args
      rw [hc, h2]
      match i, h with
      | 0, h => cases h; exact List.mem_cons_self
      | 1, h => cases h
      | i + 2, h =>
        refine List.mem_cons_of_mem _ ?_
        have := ini_args G as (k + 2) i v h
        rw [show k + (i + 2) = k + 2 + i by omega]
        exact this
    · have e : ini (a :: as) = some a :: ini as := by rw [ini, h1] <;> rfl
      rw [e] at h
      rw [List.map_cons]
      unfold lv_args
      rw [hc, h1]
      match i, h with
      | 0, h => cases h; exact List.mem_cons_self
      | i + 1, h =>
        refine List.mem_cons_of_mem _ ?_
        have := ini_args G as (k + 1) i v h
        rw [show k + (i + 1) = k + 1 + i by omega]
        exact this
theorem ini_len (G : GL) (as : List AV) : (lg_sl (as.map (cv G))).length = (ini as).length := by
  induction as with
  | nil => rfl
  | cons a as ih =>
    rcases (show acat a = 2 ∨ acat a = 1 by unfold acat; split <;> simp) with h2 | h1
    · have e : ini (a :: as) = some a :: none :: ini as := by rw [ini, h2] <;> rfl
      rw [e, List.map_cons]
      have e2 : lg_sl (cv G a :: as.map (cv G)) = (if (cv G a).category = 2 then [Slot.val (cv G a), Slot.second] else [Slot.val (cv G a)]) ++ lg_sl (as.map (cv G)) := List.flatMap_cons
      rw [e2, if_pos (by rw [cv_cat, h2]), List.length_append, ih]
      simp
      omega
    · have e : ini (a :: as) = some a :: ini as := by rw [ini, h1] <;> rfl
      rw [e, List.map_cons]
      have e2 : lg_sl (cv G a :: as.map (cv G)) = (if (cv G a).category = 2 then [Slot.val (cv G a), Slot.second] else [Slot.val (cv G a)]) ++ lg_sl (as.map (cv G)) := List.flatMap_cons
      rw [e2, if_neg (by rw [cv_cat, h1]; decide), List.length_append, ih]
      simp
      omega
def Wd0 (G : GL) (h : AH) (U : State) : Prop := okh h ∧ va_P (G.1, G.2.1) classes (wl G h) U.heap ∧ va_D (gA0 G) (wl G h)
theorem KG_warm {G : GL} {s U : State} (hK : KG G s) (hW : s.WarmedH U.vm) (hz : gok G U.heap.size) : KG G U := by
  refine ⟨va_K.moved hW.alike hK.1, hz, fun w hw => ?_⟩
  have h := hK.2.2 w hw
  simp only [nestW, List.mem_cons, List.not_mem_nil, or_false] at hw
  rcases hw with rfl | rfl | rfl | rfl | rfl | rfl | rfl | rfl | rfl | rfl | rfl | rfl <;> first | exact va_Nw.warmM hW h | exact va_Nw.warmC hW h
theorem KG_call {G : GL} {U V : State} (hK : KG G U) (hv : U.vm = V.vm) (hz : gok G V.heap.size) : KG G V := by
  refine ⟨va_K.moved (by rw [hv]; exact Vm.Alike.refl V.vm) hK.1, hz, fun w hw => ?_⟩
  have h := hK.2.2 w hw
  refine va_Nw.same ?_ hv h
  simp only [nestW, List.mem_cons, List.not_mem_nil, or_false] at hw
  rcases hw with rfl | rfl | rfl | rfl | rfl | rfl | rfl | rfl | rfl | rfl | rfl | rfl <;> rfl
def mRm (M : MI) : Room := { frames := mFr M, cells := mMc M, slots := mMs M, locals := mLo M }
def mPc (G : GL) (as : List AV) (h : AH) : Array Value → State → Prop := va_Pc (as.map (cv G)) (fun U => KG G U ∧ Wd0 G h U)
theorem mPc_blind (G : GL) (as : List AV) (h : AH) : FrameBlind (mPc G as h) := fun a U g mk q => ⟨q.1, KG_call q.2.1 rfl q.2.1.2.1, q.2.2⟩
theorem lw_g_good : ∀ w ∈ lw_g, goodWord w = true := fun w hw => (List.mem_filter.mp hw).2
theorem goodG {ws : List Cond} (h : ∀ w ∈ ws, w ∈ lw_g) : GoodIn lw_g ws := fun w hw => ⟨h w hw, good_of_word (lw_g_good w (h w hw))⟩
theorem ini_ok {h : AH} : ∀ {as : List AV}, okSt h as → ∀ i v, nth (ini as) i = some v → okv h v
  | [], _, _, _, k => by cases k
  | a :: as, hs, i, v, k => by
    rcases (show acat a = 2 ∨ acat a = 1 by unfold acat; split <;> simp) with h2 | h1
    · have e : ini (a :: as) = some a :: none :: ini as := by rw [ini, h2] <;> rfl
      rw [e] at k
      match i, k with
      | 0, k => cases k; exact okSt_h hs
      | 1, k => cases k
      | i + 2, k => exact ini_ok (okSt_t hs) i v k
    · have e : ini (a :: as) = some a :: ini as := by rw [ini, h1] <;> rfl
      rw [e] at k
      match i, k with
      | 0, k => cases k; exact okSt_h hs
      | i + 1, k => exact ini_ok (okSt_t hs) i v k
theorem met_i {M : MI} {y : MethodName} (hy : plainName y.cls = true) (ho : mOwn M = y.cls) {as : List AV} {h : AH} {K : Int32 → AH → Prop} (hs : okSt h as) (hn : (ini as).length ≤ mNL M) (hA : AW M (.inl K) 0 (initL (mNL M) as) [] h 0 0) (l : Launch) (G : GL) :
    Met l y (Cond.code y (mCC M) (mNL M) (some .int) :: lw_g) (mRm M) (mPc G as h) (va_Qi (fun (x : Int32) (u : AH) => K x u ∧ ∀ a ∈ h.2.2, a ∈ u.2.2) (fun u t => Wd0 G u t) (gA0 G)) (mMc M) (mMs M) (gA0 G) := by
  refine Met.ofW (cc := mCC M) (maxL := mNL M) (ret := some .int) hy rfl ?_
  intro p e s m args below meth c s₁ B hml hv
  obtain ⟨rfl, hK, hW⟩ := hv
  have hx := B.exec
  have hb := B.bytes
  have hr := B.returns
  have hts := atoms_spec (ws := Cond.code y (mCC M) (mNL M) (some .int) :: lw_g) B.pre
  have hown : s.vm.findClass y.cls = some m.cls := findClass_of_methodNamed B.named
  have hlocks := B.notSynchronized
  have hl := lv_entry (as.map (cv G)) (n := mNL M) (by rw [ini_len]; exact hn)
  rw [lg_entry_eq]
  generalize (lg_sl (as.map (cv G)) ++ List.replicate (mNL M - (lg_sl (as.map (cv G))).length) Slot.unset).toArray = ls at hl ⊢
  refine hA G p l e _ s m _ below meth c s.heap [] ls _ h.2.2 ⟨hx, hb, hml, by rw [ho]; exact hown, fun w hw => hts w (List.mem_cons_of_mem _ hw), Nat.le_refl _, Nat.le_refl _, Nat.le_refl _, Nat.le_refl _⟩ hK ?_ ⟨hW.1, hW.2.1, hW.2.2, va_S.rf⟩ (fun _ q => q) (Nat.zero_le _) (Nat.zero_le _) ?_ (fun v hv => by cases hv) ⟨hl.1, hl.2.1, fun q hq => hl.2.2 q ?_⟩ ?_
  · intro x h' H' locs' kc ks pc ls' hd hq hw hsub hkc hks
    refine W.widen hkc hks ?_
    exact W.iret hx hb hr (fun t ht hWm => ⟨⟨x, h', rfl, ⟨hq, hsub⟩, hw.1, by rw [ht]; exact hw.2.1, hw.2.2.1⟩, hw.2.2.2.F ht⟩) hw.2.2.2.2.2 hd
  · intro i v hv
    have h1 := nth_app hv
    have h2 := ini_args G as 0 i v h1
    clear h2
    exact ini_ok hs i v h1
  · obtain ⟨v, h1, h2⟩ := cvL_mem.mp hq
    have := ini_args G as 0 q.1 v (nth_app h1)
    rw [Nat.zero_add, ← h2] at this
    exact this
  · unfold initL
    rw [List.length_append, List.length_replicate]
    omega
theorem met_z {M : MI} {y : MethodName} (hy : plainName y.cls = true) (ho : mOwn M = y.cls) {as : List AV} {h : AH} {K : Int32 → AH → Prop} (hs : okSt h as) (hn : (ini as).length ≤ mNL M) (hA : AW M (.inl (fun x u => (x = 0 ∨ x = 1) ∧ K x u)) 0 (initL (mNL M) as) [] h 0 0) (l : Launch) (G : GL) :
    Met l y (Cond.code y (mCC M) (mNL M) (some .boolean) :: lw_g) (mRm M) (mPc G as h) (va_Qi (fun (x : Int32) (u : AH) => K x u ∧ ∀ a ∈ h.2.2, a ∈ u.2.2) (fun u t => Wd0 G u t) (gA0 G)) (mMc M) (mMs M) (gA0 G) := by
  refine Met.ofW (cc := mCC M) (maxL := mNL M) (ret := some .boolean) hy rfl ?_
  intro p e s m args below meth c s₁ B hml hv
  obtain ⟨rfl, hK, hW⟩ := hv
  have hx := B.exec
  have hb := B.bytes
  have hr := B.returns
  have hts := atoms_spec (ws := Cond.code y (mCC M) (mNL M) (some .boolean) :: lw_g) B.pre
  have hown : s.vm.findClass y.cls = some m.cls := findClass_of_methodNamed B.named
  have hlocks := B.notSynchronized
  have hl := lv_entry (as.map (cv G)) (n := mNL M) (by rw [ini_len]; exact hn)
  rw [lg_entry_eq]
  generalize (lg_sl (as.map (cv G)) ++ List.replicate (mNL M - (lg_sl (as.map (cv G))).length) Slot.unset).toArray = ls at hl ⊢
  refine hA G p l e _ s m _ below meth c s.heap [] ls _ h.2.2 ⟨hx, hb, hml, by rw [ho]; exact hown, fun w hw => hts w (List.mem_cons_of_mem _ hw), Nat.le_refl _, Nat.le_refl _, Nat.le_refl _, Nat.le_refl _⟩ hK ?_ ⟨hW.1, hW.2.1, hW.2.2, va_S.rf⟩ (fun _ q => q) (Nat.zero_le _) (Nat.zero_le _) ?_ (fun v hv => by cases hv) ⟨hl.1, hl.2.1, fun q hq => hl.2.2 q ?_⟩ ?_
  · intro x h' H' locs' kc ks pc ls' hd hq hw hsub hkc hks
    refine W.widen hkc hks ?_
    exact W.zret hx hb hr (nar01 hq.1).1 (fun t ht hWm => ⟨⟨x, h', rfl, ⟨hq.2, hsub⟩, hw.1, by rw [ht]; exact hw.2.1, hw.2.2.1⟩, hw.2.2.2.F ht⟩) hw.2.2.2.2.2 hd
  · intro i v hv
    have h1 := nth_app hv
    have h2 := ini_args G as 0 i v h1
    clear h2
    exact ini_ok hs i v h1
  · obtain ⟨v, h1, h2⟩ := cvL_mem.mp hq
    have := ini_args G as 0 q.1 v (nth_app h1)
    rw [Nat.zero_add, ← h2] at this
    exact this
  · unfold initL
    rw [List.length_append, List.length_replicate]
    omega
theorem met_v {M : MI} {y : MethodName} (hy : plainName y.cls = true) (ho : mOwn M = y.cls) {as : List AV} {h : AH} {K : AH → Prop} (hs : okSt h as) (hn : (ini as).length ≤ mNL M) (hA : AW M (.inr (.inl K)) 0 (initL (mNL M) as) [] h 0 0) (l : Launch) (G : GL) :
    Met l y (Cond.code y (mCC M) (mNL M) (none) :: lw_g) (mRm M) (mPc G as h) (va_Qv (fun (u : AH) => K u ∧ ∀ a ∈ h.2.2, a ∈ u.2.2) (fun u t => Wd0 G u t) (gA0 G)) (mMc M) (mMs M) (gA0 G) := by
  refine Met.ofW (cc := mCC M) (maxL := mNL M) (ret := none) hy rfl ?_
  intro p e s m args below meth c s₁ B hml hv
  obtain ⟨rfl, hK, hW⟩ := hv
  have hx := B.exec
  have hb := B.bytes
  have hr := B.returns
  have hts := atoms_spec (ws := Cond.code y (mCC M) (mNL M) (none) :: lw_g) B.pre
  have hown : s.vm.findClass y.cls = some m.cls := findClass_of_methodNamed B.named
  have hlocks := B.notSynchronized
  have hl := lv_entry (as.map (cv G)) (n := mNL M) (by rw [ini_len]; exact hn)
  rw [lg_entry_eq]
  generalize (lg_sl (as.map (cv G)) ++ List.replicate (mNL M - (lg_sl (as.map (cv G))).length) Slot.unset).toArray = ls at hl ⊢
  refine hA G p l e _ s m _ below meth c s.heap [] ls _ h.2.2 ⟨hx, hb, hml, by rw [ho]; exact hown, fun w hw => hts w (List.mem_cons_of_mem _ hw), Nat.le_refl _, Nat.le_refl _, Nat.le_refl _, Nat.le_refl _⟩ hK ?_ ⟨hW.1, hW.2.1, hW.2.2, va_S.rf⟩ (fun _ q => q) (Nat.zero_le _) (Nat.zero_le _) ?_ (fun v hv => by cases hv) ⟨hl.1, hl.2.1, fun q hq => hl.2.2 q ?_⟩ ?_
  · intro h' H' locs' kc ks pc ls' hd hq hw hsub hkc hks
    refine W.widen hkc hks ?_
    exact W.vret hx hb hr (fun t ht hWm => ⟨⟨h', rfl, ⟨hq, hsub⟩, hw.1, by rw [ht]; exact hw.2.1, hw.2.2.1⟩, hw.2.2.2.F ht⟩) hw.2.2.2.2.2 hd
  · intro i v hv
    have h1 := nth_app hv
    have h2 := ini_args G as 0 i v h1
    clear h2
    exact ini_ok hs i v h1
  · obtain ⟨v, h1, h2⟩ := cvL_mem.mp hq
    have := ini_args G as 0 q.1 v (nth_app h1)
    rw [Nat.zero_add, ← h2] at this
    exact this
  · unfold initL
    rw [List.length_append, List.length_replicate]
    omega
theorem met_l {M : MI} {y : MethodName} (hy : plainName y.cls = true) (ho : mOwn M = y.cls) {as : List AV} {h : AH} {K : Int64 → AH → Prop} (hs : okSt h as) (hn : (ini as).length ≤ mNL M) (hA : AW M (.inr (.inr (.inl K))) 0 (initL (mNL M) as) [] h 0 0) (l : Launch) (G : GL) :
    Met l y (Cond.code y (mCC M) (mNL M) (some .long) :: lw_g) (mRm M) (mPc G as h) (va_Ql (fun (x : Int64) (u : AH) => K x u ∧ ∀ a ∈ h.2.2, a ∈ u.2.2) (fun u t => Wd0 G u t) (gA0 G)) (mMc M) (mMs M) (gA0 G) := by
  refine Met.ofW (cc := mCC M) (maxL := mNL M) (ret := some .long) hy rfl ?_
  intro p e s m args below meth c s₁ B hml hv
  obtain ⟨rfl, hK, hW⟩ := hv
  have hx := B.exec
  have hb := B.bytes
  have hr := B.returns
  have hts := atoms_spec (ws := Cond.code y (mCC M) (mNL M) (some .long) :: lw_g) B.pre
  have hown : s.vm.findClass y.cls = some m.cls := findClass_of_methodNamed B.named
  have hlocks := B.notSynchronized
  have hl := lv_entry (as.map (cv G)) (n := mNL M) (by rw [ini_len]; exact hn)
  rw [lg_entry_eq]
  generalize (lg_sl (as.map (cv G)) ++ List.replicate (mNL M - (lg_sl (as.map (cv G))).length) Slot.unset).toArray = ls at hl ⊢
  refine hA G p l e _ s m _ below meth c s.heap [] ls _ h.2.2 ⟨hx, hb, hml, by rw [ho]; exact hown, fun w hw => hts w (List.mem_cons_of_mem _ hw), Nat.le_refl _, Nat.le_refl _, Nat.le_refl _, Nat.le_refl _⟩ hK ?_ ⟨hW.1, hW.2.1, hW.2.2, va_S.rf⟩ (fun _ q => q) (Nat.zero_le _) (Nat.zero_le _) ?_ (fun v hv => by cases hv) ⟨hl.1, hl.2.1, fun q hq => hl.2.2 q ?_⟩ ?_
  · intro x h' H' locs' kc ks pc ls' hd hq hw hsub hkc hks
    refine W.widen hkc hks ?_
    exact W.lret hx hb hr (fun t ht hWm => ⟨⟨x, h', rfl, ⟨hq, hsub⟩, hw.1, by rw [ht]; exact hw.2.1, hw.2.2.1⟩, hw.2.2.2.F ht⟩) hw.2.2.2.2.2 hd
  · intro i v hv
    have h1 := nth_app hv
    have h2 := ini_args G as 0 i v h1
    clear h2
    exact ini_ok hs i v h1
  · obtain ⟨v, h1, h2⟩ := cvL_mem.mp hq
    have := ini_args G as 0 q.1 v (nth_app h1)
    rw [Nat.zero_add, ← h2] at this
    exact this
  · unfold initL
    rw [List.length_append, List.length_replicate]
    omega
theorem met_q {M : MI} {y : MethodName} (hy : plainName y.cls = true) (ho : mOwn M = y.cls) {as : List AV} {h : AH} {K : Option Nat → AH → Prop} (hs : okSt h as) (hn : (ini as).length ≤ mNL M) (hA : AW M (.inr (.inr (.inr K))) 0 (initL (mNL M) as) [] h 0 0) (l : Launch) (G : GL) :
    Met l y (Cond.code y (mCC M) (mNL M) (some (.object RX4)) :: lw_g) (mRm M) (mPc G as h) (va_Qq (fun (x : Option Nat) (u : AH) => (K x u ∧ okv u (aS x)) ∧ ∀ a ∈ h.2.2, a ∈ u.2.2) (fun u t => Wd0 G u t) (gA0 G)) (mMc M) (mMs M) (gA0 G) := by
  refine Met.ofW (cc := mCC M) (maxL := mNL M) (ret := some (.object RX4)) hy rfl ?_
  intro p e s m args below meth c s₁ B hml hv
  obtain ⟨rfl, hK, hW⟩ := hv
  have hx := B.exec
  have hb := B.bytes
  have hr := B.returns
  have hts := atoms_spec (ws := Cond.code y (mCC M) (mNL M) (some (.object RX4)) :: lw_g) B.pre
  have hown : s.vm.findClass y.cls = some m.cls := findClass_of_methodNamed B.named
  have hlocks := B.notSynchronized
  have hl := lv_entry (as.map (cv G)) (n := mNL M) (by rw [ini_len]; exact hn)
  rw [lg_entry_eq]
  generalize (lg_sl (as.map (cv G)) ++ List.replicate (mNL M - (lg_sl (as.map (cv G))).length) Slot.unset).toArray = ls at hl ⊢
  refine hA G p l e _ s m _ below meth c s.heap [] ls _ h.2.2 ⟨hx, hb, hml, by rw [ho]; exact hown, fun w hw => hts w (List.mem_cons_of_mem _ hw), Nat.le_refl _, Nat.le_refl _, Nat.le_refl _, Nat.le_refl _⟩ hK ?_ ⟨hW.1, hW.2.1, hW.2.2, va_S.rf⟩ (fun _ q => q) (Nat.zero_le _) (Nat.zero_le _) ?_ (fun v hv => by cases hv) ⟨hl.1, hl.2.1, fun q hq => hl.2.2 q ?_⟩ ?_
  · intro x h' H' locs' kc ks pc ls' hd hq hv hw hsub hkc hks
    refine W.widen hkc hks ?_
    exact W.aret hx hb hr (Or.inl ⟨_, rfl⟩) (va_rf_or x) (fun t ht hWm => ⟨⟨x, h', rfl, ⟨⟨hq, hv⟩, hsub⟩, hw.1, by rw [ht]; exact hw.2.1, hw.2.2.1⟩, hw.2.2.2.F ht⟩) hw.2.2.2.2.2 hd
  · intro i v hv
    have h1 := nth_app hv
    have h2 := ini_args G as 0 i v h1
    clear h2
    exact ini_ok hs i v h1
  · obtain ⟨v, h1, h2⟩ := cvL_mem.mp hq
    have := ini_args G as 0 q.1 v (nth_app h1)
    rw [Nat.zero_add, ← h2] at this
    exact this
  · unfold initL
    rw [List.length_append, List.length_replicate]
    omega

/-! ===== the reference: rows copied, waits, what is brought in mind ===== -/
theorem ro_lt {V : Vm} (h4 : V 10 0 ≤ 4) (h7 : V 10 1 ≤ 7) {t i : Nat} (hi : i < vLim V t) : ro t i < 62 := by
  have ht : t ≤ 10 := by
    rcases Nat.lt_or_ge 10 t with h | h
    · unfold vLim at hi; split at hi <;> omega
    · exact h
  match t, ht with
  | 0, _ => simp only [ro, vLim] at *; omega
  | 1, _ => simp only [ro, vLim] at *; omega
  | 2, _ => simp only [ro, vLim] at *; omega
  | 3, _ => simp only [ro, vLim] at *; omega
  | 4, _ => simp only [ro, vLim] at *; omega
  | 5, _ => simp only [ro, vLim] at *; omega
  | 6, _ => simp only [ro, vLim] at *; omega
  | 7, _ => simp only [ro, vLim] at *; omega
  | 8, _ => simp only [ro, vLim] at *; omega
  | 9, _ => simp only [ro, vLim] at *; omega
  | 10, _ => simp only [ro, vLim] at *; omega
theorem RV_cp {r r' : Nat → Int32} {V : Vm} (hw : WF V) (hr : RV r V) (hc : ∀ i, i < 62 → r' i = r i) : RV r' V := fun t i hi => by
  rw [hc _ (ro_lt hw.1 hw.2.1 hi)]
  exact hr t i hi
theorem WF_wai {V : Vm} {k : Nat} (hw : WF V) : WF (wai V k) := by
  obtain ⟨a, b, c, d, e, f, g⟩ := hw
  have hn : ∀ t i, t ≠ 5 → t ≠ 10 → wai V k t i = V t i := fun t i h1 h2 => by unfold wai; rw [if_neg h1, if_neg (fun z => h2 z.1)]
  have h10 : ∀ i, i ≠ 2 → wai V k 10 i = V 10 i := fun i h1 => by unfold wai; rw [if_neg (by decide), if_neg (fun z => h1 z.2)]
  have h12 : wai V k 10 2 = (V 10 2 + k) % 24 := by unfold wai; rw [if_neg (by decide), if_pos ⟨rfl, rfl⟩]
  have h5 : ∀ i, wai V k 5 i = min 9 (V 5 i + k / 4) := fun i => by unfold wai; rw [if_pos rfl]
  unfold WF
  simp (disch := omega) only [hn, h10, h12, h5]
  refine ⟨a, b, by omega, d, e, fun i hi => ?_, g⟩
  have := f i hi
  omega
theorem WF_thr {V : Vm} {n m : Nat} (hw : WF V) (hm : m < 8) : WF (thr V n m) := by
  have hfin : ∀ (W : Vm) (o : Option Nat), WF W → WF (fin W o) := by
    intro W o hw
    obtain ⟨a, b, c, d, e, f, g⟩ := hw
    have hn : ∀ t i, t ≠ 5 → t ≠ 10 → fin W o t i = W t i := fun t i h1 h2 => by unfold fin; rw [if_neg (fun z => h1 z.1), if_neg (fun z => h2 z.1)]
    have h10 : ∀ i, i ≠ 2 → fin W o 10 i = W 10 i := fun i h1 => by unfold fin; rw [if_neg (by omega), if_neg (fun z => h1 z.2)]
    have h12 : fin W o 10 2 = (W 10 2 + 1) % 24 := by unfold fin; rw [if_neg (by omega), if_pos ⟨rfl, rfl⟩]
    have h5 : ∀ i, W 5 i ≤ 9 → fin W o 5 i ≤ 9 := fun i hi => by unfold fin; split; omega; rw [if_neg (by omega)]; exact hi
    unfold WF
    simp (disch := omega) only [hn, h10, h12]
    refine ⟨a, b, by omega, d, e, fun i hi => ?_, g⟩
    have := f i hi
    exact ⟨this.1, h5 i this.2.1, this.2.2⟩
  cases ht : tak V n m with
  | none =>
    have : thr V n m = fin V none := funext fun t => funext fun i => fin_none ht t i
    rw [this]
    exact hfin V none hw
  | some e =>
    have : thr V n m = fin (crd V n m e) (some e) := funext fun t => funext fun i => fin_crd ht t i
    rw [this]
    exact hfin _ _ (crd_WF hw hm (tak_lt ht))
theorem brg_le {V : Vm} {n m : Nat} (hw : WF V) (hn : n < V 10 1) (hm : m < 8) : brg V n m ≤ 54 := by
  have h1 := hw.2.2.2.2.1 m hm
  unfold brg
  split
  · omega
  · unfold wor sS sB
    omega
def S_X11_copies (j i : Nat) (h : AH) (K : AH → Prop) : Prop := j ≠ i ∧ ∀ h', only 16 i h h' → (∀ k, k < 62 → h'.1 16 i k = h.1 16 j k) → K h'
def T_X11_copies : List AV → AH → (AH → Prop) → Prop := fun as h K => match as with
  | [.inr (.inr (.inl q0)), .inr (.inr (.inl q1))] => tif (Nat.beq q0.1 16 && Nat.beq q1.1 16) (S_X11_copies q0.2 q1.2 h K)
  | _ => False

def M_X11_copies : MI := (RX11, cX11_copies, 3, [(0, .iconst 0, []), (1, .istore_n 2, []), (2, .iload_n 2, []), (3, .bipush 62, []), (5, .if_icmp .ge 15, [20]), (8, .aload_n 1, []), (9, .iload_n 2, []), (10, .aload_n 0, []), (11, .iload_n 2, []), (12, .iaload, []), (13, .iastore, []), (14, .iinc 2 1, []), (17, .goto (-15), [2]), (20, .return_, [])], [], [], [], [], 0, 0, 0, 0)
theorem ok_X11_copies : MOK M_X11_copies := ⟨by decide +kernel, fun _ h => absurd h List.not_mem_nil, fun _ h => absurd h List.not_mem_nil, fun _ h => absurd h List.not_mem_nil, fun _ h => absurd h List.not_mem_nil⟩
set_option maxRecDepth 100000 in
theorem vc_X11_copies {K : AH → Prop} {h : AH} (p0 : Nat) (p1 : Nat) (H : AW M_X11_copies (.inr (.inl K)) 2 [some (aR 16 p0), some (aR 16 p1), some (aI (nI 0))] [] h 0 0) : AW M_X11_copies (.inr (.inl K)) 0 [some (aR 16 p0), some (aR 16 p1), none] [] h 0 0 := AW_go (cuts := [(2, [true, true, true])]) ok_X11_copies 400 H
set_option maxRecDepth 100000 in
theorem vc_X11_copies_2 {K : AH → Prop} {h : AH}  (l0 : Nat) (l1 : Nat) (l2 : Int32) (H : (((nI 62) ≤ l2) → K h) ∧ (¬ ((nI 62) ≤ l2) → inR l2 62 ∧ inR l2 62 ∧ AW M_X11_copies (.inr (.inl K)) 2 [some (aR 16 l0), some (aR 16 l1), some (aI (l2 + (nI 1)))] [] (wI h 16 l1 l2.toNatClampNeg (h.1 16 l0 l2.toNatClampNeg)) 0 0)) : AW M_X11_copies (.inr (.inl K)) 2 [some (aR 16 l0), some (aR 16 l1), some (aI l2)] [] h 0 0 := AW_go (cuts := [(2, [true, true, true])]) ok_X11_copies 400 H

theorem lp_X11_copies {j i : Nat} {h0 : AH} {K : AH → Prop} (hj : j ≠ i) (k : ∀ h', only 16 i h0 h' → (∀ k, k < 62 → h'.1 16 i k = h0.1 16 j k) → K h') : ∀ r e h, e + r = 62 → only 16 i h0 h → (∀ k, k < e → h.1 16 i k = h0.1 16 j k) → AW M_X11_copies (.inr (.inl K)) 2 [some (aR 16 j), some (aR 16 i), some (aI (nI e))] [] h 0 0 := by
  intro r
  induction r with
  | zero =>
    intro e h he h1 h2
    refine vc_X11_copies_2 j i (nI e) ?_
    simp (disch := omega) only [n_le]
    exact ⟨fun _ => k h h1 (fun q hq => h2 q (by omega)), fun q => absurd (by omega) q⟩
  | succ r ih =>
    intro e h he h1 h2
    refine vc_X11_copies_2 j i (nI e) ?_
    simp (disch := omega) only [n_le, n_inT, n_cl, true_and, nI_add]
    refine ⟨fun q => by omega, fun _ => ih (e + 1) _ (by omega) (only_tr h1 (only_wI ..)) (fun q hq => ?_)⟩
    show uI h.1 16 i e (h.1 16 j e) 16 i q = _
    by_cases hqe : q = e
    · subst hqe
      rw [uI_at, h1.2 16 j (fun z => hj z.2)]
    · rw [uI_ni hqe]
      exact h2 q (by omega)
theorem snd_X11_copies (j i : Nat) {h : AH} {K : AH → Prop} (k : S_X11_copies j i h K) : AW M_X11_copies (.inr (.inl K)) 0 [some (aR 16 j), some (aR 16 i), none] [] h 0 0 :=
  vc_X11_copies j i (lp_X11_copies k.1 k.2 62 0 h (by omega) (only_rfl ..) (fun _ q => absurd q (by omega)))
theorem tw_X11_copies : ∀ (as : List AV) (h : AH) (K : AH → Prop), T_X11_copies as h K → (ini as).length ≤ mNL M_X11_copies ∧ AW M_X11_copies (.inr (.inl K)) 0 (initL (mNL M_X11_copies) as) [] h 0 0 := by
  intro as h K hk
  match as, hk with
  | [.inr (.inr (.inl q0)), .inr (.inr (.inl q1))], hk =>
    obtain ⟨hb, hk⟩ := tif_inv hk
    simp only [Bool.and_eq_true] at hb
    obtain ⟨e0, e1⟩ := hb
    obtain ⟨a0, b0⟩ := q0
    obtain ⟨a1, b1⟩ := q1
    have f0 : a0 = 16 := Nat.eq_of_beq_eq_true e0
    subst f0
    have f1 : a1 = 16 := Nat.eq_of_beq_eq_true e1
    subst f1
    exact ⟨Nat.le_of_ble_eq_true rfl, snd_X11_copies b0 b1 hk⟩
theorem cr_RX11_445 : CR RX11 (kIns 445) (2, 1, 22, 0, 0, .inr (.inl T_X11_copies)) := crS_v (M := M_X11_copies) (by decide) rfl (inG (i := 1016) (w := Cond.methodLink RX11 148 yX11_copies) (by decide +kernel) rfl) (inG (i := 1017) (w := Cond.static yX11_copies) (by decide +kernel) rfl) (inG (i := 40) (w := Cond.initialized RX11) (by decide +kernel) rfl) (inG (i := 1018) (w := Cond.code yX11_copies cX11_copies 3 (none)) (by decide +kernel) rfl) ⟨by decide +kernel, by decide +kernel, by decide +kernel⟩ tw_X11_copies

def S_X11_waitIn (j : Nat) (x : Int32) (h : AH) (K : AH → Prop) : Prop := ∃ V k, RV (h.1 16 j) V ∧ WF V ∧ k ≤ 60 ∧ x = nI k ∧ ∀ h', only 16 j h h' → RV (h'.1 16 j) (wai V k) → K h'
def T_X11_waitIn : List AV → AH → (AH → Prop) → Prop := fun as h K => match as with
  | [.inr (.inr (.inl q0)), .inl q1] => tif (Nat.beq q0.1 16) (S_X11_waitIn q0.2 q1 h K)
  | _ => False

def M_X11_waitIn : MI := (RX11, cX11_waitIn, 3, [(0, .aload_n 0, []), (1, .iconst 2, []), (2, .aload_n 0, []), (3, .iconst 2, []), (4, .iaload, []), (5, .iload_n 1, []), (6, .iadd, []), (7, .bipush 24, []), (9, .irem, []), (10, .iastore, []), (11, .iconst 0, []), (12, .istore_n 2, []), (13, .iload_n 2, []), (14, .aload_n 0, []), (15, .iconst 0, []), (16, .iaload, []), (17, .if_icmp .ge 17, [34]), (20, .aload_n 0, []), (21, .iload_n 2, []), (22, .iload_n 1, []), (23, .iconst 4, []), (24, .idiv, []), (25, .invokestatic 98, []), (28, .iinc 2 1, []), (31, .goto (-18), [13]), (34, .return_, [])], [], [], [], [(295, (3, 2, 43, 0, 0, .inr (.inl T_X11_hungers)))], 2, 43, 0, 0)
theorem ok_X11_waitIn : MOK M_X11_waitIn := ⟨by decide +kernel, fun _ h => absurd h List.not_mem_nil, fun _ h => absurd h List.not_mem_nil, fun _ h => absurd h List.not_mem_nil, List.forall_mem_cons.mpr ⟨⟨Nat.le_of_ble_eq_true rfl, Nat.le_of_ble_eq_true rfl, cr_RX11_295⟩, fun _ h => absurd h List.not_mem_nil⟩⟩
set_option maxRecDepth 100000 in
theorem vc_X11_waitIn {K : AH → Prop} {h : AH} (p0 : Nat) (p1 : Int32) (H : inR (nI 2) 62 ∧ (¬ (nI 24) = 0) ∧ inR (nI 2) 62 ∧ AW M_X11_waitIn (.inr (.inl K)) 13 [some (aR 16 p0), some (aI p1), some (aI (nI 0))] [] (wI h 16 p0 (nI 2).toNatClampNeg (((h.1 16 p0 (nI 2).toNatClampNeg) + p1) - ((h.1 16 p0 (nI 2).toNatClampNeg) + p1) / (nI 24) * (nI 24))) 0 0) : AW M_X11_waitIn (.inr (.inl K)) 0 [some (aR 16 p0), some (aI p1), none] [] h 0 0 := AW_go (cuts := [(13, [true, true, true])]) ok_X11_waitIn 400 H
set_option maxRecDepth 100000 in
theorem vc_X11_waitIn_13 {K : AH → Prop} {h : AH}  (l0 : Nat) (l1 : Int32) (l2 : Int32) (H : inR (nI 0) 62 ∧ (((h.1 16 l0 (nI 0).toNatClampNeg) ≤ l2) → K h) ∧ (¬ ((h.1 16 l0 (nI 0).toNatClampNeg) ≤ l2) → (¬ (nI 4) = 0) ∧ S_X11_hungers l0 l2 (l1 / (nI 4)) h (fun h1 => AW M_X11_waitIn (.inr (.inl K)) 13 [some (aR 16 l0), some (aI l1), some (aI (l2 + (nI 1)))] [] h1 0 0))) : AW M_X11_waitIn (.inr (.inl K)) 13 [some (aR 16 l0), some (aI l1), some (aI l2)] [] h 0 0 := AW_go (cuts := [(13, [true, true, true])]) ok_X11_waitIn 400 H

def waik (V : Vm) (k e : Nat) : Vm := fun t i => if t = 5 ∧ i < e then min 9 (V 5 i + k / 4) else if t = 10 ∧ i = 2 then (V 10 2 + k) % 24 else V t i
theorem waik_10 {V : Vm} {k e i : Nat} (h : i ≠ 2) : waik V k e 10 i = V 10 i := by unfold waik; rw [if_neg (by omega), if_neg (by omega)]
theorem waik_WF {V : Vm} {k e : Nat} (hw : WF V) : WF (waik V k e) := by
  obtain ⟨a, b, c, d, ee, f, g⟩ := hw
  have hn : ∀ t i, t ≠ 5 → t ≠ 10 → waik V k e t i = V t i := fun t i h1 h2 => by unfold waik; rw [if_neg (fun z => h1 z.1), if_neg (fun z => h2 z.1)]
  have h12 : waik V k e 10 2 = (V 10 2 + k) % 24 := by unfold waik; rw [if_neg (by omega), if_pos ⟨rfl, rfl⟩]
  have h5 : ∀ i, V 5 i ≤ 9 → waik V k e 5 i ≤ 9 := fun i hi => by unfold waik; split; omega; rw [if_neg (by omega)]; exact hi
  unfold WF
  simp (disch := omega) only [hn, waik_10, h12]
  refine ⟨a, b, by omega, d, ee, fun i hi => ?_, g⟩
  have := f i hi
  exact ⟨this.1, h5 i this.2.1, this.2.2⟩
theorem lp_X11_waitIn {j : Nat} {V : Vm} {k : Nat} {h0 : AH} {K : AH → Prop} (hw : WF V) (hk : k ≤ 60) (kk : ∀ h', only 16 j h0 h' → RV (h'.1 16 j) (wai V k) → K h') : ∀ r e h, e + r = V 10 0 → only 16 j h0 h → RV (h.1 16 j) (waik V k e) → AW M_X11_waitIn (.inr (.inl K)) 13 [some (aR 16 j), some (aI (nI k)), some (aI (nI e))] [] h 0 0 := by
  have h4 := hw.1
  intro r
  induction r with
  | zero =>
    intro e h he h1 h2
    refine vc_X11_waitIn_13 j (nI k) (nI e) ?_
    obtain ⟨-, -, -, -, -, -, -, -, -, -, e0, -⟩ := RVs h2
    rw [waik_10 (by omega)] at e0
    simp (disch := omega) only [n_inT, n_cl, true_and, e0, n_le]
    refine ⟨fun _ => kk h h1 (RV_c h2 ?_ ?_ ?_), fun q => absurd (by omega) q⟩
    · rw [waik_10 (by omega)]; unfold wai; rw [if_neg (by decide), if_neg (by omega)]
    · rw [waik_10 (by omega)]; unfold wai; rw [if_neg (by decide), if_neg (by omega)]
    · intro t i hi
      rw [vLim_c (V := V) (waik_10 (by omega)) (waik_10 (by omega))] at hi
      have h5i : t = 5 → i < e := fun z => by subst z; have hi : i < V 10 0 := hi; omega
      unfold wai waik
      grind
  | succ r ih =>
    intro e h he h1 h2
    refine vc_X11_waitIn_13 j (nI k) (nI e) ?_
    obtain ⟨-, -, -, -, -, e5, -, -, -, -, e0, -⟩ := RVs h2
    rw [waik_10 (by omega)] at e0 e5
    have e5 := e5 e (by omega)
    have hbe := hw.2.2.2.2.2.1 e (by omega)
    rw [show waik V k e 5 e = V 5 e by unfold waik; rw [if_neg (by omega), if_neg (by omega)]] at e5
    simp (disch := omega) only [n_inT, n_cl, true_and, e0, n_le, n_div]
    refine ⟨fun q => by omega, fun _ => ⟨by decide, e, by omega, rfl, ?_⟩⟩
    rw [e5, nI_add, nI_add, clp_n (by omega)]
    have h3 := RV_set (waik_WF (k := k) (e := e) hw) h2 (t := 5) (i := e) (x := min 9 (V 5 e + k / 4)) (by omega) (by show e < waik V k e 10 0; rw [waik_10 (by omega)]; omega)
    refine ih (e + 1) _ (by omega) (only_tr h1 (only_wI ..)) (RV_c h3 ?_ ?_ ?_)
    · rw [uV_ne (by omega), waik_10 (by omega), waik_10 (by omega)]
    · rw [uV_ne (by omega), waik_10 (by omega), waik_10 (by omega)]
    · intro t i hi
      unfold uV waik
      grind
theorem snd_X11_waitIn (j : Nat) (x : Int32) {h : AH} {K : AH → Prop} (k : S_X11_waitIn j x h K) : AW M_X11_waitIn (.inr (.inl K)) 0 [some (aR 16 j), some (aI x), none] [] h 0 0 := by
  refine vc_X11_waitIn j x ?_
  obtain ⟨V, k, hr, hw, hk, rfl, kk⟩ := k
  obtain ⟨-, -, -, -, -, -, -, -, -, -, -, -, e2, -⟩ := RVs hr
  have hh := hw.2.2.1
  simp (disch := omega) only [n_inT, n_cl, true_and, e2, nI_add, n_rem]
  refine ⟨by decide, lp_X11_waitIn hw hk kk (V 10 0) 0 _ (by omega) (only_wI ..) ?_⟩
  have h3 := RV_set hw hr (t := 10) (i := 2) (x := (V 10 2 + k) % 24) (by omega) (show 2 < 4 by decide)
  refine RV_c h3 ?_ ?_ ?_
  · rw [uV_ne (by omega), waik_10 (by omega)]
  · rw [uV_ne (by omega), waik_10 (by omega)]
  · intro t i hi
    unfold uV waik
    grind
theorem tw_X11_waitIn : ∀ (as : List AV) (h : AH) (K : AH → Prop), T_X11_waitIn as h K → (ini as).length ≤ mNL M_X11_waitIn ∧ AW M_X11_waitIn (.inr (.inl K)) 0 (initL (mNL M_X11_waitIn) as) [] h 0 0 := by
  intro as h K hk
  match as, hk with
  | [.inr (.inr (.inl q0)), .inl q1], hk =>
    obtain ⟨hb, hk⟩ := tif_inv hk
    have e0 := hb
    obtain ⟨a0, b0⟩ := q0
    have f0 : a0 = 16 := Nat.eq_of_beq_eq_true e0
    subst f0
    exact ⟨Nat.le_of_ble_eq_true rfl, snd_X11_waitIn b0 q1 hk⟩
theorem cr_RX11_385 : CR RX11 (kIns 385) (2, 3, 65, 0, 0, .inr (.inl T_X11_waitIn)) := crS_v (M := M_X11_waitIn) (by decide) rfl (inG (i := 1036) (w := Cond.methodLink RX11 128 yX11_waitIn) (by decide +kernel) rfl) (inG (i := 1037) (w := Cond.static yX11_waitIn) (by decide +kernel) rfl) (inG (i := 40) (w := Cond.initialized RX11) (by decide +kernel) rfl) (inG (i := 1038) (w := Cond.code yX11_waitIn cX11_waitIn 3 (none)) (by decide +kernel) rfl) ⟨by decide +kernel, by decide +kernel, by decide +kernel⟩ tw_X11_waitIn

def S_X11_broughtBy (j : Nat) (a c : Int32) (h : AH) (K : Int32 → AH → Prop) : Prop := ∃ V n m, rPre j a h V n ∧ m < 8 ∧ c = nI m ∧ j ≠ 2 ∧ ∀ h', only 16 2 h h' → K (nI (brg V n m)) h'
def T_X11_broughtBy : List AV → AH → (Int32 → AH → Prop) → Prop := fun as h K => match as with
  | [.inr (.inr (.inl q0)), .inr (.inr (.inl q1)), .inl q2, .inl q3] => tif (Nat.beq q0.1 15 && Nat.beq q0.2 0 && Nat.beq q1.1 16) (S_X11_broughtBy q1.2 q2 q3 h K)
  | _ => False

def M_X11_broughtBy : MI := (RX11, cX11_broughtBy, 4, [(0, .aload_n 1, []), (1, .aload_n 0, []), (2, .getfield 16, []), (5, .invokestatic 148, []), (8, .aload_n 0, []), (9, .getfield 16, []), (12, .iload_n 2, []), (13, .iload_n 3, []), (14, .invokestatic 138, []), (17, .ireturn, [])], [(16, (15, 2, 1, 16, 2))], [], [], [(445, (2, 1, 22, 0, 0, .inr (.inl T_X11_copies))), (415, (3, 5, 116, 0, 0, .inl T_X11_throwIn))], 5, 116, 0, 0)
theorem ok_X11_broughtBy : MOK M_X11_broughtBy := ⟨by decide +kernel, List.forall_mem_cons.mpr ⟨fl_RX11_16, fun _ h => absurd h List.not_mem_nil⟩, fun _ h => absurd h List.not_mem_nil, fun _ h => absurd h List.not_mem_nil, List.forall_mem_cons.mpr ⟨⟨Nat.le_of_ble_eq_true rfl, Nat.le_of_ble_eq_true rfl, cr_RX11_445⟩, List.forall_mem_cons.mpr ⟨⟨Nat.le_of_ble_eq_true rfl, Nat.le_of_ble_eq_true rfl, cr_RX11_415⟩, fun _ h => absurd h List.not_mem_nil⟩⟩⟩
set_option maxRecDepth 100000 in
theorem vc_X11_broughtBy {K : Int32 → AH → Prop} {h : AH} (p1 : Nat) (p2 : Int32) (p3 : Int32) (H : S_X11_copies p1 2 h (fun h1 => S_X11_throwIn 2 p2 p3 h1 (fun x3 h2 => K x3 h2))) : AW M_X11_broughtBy (.inl K) 0 [some (aR 15 0), some (aR 16 p1), some (aI p2), some (aI p3)] [] h 0 0 := AW_go (cuts := []) ok_X11_broughtBy 400 H

theorem snd_X11_broughtBy (j : Nat) (a c : Int32) {h : AH} {K : Int32 → AH → Prop} (k : S_X11_broughtBy j a c h K) : AW M_X11_broughtBy (.inl K) 0 [some (aR 15 0), some (aR 16 j), some (aI a), some (aI c)] [] h 0 0 := by
  refine vc_X11_broughtBy j a c ?_
  obtain ⟨V, n, m, ⟨hr, hw, hn, rfl⟩, hm, rfl, hj, k⟩ := k
  exact ⟨hj, fun h1 o1 c1 => ⟨V, n, m, ⟨RV_cp hw hr c1, hw, hn, rfl⟩, hm, rfl, fun h2 o2 _ => k h2 (only_tr o1 o2)⟩⟩
theorem tr_X11_broughtBy : ∀ (as : List AV) (h : AH) (K : Int32 → AH → Prop), T_X11_broughtBy as h K → ∃ (q : Nat) (r : List AV), as = aR 15 q :: r := by
  intro as h K hk
  match as, hk with
  | [.inr (.inr (.inl q0)), .inr (.inr (.inl q1)), .inl q2, .inl q3], hk =>
    obtain ⟨hb, hk⟩ := tif_inv hk
    simp only [Bool.and_eq_true] at hb
    obtain ⟨⟨e0, e1⟩, e2⟩ := hb
    obtain ⟨a0, b0⟩ := q0
    obtain ⟨a1, b1⟩ := q1
    have f0 : a0 = 15 := Nat.eq_of_beq_eq_true e0
    subst f0
    have f1 : b0 = 0 := Nat.eq_of_beq_eq_true e1
    subst f1
    have f2 : a1 = 16 := Nat.eq_of_beq_eq_true e2
    subst f2
    exact ⟨_, _, rfl⟩
theorem tw_X11_broughtBy : ∀ (as : List AV) (h : AH) (K : Int32 → AH → Prop), T_X11_broughtBy as h K → (ini as).length ≤ mNL M_X11_broughtBy ∧ AW M_X11_broughtBy (.inl K) 0 (initL (mNL M_X11_broughtBy) as) [] h 0 0 := by
  intro as h K hk
  match as, hk with
  | [.inr (.inr (.inl q0)), .inr (.inr (.inl q1)), .inl q2, .inl q3], hk =>
    obtain ⟨hb, hk⟩ := tif_inv hk
    simp only [Bool.and_eq_true] at hb
    obtain ⟨⟨e0, e1⟩, e2⟩ := hb
    obtain ⟨a0, b0⟩ := q0
    obtain ⟨a1, b1⟩ := q1
    have f0 : a0 = 15 := Nat.eq_of_beq_eq_true e0
    subst f0
    have f1 : b0 = 0 := Nat.eq_of_beq_eq_true e1
    subst f1
    have f2 : a1 = 16 := Nat.eq_of_beq_eq_true e2
    subst f2
    exact ⟨Nat.le_of_ble_eq_true rfl, snd_X11_broughtBy b1 q2 q3 hk⟩
theorem cr_RX11_504 : CR RX11 (kIns 504) (4, 6, 139, 0, 0, .inl T_X11_broughtBy) := crV_i (t := 15) (M := M_X11_broughtBy) (by decide) rfl (by decide) rfl (inG (i := 1137) (w := Cond.methodLink RX11 168 yX11_broughtBy) (by decide +kernel) rfl) (inG (i := 1139) (w := Cond.instanceMethod yX11_broughtBy) (by decide +kernel) rfl) (inG (i := 40) (w := Cond.initialized RX11) (by decide +kernel) rfl) (inG (i := 25) (w := Cond.selects RX11 yX11_broughtBy yX11_broughtBy) (by decide +kernel) rfl) (inG (i := 1140) (w := Cond.code yX11_broughtBy cX11_broughtBy 4 (some .int)) (by decide +kernel) rfl) ⟨by decide +kernel, by decide +kernel, by decide +kernel⟩ tr_X11_broughtBy tw_X11_broughtBy

def S_X11_wrongThrow (a c : Int32) (h : AH) (K : Int32 → AH → Prop) : Prop := ∃ V, RV (h.1 16 0) V ∧ WF V ∧ (∀ n m, n < V 10 1 → m < 8 → a = nI n → c = nI m → K (if vFl V n < m then iI (-3) else nI 0) h) ∧ ((¬ ∃ n m, n < V 10 1 ∧ m < 8 ∧ a = nI n ∧ c = nI m) → K (iI (-1)) h)
def T_X11_wrongThrow : List AV → AH → (Int32 → AH → Prop) → Prop := fun as h K => match as with
  | [.inr (.inr (.inl q0)), .inl q1, .inl q2] => tif (Nat.beq q0.1 15 && Nat.beq q0.2 0) (S_X11_wrongThrow q1 q2 h K)
  | _ => False

def M_X11_wrongThrow : MI := (RX11, cX11_wrongThrow, 3, [(0, .aload_n 0, []), (1, .iload_n 1, []), (2, .invokevirtual 132, []), (5, .ifCond .eq 10, [15]), (8, .iload_n 2, []), (9, .invokestatic 120, []), (12, .ifCond .ne 7, [19]), (15, .iconst (-1), []), (16, .goto 21, [37]), (19, .iload_n 2, []), (20, .aload_n 0, []), (21, .getfield 9, []), (24, .iload_n 1, []), (25, .invokestatic 135, []), (28, .if_icmp .le 8, [36]), (31, .bipush (-3), []), (33, .goto 4, [37]), (36, .iconst 0, []), (37, .ireturn, [])], [(9, (15, 0, 1, 16, 0))], [], [], [(396, (2, 2, 43, 0, 0, .inl T_X11_isSheep)), (361, (1, 2, 42, 0, 0, .inl T_X11_isCell)), (406, (2, 2, 42, 0, 0, .inl T_X11_flies))], 2, 43, 0, 0)
theorem ok_X11_wrongThrow : MOK M_X11_wrongThrow := ⟨by decide +kernel, List.forall_mem_cons.mpr ⟨fl_RX11_9, fun _ h => absurd h List.not_mem_nil⟩, fun _ h => absurd h List.not_mem_nil, fun _ h => absurd h List.not_mem_nil, List.forall_mem_cons.mpr ⟨⟨Nat.le_of_ble_eq_true rfl, Nat.le_of_ble_eq_true rfl, cr_RX11_396⟩, List.forall_mem_cons.mpr ⟨⟨Nat.le_of_ble_eq_true rfl, Nat.le_of_ble_eq_true rfl, cr_RX11_361⟩, List.forall_mem_cons.mpr ⟨⟨Nat.le_of_ble_eq_true rfl, Nat.le_of_ble_eq_true rfl, cr_RX11_406⟩, fun _ h => absurd h List.not_mem_nil⟩⟩⟩⟩
set_option maxRecDepth 100000 in
theorem vc_X11_wrongThrow {K : Int32 → AH → Prop} {h : AH} (p1 : Int32) (p2 : Int32) (H : S_X11_isSheep p1 h (fun x2 h1 => ((x2 = 0) → K (iI (-1)) h1) ∧ (¬ (x2 = 0) → S_X11_isCell p2 h1 (fun x4 h3 => ((¬ x4 = 0) → S_X11_flies 0 p1 h3 (fun x6 h5 => ((p2 ≤ x6) → K (nI 0) h5) ∧ (¬ (p2 ≤ x6) → K (iI (-3)) h5))) ∧ (¬ (¬ x4 = 0) → K (iI (-1)) h3))))) : AW M_X11_wrongThrow (.inl K) 0 [some (aR 15 0), some (aI p1), some (aI p2)] [] h 0 0 := AW_go (cuts := []) ok_X11_wrongThrow 400 H

/-- an index below n, as the code asks for it -/
theorem in_iff {x : Int32} {n : Nat} (hn : n < 2147483648) : (nI 0 ≤ x ∧ x ≤ nI n - nI 1) ↔ ∃ k, k < n ∧ x = nI k := by
  constructor
  · rintro ⟨h1, h2⟩
    cases n with
    | zero =>
      exfalso
      have h3 : (nI 0).toInt ≤ x.toInt := Int32.le_iff_toInt_le.mp h1
      have h4 : x.toInt ≤ (nI 0 - nI 1).toInt := Int32.le_iff_toInt_le.mp h2
      have h5 : (nI 0).toInt = 0 := by decide
      have h6 : (nI 0 - nI 1).toInt = -1 := by decide
      omega
    | succ n =>
      rw [n_sub (by omega), Nat.add_sub_cancel] at h2
      obtain ⟨k, hk, e⟩ := n_of (by omega) h1 h2
      exact ⟨k, by omega, e⟩
  · rintro ⟨k, hk, rfl⟩
    rw [n_sub (by omega), n_le (by omega) (by omega), n_le (by omega) (by omega)]
    omega
theorem in8_iff {x : Int32} : (nI 0 ≤ x ∧ x ≤ nI 7) ↔ ∃ k, k < 8 ∧ x = nI k := by
  have := in_iff (x := x) (n := 8) (by omega)
  rw [n_sub (by omega)] at this
  exact this
theorem if10_eq {p : Prop} [Decidable p] : ((if p then nI 1 else nI 0) = 0) ↔ ¬ p := by
  split
  · constructor
    · intro h; cases h
    · intro h; contradiction
  · constructor
    · intro _; assumption
    · intro _; rfl
theorem snd_X11_wrongThrow (a c : Int32) {h : AH} {K : Int32 → AH → Prop} (k : S_X11_wrongThrow a c h K) : AW M_X11_wrongThrow (.inl K) 0 [some (aR 15 0), some (aI a), some (aI c)] [] h 0 0 := by
  refine vc_X11_wrongThrow a c ?_
  obtain ⟨V, hr, hw, k1, k2⟩ := k
  have h7 := hw.2.1
  obtain ⟨-, -, -, -, -, -, -, -, -, -, -, e1, -, -⟩ := RVs hr
  unfold S_X11_isSheep S_X11_isCell
  rw [e1]
  simp only [if10_eq, in_iff (x := a) (n := V 10 1) (by omega), in8_iff]
  refine ⟨fun q => k2 (fun ⟨n, m, a1, a2, a3, a4⟩ => q ⟨n, a1, a3⟩), fun q => ⟨fun q2 => ?_, fun q2 => k2 (fun ⟨n, m, a1, a2, a3, a4⟩ => ?_)⟩⟩
  · obtain ⟨n, hn, rfl⟩ := Decidable.not_not.mp q
    obtain ⟨m, hm, rfl⟩ := Decidable.not_not.mp q2
    have := k1 n m hn hm rfl rfl
    have hf : vFl V n ≤ 7 := fly_le _
    refine ⟨V, n, ⟨hr, hw, hn, rfl⟩, ?_⟩
    simp (disch := omega) only [n_le]
    refine ⟨fun z => ?_, fun z => ?_⟩
    · rw [if_neg (by omega)] at this; exact this
    · rw [if_pos (by omega)] at this; exact this
  · exact q2 (fun z => z ⟨m, a2, a4⟩)
theorem tr_X11_wrongThrow : ∀ (as : List AV) (h : AH) (K : Int32 → AH → Prop), T_X11_wrongThrow as h K → ∃ (q : Nat) (r : List AV), as = aR 15 q :: r := by
  intro as h K hk
  match as, hk with
  | [.inr (.inr (.inl q0)), .inl q1, .inl q2], hk =>
    obtain ⟨hb, hk⟩ := tif_inv hk
    simp only [Bool.and_eq_true] at hb
    obtain ⟨e0, e1⟩ := hb
    obtain ⟨a0, b0⟩ := q0
    have f0 : a0 = 15 := Nat.eq_of_beq_eq_true e0
    subst f0
    have f1 : b0 = 0 := Nat.eq_of_beq_eq_true e1
    subst f1
    exact ⟨_, _, rfl⟩
theorem tw_X11_wrongThrow : ∀ (as : List AV) (h : AH) (K : Int32 → AH → Prop), T_X11_wrongThrow as h K → (ini as).length ≤ mNL M_X11_wrongThrow ∧ AW M_X11_wrongThrow (.inl K) 0 (initL (mNL M_X11_wrongThrow) as) [] h 0 0 := by
  intro as h K hk
  match as, hk with
  | [.inr (.inr (.inl q0)), .inl q1, .inl q2], hk =>
    obtain ⟨hb, hk⟩ := tif_inv hk
    simp only [Bool.and_eq_true] at hb
    obtain ⟨e0, e1⟩ := hb
    obtain ⟨a0, b0⟩ := q0
    have f0 : a0 = 15 := Nat.eq_of_beq_eq_true e0
    subst f0
    have f1 : b0 = 0 := Nat.eq_of_beq_eq_true e1
    subst f1
    exact ⟨Nat.le_of_ble_eq_true rfl, snd_X11_wrongThrow q1 q2 hk⟩
theorem cr_RX11_495 : CR RX11 (kIns 495) (3, 3, 65, 0, 0, .inl T_X11_wrongThrow) := crV_i (t := 15) (M := M_X11_wrongThrow) (by decide) rfl (by decide) rfl (inG (i := 1125) (w := Cond.methodLink RX11 165 yX11_wrongThrow) (by decide +kernel) rfl) (inG (i := 1127) (w := Cond.instanceMethod yX11_wrongThrow) (by decide +kernel) rfl) (inG (i := 40) (w := Cond.initialized RX11) (by decide +kernel) rfl) (inG (i := 24) (w := Cond.selects RX11 yX11_wrongThrow yX11_wrongThrow) (by decide +kernel) rfl) (inG (i := 1128) (w := Cond.code yX11_wrongThrow cX11_wrongThrow 3 (some .int)) (by decide +kernel) rfl) ⟨by decide +kernel, by decide +kernel, by decide +kernel⟩ tr_X11_wrongThrow tw_X11_wrongThrow


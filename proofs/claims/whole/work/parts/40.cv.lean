/-! ===== the component: a valley object, its sheep ===== -/
def cA (h : AH) (t p sp t' p' dp n : Nat) : AH := (uC h.1 t p sp t' p' dp n, h.2)
/-- a sheep of a kind with a figure -/
def SHP (h : AH) (o : Option Nat) (k f : Nat) : Prop := ∃ a, o = some a ∧ h.1 18 a 0 = nI k ∧ h.1 18 a 1 = nI f ∧ h.1 18 a 2 = nI (wt k f) ∧ h.1 18 a 3 = nI (stk k f) ∧ h.1 18 a 4 = nI (fly k) ∧ h.1 18 a 5 = nI (prc k f) ∧ h.1 18 a 6 = nI (cstk k f)
def CV (h : AH) (v : Nat) (V : Vm) : Prop := (∀ t i, t < 8 → i < vLim V t → h.1 (t + 2) v i = nI (V t i)) ∧ h.1 1 v 4 = nI (V 10 0) ∧ h.1 1 v 9 = nI (V 10 1) ∧ h.1 1 v 11 = nI (V 10 2) ∧ h.1 1 v 12 = nI (V 10 3) ∧ ∀ s, s < V 10 1 → SHP h (h.2.1 10 v s) (V 8 s) (V 9 s)
theorem CVs {h : AH} {v : Nat} {V : Vm} (c : CV h v V) : (∀ c, c < 8 → h.1 2 v c = nI (V 0 c)) ∧ (∀ c, c < 8 → h.1 3 v c = nI (V 1 c)) ∧ (∀ c, c < 8 → h.1 4 v c = nI (V 2 c)) ∧ (∀ n, n < 4 → h.1 5 v n = nI (V 3 n)) ∧ (∀ e, e < V 10 0 → h.1 6 v e = nI (V 4 e)) ∧ (∀ e, e < V 10 0 → h.1 7 v e = nI (V 5 e)) ∧ (∀ e, e < V 10 0 → h.1 8 v e = nI (V 6 e)) ∧ (∀ e, e < V 10 0 → h.1 9 v e = nI (V 7 e)) ∧ h.1 1 v 4 = nI (V 10 0) ∧ h.1 1 v 9 = nI (V 10 1) ∧ h.1 1 v 11 = nI (V 10 2) ∧ h.1 1 v 12 = nI (V 10 3) ∧ ∀ s, s < V 10 1 → SHP h (h.2.1 10 v s) (V 8 s) (V 9 s) :=
  ⟨fun i q => c.1 0 i (by decide) q, fun i q => c.1 1 i (by decide) q, fun i q => c.1 2 i (by decide) q, fun i q => c.1 3 i (by decide) q, fun i q => c.1 4 i (by decide) q, fun i q => c.1 5 i (by decide) q, fun i q => c.1 6 i (by decide) q, fun i q => c.1 7 i (by decide) q, c.2⟩
/-- only the valley object v is another -/
def onlyV (v : Nat) (h h' : AH) : Prop := h'.2.2 = h.2.2 ∧ (∀ a b i, ¬ (1 ≤ a ∧ a ≤ 9 ∧ b = v) → h'.1 a b i = h.1 a b i) ∧ ∀ a b i, ¬ (a = 10 ∧ b = v) → h'.2.1 a b i = h.2.1 a b i
theorem onlyV_rfl (v : Nat) (h : AH) : onlyV v h h := ⟨rfl, fun _ _ _ _ => rfl, fun _ _ _ _ => rfl⟩
theorem onlyV_tr {v : Nat} {h h1 h2 : AH} (a : onlyV v h h1) (b : onlyV v h1 h2) : onlyV v h h2 := ⟨b.1.trans a.1, fun x y i q => (b.2.1 x y i q).trans (a.2.1 x y i q), fun x y i q => (b.2.2 x y i q).trans (a.2.2 x y i q)⟩
theorem onlyV_w {v t i : Nat} {x : Int32} {h : AH} (h1 : 1 ≤ t) (h2 : t ≤ 9) : onlyV v h (wI h t v i x) := ⟨rfl, fun a b j q => by rw [wI_get, if_neg (fun e => q ⟨by omega, by omega, e.2.1⟩)], fun _ _ _ _ => rfl⟩
theorem onlyV_r {v i : Nat} {x : Option Nat} {h : AH} : onlyV v h (wR h 10 v i x) := ⟨rfl, fun _ _ _ _ => rfl, fun a b j q => by rw [wR_get, if_neg (fun e => q ⟨e.1, e.2.1⟩)]⟩
theorem SHP_e {h h' : AH} {o : Option Nat} {k f : Nat} (e : ∀ a i, h'.1 18 a i = h.1 18 a i) (s : SHP h o k f) : SHP h' o k f := by
  obtain ⟨a, s0, s1, s2, s3, s4, s5, s6, s7⟩ := s
  exact ⟨a, s0, by rw [e, s1], by rw [e, s2], by rw [e, s3], by rw [e, s4], by rw [e, s5], by rw [e, s6], by rw [e, s7]⟩
theorem SHP_V {v : Nat} {h h' : AH} {o : Option Nat} {k f : Nat} (q : onlyV v h h') (s : SHP h o k f) : SHP h' o k f := SHP_e (fun a i => q.2.1 18 a i (by omega)) s
theorem CV_e {h h' : AH} {u : Nat} {V : Vm} (e1 : ∀ t i, 1 ≤ t → t ≤ 9 → h'.1 t u i = h.1 t u i) (e2 : ∀ i, h'.2.1 10 u i = h.2.1 10 u i) (e3 : ∀ a i, h'.1 18 a i = h.1 18 a i) (c : CV h u V) : CV h' u V := by
  obtain ⟨c1, c2, c3, c4, c5, c6⟩ := c
  refine ⟨fun t i ht hi => ?_, ?_, ?_, ?_, ?_, fun s hs => ?_⟩
  · rw [e1 _ _ (by omega) (by omega)]; exact c1 t i ht hi
  · rw [e1 _ _ (by omega) (by omega)]; exact c2
  · rw [e1 _ _ (by omega) (by omega)]; exact c3
  · rw [e1 _ _ (by omega) (by omega)]; exact c4
  · rw [e1 _ _ (by omega) (by omega)]; exact c5
  · rw [e2]; exact SHP_e e3 (c6 s hs)
theorem CV_V {v u : Nat} {h h' : AH} {V : Vm} (q : onlyV v h h') (hu : u ≠ v) (c : CV h u V) : CV h' u V := CV_e (fun t i _ _ => q.2.1 t u i (by omega)) (fun i => q.2.2 10 u i (by omega)) (fun a i => q.2.1 18 a i (by omega)) c
theorem CV_c {h : AH} {v : Nat} {V V' : Vm} (c : CV h v V) (h1 : ∀ i, i < 4 → V' 10 i = V 10 i) (hc : ∀ t i, t < 10 → i < vLim V t → V' t i = V t i) : CV h v V' := by
  obtain ⟨c1, c2, c3, c4, c5, c6⟩ := c
  have l : ∀ t, vLim V' t = vLim V t := fun t => vLim_c (h1 0 (by omega)) (h1 1 (by omega)) t
  refine ⟨fun t i ht hi => ?_, ?_, ?_, ?_, ?_, fun s hs => ?_⟩
  · rw [l] at hi
    rw [hc t i (by omega) hi]; exact c1 t i ht hi
  · rw [h1 0 (by omega)]; exact c2
  · rw [h1 1 (by omega)]; exact c3
  · rw [h1 2 (by omega)]; exact c4
  · rw [h1 3 (by omega)]; exact c5
  · rw [h1 1 (by omega)] at hs
    rw [hc 8 s (by omega) hs, hc 9 s (by omega) hs]; exact c6 s hs
theorem CV_set {h : AH} {v t i x : Nat} {V : Vm} (c : CV h v V) (ht : t < 8) : CV (wI h (t + 2) v i (nI x)) v (uV V t i x) := by
  obtain ⟨c1, c2, c3, c4, c5, c6⟩ := c
  refine ⟨fun a j ha hj => ?_, ?_, ?_, ?_, ?_, fun s hs => ?_⟩
  · rw [vLim_u (by omega)] at hj
    by_cases e : a = t ∧ j = i
    · obtain ⟨rfl, rfl⟩ := e
      rw [wI_at, uV_at]
    · rw [uV_ne e, wI_get, if_neg (fun z => e ⟨by omega, z.2.2⟩)]
      exact c1 a j ha hj
  · rw [uV_ne (by omega), wI_nt (by omega)]; exact c2
  · rw [uV_ne (by omega), wI_nt (by omega)]; exact c3
  · rw [uV_ne (by omega), wI_nt (by omega)]; exact c4
  · rw [uV_ne (by omega), wI_nt (by omega)]; exact c5
  · rw [uV_ne (by omega)] at hs
    rw [uV_ne (by omega), uV_ne (by omega)]
    exact SHP_e (fun a i => wI_nt (by omega)) (c6 s hs)
theorem CV_hour {h : AH} {v x : Nat} {V : Vm} (c : CV h v V) : CV (wI h 1 v 11 (nI x)) v (uV V 10 2 x) := by
  obtain ⟨c1, c2, c3, c4, c5, c6⟩ := c
  refine ⟨fun a j ha hj => ?_, ?_, ?_, ?_, ?_, fun s hs => ?_⟩
  · rw [vLim_u (by omega)] at hj
    rw [uV_ne (by omega), wI_nt (by omega)]
    exact c1 a j ha hj
  · rw [uV_ne (by omega), wI_ni (by omega)]; exact c2
  · rw [uV_ne (by omega), wI_ni (by omega)]; exact c3
  · rw [uV_at, wI_at]
  · rw [uV_ne (by omega), wI_ni (by omega)]; exact c5
  · rw [uV_ne (by omega)] at hs
    rw [uV_ne (by omega), uV_ne (by omega)]
    exact SHP_e (fun a i => wI_nt (by omega)) (c6 s hs)
theorem CV_drums {h : AH} {v x : Nat} {V : Vm} (c : CV h v V) : CV (wI h 1 v 12 (nI x)) v (uV V 10 3 x) := by
  obtain ⟨c1, c2, c3, c4, c5, c6⟩ := c
  refine ⟨fun a j ha hj => ?_, ?_, ?_, ?_, ?_, fun s hs => ?_⟩
  · rw [vLim_u (by omega)] at hj
    rw [uV_ne (by omega), wI_nt (by omega)]
    exact c1 a j ha hj
  · rw [uV_ne (by omega), wI_ni (by omega)]; exact c2
  · rw [uV_ne (by omega), wI_ni (by omega)]; exact c3
  · rw [uV_ne (by omega), wI_ni (by omega)]; exact c4
  · rw [uV_at, wI_at]
  · rw [uV_ne (by omega)] at hs
    rw [uV_ne (by omega), uV_ne (by omega)]
    exact SHP_e (fun a i => wI_nt (by omega)) (c6 s hs)
/-! the native calls of the component -/
theorem cr_RX10_811 : CR RX10 (kIns 811) (5, 1, 26, 0, 0, .inr (.inl T_acopy)) := cr_acopy (inG (i := 767) (w := Cond.methodLink RX10 270 arraycopyName) (by decide +kernel) rfl)
theorem cr_RX10_1009 : CR RX10 (kIns 1009) (2, 1, 21, 0, 0, .inl T_min) := cr_min (inG (i := 503) (w := Cond.methodLink RX10 336 Lib.Math.min.name) (by decide +kernel) rfl)
theorem cr_RX9_139 : CR RX9 (kIns 139) (5, 1, 26, 0, 0, .inr (.inl T_acopy)) := cr_acopy (inG (i := 210) (w := Cond.methodLink RX9 46 arraycopyName) (by decide +kernel) rfl)
theorem cr_RX9_313 : CR RX9 (kIns 313) (2, 1, 21, 0, 0, .inl T_min) := cr_min (inG (i := 456) (w := Cond.methodLink RX9 104 Lib.Math.min.name) (by decide +kernel) rfl)
theorem cr_RX9_340 : CR RX9 (kIns 340) (2, 1, 21, 0, 0, .inl T_max) := cr_max (inG (i := 507) (w := Cond.methodLink RX9 113 Lib.Math.max.name) (by decide +kernel) rfl)
/-! the leaves -/
def S_X10_within (v a b : Int32) (h : AH) (K : Int32 → AH → Prop) : Prop := K (if a ≤ v ∧ v ≤ b then nI 1 else nI 0) h
def T_X10_within : List AV → AH → (Int32 → AH → Prop) → Prop := fun as h K => match as with
  | [.inl q0, .inl q1, .inl q2] => S_X10_within q0 q1 q2 h K
  | _ => False

def M_X10_within : MI := (RX10, cX10_within, 3, [(0, .iload_n 0, []), (1, .iload_n 1, []), (2, .if_icmp .lt 12, [14]), (5, .iload_n 0, []), (6, .iload_n 2, []), (7, .if_icmp .gt 7, [14]), (10, .iconst 1, []), (11, .goto 4, [15]), (14, .iconst 0, []), (15, .ireturn, [])], [], [], [], [], 0, 0, 0, 0)
theorem ok_X10_within : MOK M_X10_within := ⟨by decide +kernel, fun _ h => absurd h List.not_mem_nil, fun _ h => absurd h List.not_mem_nil, fun _ h => absurd h List.not_mem_nil, fun _ h => absurd h List.not_mem_nil⟩
set_option maxRecDepth 100000 in
theorem vc_X10_within {K : Int32 → AH → Prop} {h : AH} (p0 : Int32) (p1 : Int32) (p2 : Int32) (H : ((p0 < p1) → (((nI 0) = 0 ∨ (nI 0) = 1) ∧ K (nI 0) h)) ∧ (¬ (p0 < p1) → ((p2 < p0) → (((nI 0) = 0 ∨ (nI 0) = 1) ∧ K (nI 0) h)) ∧ (¬ (p2 < p0) → (((nI 1) = 0 ∨ (nI 1) = 1) ∧ K (nI 1) h)))) : AW M_X10_within (.inl (fun x u => (x = 0 ∨ x = 1) ∧ K x u)) 0 [some (aI p0), some (aI p1), some (aI p2)] [] h 0 0 := AW_go (cuts := []) ok_X10_within 400 H

theorem not_lt_i {a b : Int32} : ¬ a < b ↔ b ≤ a := Int32.not_lt
theorem snd_X10_within (v a b : Int32) {h : AH} {K : Int32 → AH → Prop} (k : S_X10_within v a b h K) : AW M_X10_within (.inl (fun x u => (x = 0 ∨ x = 1) ∧ K x u)) 0 [some (aI v), some (aI a), some (aI b)] [] h 0 0 := by
  refine vc_X10_within v a b ?_
  unfold S_X10_within at k
  refine ⟨fun q => ⟨Or.inl (by decide), ?_⟩, fun q => ⟨fun q2 => ⟨Or.inl (by decide), ?_⟩, fun q2 => ⟨Or.inr (by decide), ?_⟩⟩⟩
  · rw [if_neg (fun z => not_lt_i.mpr z.1 q)] at k; exact k
  · rw [if_neg (fun z => not_lt_i.mpr z.2 q2)] at k; exact k
  · rw [if_pos ⟨not_lt_i.mp q, not_lt_i.mp q2⟩] at k; exact k
theorem tw_X10_within : ∀ (as : List AV) (h : AH) (K : Int32 → AH → Prop), T_X10_within as h K → (ini as).length ≤ mNL M_X10_within ∧ AW M_X10_within (.inl (fun x u => (x = 0 ∨ x = 1) ∧ K x u)) 0 (initL (mNL M_X10_within) as) [] h 0 0 := by
  intro as h K hk
  match as, hk with
  | [.inl q0, .inl q1, .inl q2], hk =>
    exact ⟨Nat.le_of_ble_eq_true rfl, snd_X10_within q0 q1 q2 hk⟩
theorem cr_RX10_178 : CR RX10 (kIns 178) (3, 1, 22, 0, 0, .inl T_X10_within) := crS_z (M := M_X10_within) (by decide) rfl (inG (i := 191) (w := Cond.methodLink RX10 59 yX10_within) (by decide +kernel) rfl) (inG (i := 192) (w := Cond.static yX10_within) (by decide +kernel) rfl) (inG (i := 37) (w := Cond.initialized RX10) (by decide +kernel) rfl) (inG (i := 193) (w := Cond.code yX10_within cX10_within 3 (some .boolean)) (by decide +kernel) rfl) ⟨by decide +kernel, by decide +kernel, by decide +kernel⟩ tw_X10_within
theorem cr_RX5_106 : CR RX5 (kIns 106) (3, 1, 22, 0, 0, .inl T_X10_within) := crN_z (host := RX10) (M := M_X10_within) (by decide) rfl (by decide +kernel) (inG (i := 192) (w := Cond.static yX10_within) (by decide +kernel) rfl) (inG (i := 37) (w := Cond.initialized RX10) (by decide +kernel) rfl) (inG (i := 193) (w := Cond.code yX10_within cX10_within 3 (some .boolean)) (by decide +kernel) rfl) ⟨by decide +kernel, by decide +kernel, by decide +kernel⟩ tw_X10_within
theorem cr_RX9_184 : CR RX9 (kIns 184) (3, 1, 22, 0, 0, .inl T_X10_within) := crN_z (host := RX10) (M := M_X10_within) (by decide) rfl (by decide +kernel) (inG (i := 192) (w := Cond.static yX10_within) (by decide +kernel) rfl) (inG (i := 37) (w := Cond.initialized RX10) (by decide +kernel) rfl) (inG (i := 193) (w := Cond.code yX10_within cX10_within 3 (some .boolean)) (by decide +kernel) rfl) ⟨by decide +kernel, by decide +kernel, by decide +kernel⟩ tw_X10_within

def S_X10_worthOfPair (p : Int32) (h : AH) (K : Int32 → AH → Prop) : Prop := ∃ P, P < 1000 ∧ p = nI P ∧ K (nI (5 * (P / 10) + P % 10)) h
def T_X10_worthOfPair : List AV → AH → (Int32 → AH → Prop) → Prop := fun as h K => match as with
  | [.inl q0] => S_X10_worthOfPair q0 h K
  | _ => False

def M_X10_worthOfPair : MI := (RX10, cX10_worthOfPair, 1, [(0, .iconst 5, []), (1, .iload_n 0, []), (2, .bipush 10, []), (4, .idiv, []), (5, .imul, []), (6, .iload_n 0, []), (7, .bipush 10, []), (9, .irem, []), (10, .iadd, []), (11, .ireturn, [])], [], [], [], [], 0, 0, 0, 0)
theorem ok_X10_worthOfPair : MOK M_X10_worthOfPair := ⟨by decide +kernel, fun _ h => absurd h List.not_mem_nil, fun _ h => absurd h List.not_mem_nil, fun _ h => absurd h List.not_mem_nil, fun _ h => absurd h List.not_mem_nil⟩
set_option maxRecDepth 100000 in
theorem vc_X10_worthOfPair {K : Int32 → AH → Prop} {h : AH} (p0 : Int32) (H : (¬ (nI 10) = 0) ∧ (¬ (nI 10) = 0) ∧ K (((nI 5) * (p0 / (nI 10))) + (p0 - p0 / (nI 10) * (nI 10))) h) : AW M_X10_worthOfPair (.inl K) 0 [some (aI p0)] [] h 0 0 := AW_go (cuts := []) ok_X10_worthOfPair 400 H

theorem snd_X10_worthOfPair (p : Int32) {h : AH} {K : Int32 → AH → Prop} (k : S_X10_worthOfPair p h K) : AW M_X10_worthOfPair (.inl K) 0 [some (aI p)] [] h 0 0 := by
  obtain ⟨P, hP, rfl, k⟩ := k
  refine vc_X10_worthOfPair (nI P) ⟨by decide, by decide, ?_⟩
  rw [n_rem (show P < 2147483648 by omega) (by omega) (by omega), n_div (show P < 2147483648 by omega) (by omega) (by omega), pk_mul, nI_add]
  exact k
theorem tw_X10_worthOfPair : ∀ (as : List AV) (h : AH) (K : Int32 → AH → Prop), T_X10_worthOfPair as h K → (ini as).length ≤ mNL M_X10_worthOfPair ∧ AW M_X10_worthOfPair (.inl K) 0 (initL (mNL M_X10_worthOfPair) as) [] h 0 0 := by
  intro as h K hk
  match as, hk with
  | [.inl q0], hk =>
    exact ⟨Nat.le_of_ble_eq_true rfl, snd_X10_worthOfPair q0 hk⟩
theorem cr_RX10_601 : CR RX10 (kIns 601) (1, 1, 20, 0, 0, .inl T_X10_worthOfPair) := crS_i (M := M_X10_worthOfPair) (by decide) rfl (inG (i := 657) (w := Cond.methodLink RX10 200 yX10_worthOfPair) (by decide +kernel) rfl) (inG (i := 505) (w := Cond.static yX10_worthOfPair) (by decide +kernel) rfl) (inG (i := 37) (w := Cond.initialized RX10) (by decide +kernel) rfl) (inG (i := 506) (w := Cond.code yX10_worthOfPair cX10_worthOfPair 1 (some .int)) (by decide +kernel) rfl) ⟨by decide +kernel, by decide +kernel, by decide +kernel⟩ tw_X10_worthOfPair
theorem cr_RX9_304 : CR RX9 (kIns 304) (1, 1, 20, 0, 0, .inl T_X10_worthOfPair) := crN_i (host := RX10) (M := M_X10_worthOfPair) (by decide) rfl (by decide +kernel) (inG (i := 505) (w := Cond.static yX10_worthOfPair) (by decide +kernel) rfl) (inG (i := 37) (w := Cond.initialized RX10) (by decide +kernel) rfl) (inG (i := 506) (w := Cond.code yX10_worthOfPair cX10_worthOfPair 1 (some .int)) (by decide +kernel) rfl) ⟨by decide +kernel, by decide +kernel, by decide +kernel⟩ tw_X10_worthOfPair

def skP (k P : Nat) : Nat := 10 * tkB k (P / 10) + tkS k (P / 10) (P % 10)
theorem skP_ok {k P : Nat} (hP : P < 100) : skP k P / 10 = tkB k (P / 10) ∧ skP k P % 10 = tkS k (P / 10) (P % 10) ∧ skP k P < 100 ∧ skP k P ≤ P := by
  have := tk_le k (P / 10) (P % 10)
  unfold skP
  omega
def S_X10_stuckOf (p k : Int32) (h : AH) (K : Int32 → AH → Prop) : Prop := ∃ P x, P < 100 ∧ x ≤ 12 ∧ p = nI P ∧ k = nI x ∧ K (nI (skP x P)) h
def T_X10_stuckOf : List AV → AH → (Int32 → AH → Prop) → Prop := fun as h K => match as with
  | [.inl q0, .inl q1] => S_X10_stuckOf q0 q1 h K
  | _ => False

def M_X10_stuckOf : MI := (RX10, cX10_stuckOf, 3, [(0, .iload_n 0, []), (1, .bipush 10, []), (3, .idiv, []), (4, .iload_n 1, []), (5, .invokestatic 336, []), (8, .istore_n 2, []), (9, .bipush 10, []), (11, .iload_n 2, []), (12, .imul, []), (13, .iload_n 0, []), (14, .bipush 10, []), (16, .irem, []), (17, .iload_n 1, []), (18, .iload_n 2, []), (19, .isub, []), (20, .invokestatic 336, []), (23, .iadd, []), (24, .ireturn, [])], [], [], [], [(1009, (2, 1, 21, 0, 0, .inl T_min))], 1, 21, 0, 0)
theorem ok_X10_stuckOf : MOK M_X10_stuckOf := ⟨by decide +kernel, fun _ h => absurd h List.not_mem_nil, fun _ h => absurd h List.not_mem_nil, fun _ h => absurd h List.not_mem_nil, List.forall_mem_cons.mpr ⟨⟨Nat.le_of_ble_eq_true rfl, Nat.le_of_ble_eq_true rfl, cr_RX10_1009⟩, fun _ h => absurd h List.not_mem_nil⟩⟩
set_option maxRecDepth 100000 in
theorem vc_X10_stuckOf {K : Int32 → AH → Prop} {h : AH} (p0 : Int32) (p1 : Int32) (H : (¬ (nI 10) = 0) ∧ (¬ (nI 10) = 0) ∧ K (((nI 10) * (if p1 < (p0 / (nI 10)) then p1 else (p0 / (nI 10)))) + (if (p1 - (if p1 < (p0 / (nI 10)) then p1 else (p0 / (nI 10)))) < (p0 - p0 / (nI 10) * (nI 10)) then (p1 - (if p1 < (p0 / (nI 10)) then p1 else (p0 / (nI 10)))) else (p0 - p0 / (nI 10) * (nI 10)))) h) : AW M_X10_stuckOf (.inl K) 0 [some (aI p0), some (aI p1), none] [] h 0 0 := AW_go (cuts := []) ok_X10_stuckOf 400 H

theorem min_n {a b : Nat} (ha : a < 2147483648) (hb : b < 2147483648) : (if nI b < nI a then nI b else nI a) = nI (min a b) := by
  by_cases h : b < a
  · rw [if_pos ((n_lt hb ha).mpr h), Nat.min_eq_right (by omega)]
  · rw [if_neg (fun q => h ((n_lt hb ha).mp q)), Nat.min_eq_left (by omega)]
theorem snd_X10_stuckOf (p k : Int32) {h : AH} {K : Int32 → AH → Prop} (kk : S_X10_stuckOf p k h K) : AW M_X10_stuckOf (.inl K) 0 [some (aI p), some (aI k), none] [] h 0 0 := by
  obtain ⟨P, x, hP, hx, rfl, rfl, kk⟩ := kk
  refine vc_X10_stuckOf (nI P) (nI x) ⟨by decide, by decide, ?_⟩
  rw [n_rem (show P < 2147483648 by omega) (by omega) (by omega), n_div (show P < 2147483648 by omega) (by omega) (by omega)]
  rw [min_n (by omega) (by omega), n_sub (by omega), min_n (by omega) (by omega), pk_mul, nI_add]
  unfold skP tkB tkS at kk
  rw [Nat.min_comm (P / 10) x, Nat.min_comm (P % 10)]
  exact kk
theorem tw_X10_stuckOf : ∀ (as : List AV) (h : AH) (K : Int32 → AH → Prop), T_X10_stuckOf as h K → (ini as).length ≤ mNL M_X10_stuckOf ∧ AW M_X10_stuckOf (.inl K) 0 (initL (mNL M_X10_stuckOf) as) [] h 0 0 := by
  intro as h K hk
  match as, hk with
  | [.inl q0, .inl q1], hk =>
    exact ⟨Nat.le_of_ble_eq_true rfl, snd_X10_stuckOf q0 q1 hk⟩
theorem cr_RX10_1036 : CR RX10 (kIns 1036) (2, 2, 43, 0, 0, .inl T_X10_stuckOf) := crS_i (M := M_X10_stuckOf) (by decide) rfl (inG (i := 656) (w := Cond.methodLink RX10 345 yX10_stuckOf) (by decide +kernel) rfl) (inG (i := 501) (w := Cond.static yX10_stuckOf) (by decide +kernel) rfl) (inG (i := 37) (w := Cond.initialized RX10) (by decide +kernel) rfl) (inG (i := 502) (w := Cond.code yX10_stuckOf cX10_stuckOf 3 (some .int)) (by decide +kernel) rfl) ⟨by decide +kernel, by decide +kernel, by decide +kernel⟩ tw_X10_stuckOf
theorem cr_RX9_271 : CR RX9 (kIns 271) (2, 2, 43, 0, 0, .inl T_X10_stuckOf) := crN_i (host := RX10) (M := M_X10_stuckOf) (by decide) rfl (by decide +kernel) (inG (i := 501) (w := Cond.static yX10_stuckOf) (by decide +kernel) rfl) (inG (i := 37) (w := Cond.initialized RX10) (by decide +kernel) rfl) (inG (i := 502) (w := Cond.code yX10_stuckOf cX10_stuckOf 3 (some .int)) (by decide +kernel) rfl) ⟨by decide +kernel, by decide +kernel, by decide +kernel⟩ tw_X10_stuckOf

def rsO (k : Nat) (e : Int32) (o : Option Nat) : Option Nat := match o with
  | none => none
  | some P => if nI (tkV k (P / 10) (P % 10)) = e then some (P - skP k P) else none
def S_X10_restOf (p k e : Int32) (h : AH) (K : Int32 → AH → Prop) : Prop := ∃ o x, (∀ P, o = some P → P < 100) ∧ p = oI o ∧ x ≤ 12 ∧ k = nI x ∧ K (oI (rsO x e o)) h
def T_X10_restOf : List AV → AH → (Int32 → AH → Prop) → Prop := fun as h K => match as with
  | [.inl q0, .inl q1, .inl q2] => S_X10_restOf q0 q1 q2 h K
  | _ => False

def M_X10_restOf : MI := (RX10, cX10_restOf, 4, [(0, .iload_n 0, []), (1, .bipush (-4), []), (3, .if_icmp .ne 6, [9]), (6, .bipush (-4), []), (8, .ireturn, []), (9, .iload_n 0, []), (10, .iload_n 1, []), (11, .invokestatic 345, []), (14, .istore_n 3, []), (15, .iload_n 3, []), (16, .invokestatic 200, []), (19, .iload_n 2, []), (20, .if_icmp .ne 9, [29]), (23, .iload_n 0, []), (24, .iload_n 3, []), (25, .isub, []), (26, .goto 5, [31]), (29, .bipush (-4), []), (31, .ireturn, [])], [], [], [], [(1036, (2, 2, 43, 0, 0, .inl T_X10_stuckOf)), (601, (1, 1, 20, 0, 0, .inl T_X10_worthOfPair))], 2, 43, 0, 0)
theorem ok_X10_restOf : MOK M_X10_restOf := ⟨by decide +kernel, fun _ h => absurd h List.not_mem_nil, fun _ h => absurd h List.not_mem_nil, fun _ h => absurd h List.not_mem_nil, List.forall_mem_cons.mpr ⟨⟨Nat.le_of_ble_eq_true rfl, Nat.le_of_ble_eq_true rfl, cr_RX10_1036⟩, List.forall_mem_cons.mpr ⟨⟨Nat.le_of_ble_eq_true rfl, Nat.le_of_ble_eq_true rfl, cr_RX10_601⟩, fun _ h => absurd h List.not_mem_nil⟩⟩⟩
set_option maxRecDepth 100000 in
theorem vc_X10_restOf {K : Int32 → AH → Prop} {h : AH} (p0 : Int32) (p1 : Int32) (p2 : Int32) (H : ((¬ p0 = (iI (-4))) → S_X10_stuckOf p0 p1 h (fun x2 h1 => S_X10_worthOfPair x2 h1 (fun x4 h3 => ((¬ x4 = p2) → K (iI (-4)) h3) ∧ (¬ (¬ x4 = p2) → K (p0 - x2) h3)))) ∧ (¬ (¬ p0 = (iI (-4))) → K (iI (-4)) h)) : AW M_X10_restOf (.inl K) 0 [some (aI p0), some (aI p1), some (aI p2), none] [] h 0 0 := AW_go (cuts := []) ok_X10_restOf 400 H

theorem snd_X10_restOf (p k e : Int32) {h : AH} {K : Int32 → AH → Prop} (kk : S_X10_restOf p k e h K) : AW M_X10_restOf (.inl K) 0 [some (aI p), some (aI k), some (aI e), none] [] h 0 0 := by
  obtain ⟨o, x, ho, rfl, hx, rfl, kk⟩ := kk
  refine vc_X10_restOf (oI o) (nI x) e ?_
  cases o with
  | none => exact ⟨fun q => absurd rfl q, fun _ => kk⟩
  | some P =>
    have hP := ho P rfl
    obtain ⟨s1, s2, s3, s4⟩ := skP_ok (k := x) hP
    refine ⟨fun _ => ⟨P, x, hP, hx, rfl, rfl, skP x P, by omega, rfl, ?_⟩, fun z => absurd (fun e => by
      have e : nI P = iI (-4) := e
      rw [m_ne (by omega) (by omega) (by omega)] at e
      exact e) z⟩
    rw [s1, s2]
    have kk : K (oI (if nI (tkV x (P / 10) (P % 10)) = e then some (P - skP x P) else none)) h := kk
    unfold tkV at kk
    refine ⟨fun q => ?_, fun q => ?_⟩
    · rw [if_neg q] at kk; exact kk
    · rw [if_pos (Decidable.not_not.mp q)] at kk
      show K (nI P - nI (skP x P)) h
      rw [n_sub s4]
      exact kk
theorem tw_X10_restOf : ∀ (as : List AV) (h : AH) (K : Int32 → AH → Prop), T_X10_restOf as h K → (ini as).length ≤ mNL M_X10_restOf ∧ AW M_X10_restOf (.inl K) 0 (initL (mNL M_X10_restOf) as) [] h 0 0 := by
  intro as h K hk
  match as, hk with
  | [.inl q0, .inl q1, .inl q2], hk =>
    exact ⟨Nat.le_of_ble_eq_true rfl, snd_X10_restOf q0 q1 q2 hk⟩
theorem cr_RX10_1024 : CR RX10 (kIns 1024) (3, 3, 66, 0, 0, .inl T_X10_restOf) := crS_i (M := M_X10_restOf) (by decide) rfl (inG (i := 653) (w := Cond.methodLink RX10 341 yX10_restOf) (by decide +kernel) rfl) (inG (i := 654) (w := Cond.static yX10_restOf) (by decide +kernel) rfl) (inG (i := 37) (w := Cond.initialized RX10) (by decide +kernel) rfl) (inG (i := 655) (w := Cond.code yX10_restOf cX10_restOf 4 (some .int)) (by decide +kernel) rfl) ⟨by decide +kernel, by decide +kernel, by decide +kernel⟩ tw_X10_restOf

def S_X10_nextSeed (z : Int32) (h : AH) (K : Int32 → AH → Prop) : Prop := K (nxs z) h
def T_X10_nextSeed : List AV → AH → (Int32 → AH → Prop) → Prop := fun as h K => match as with
  | [.inl q0] => S_X10_nextSeed q0 h K
  | _ => False

def M_X10_nextSeed : MI := (RX10, cX10_nextSeed, 1, [(0, .iload_n 0, []), (1, .ldc_w 354, []), (4, .imul, []), (5, .sipush 12345, []), (8, .iadd, []), (9, .ireturn, [])], [], [(354, 1103515245)], [], [], 0, 0, 0, 0)
theorem ok_X10_nextSeed : MOK M_X10_nextSeed := ⟨by decide +kernel, fun _ h => absurd h List.not_mem_nil, List.forall_mem_cons.mpr ⟨(inG (i := 720) (w := Cond.constant RX10 354 1103515245) (by decide +kernel) rfl), fun _ h => absurd h List.not_mem_nil⟩, fun _ h => absurd h List.not_mem_nil, fun _ h => absurd h List.not_mem_nil⟩
set_option maxRecDepth 100000 in
theorem vc_X10_nextSeed {K : Int32 → AH → Prop} {h : AH} (p0 : Int32) (H : K ((p0 * (1103515245 : Int32)) + (nI 12345)) h) : AW M_X10_nextSeed (.inl K) 0 [some (aI p0)] [] h 0 0 := AW_go (cuts := []) ok_X10_nextSeed 400 H

theorem snd_X10_nextSeed (z : Int32) {h : AH} {K : Int32 → AH → Prop} (k : S_X10_nextSeed z h K) : AW M_X10_nextSeed (.inl K) 0 [some (aI z)] [] h 0 0 := vc_X10_nextSeed z k
theorem tw_X10_nextSeed : ∀ (as : List AV) (h : AH) (K : Int32 → AH → Prop), T_X10_nextSeed as h K → (ini as).length ≤ mNL M_X10_nextSeed ∧ AW M_X10_nextSeed (.inl K) 0 (initL (mNL M_X10_nextSeed) as) [] h 0 0 := by
  intro as h K hk
  match as, hk with
  | [.inl q0], hk =>
    exact ⟨Nat.le_of_ble_eq_true rfl, snd_X10_nextSeed q0 hk⟩
theorem cr_RX10_661 : CR RX10 (kIns 661) (1, 1, 20, 0, 0, .inl T_X10_nextSeed) := crS_i (M := M_X10_nextSeed) (by decide) rfl (inG (i := 717) (w := Cond.methodLink RX10 220 yX10_nextSeed) (by decide +kernel) rfl) (inG (i := 718) (w := Cond.static yX10_nextSeed) (by decide +kernel) rfl) (inG (i := 37) (w := Cond.initialized RX10) (by decide +kernel) rfl) (inG (i := 719) (w := Cond.code yX10_nextSeed cX10_nextSeed 1 (some .int)) (by decide +kernel) rfl) ⟨by decide +kernel, by decide +kernel, by decide +kernel⟩ tw_X10_nextSeed


/-! ===== the component: what came up ===== -/
def rs (E : Nat → Int32) (k P : Nat) : Nat → Option Nat
  | 0 => some P
  | i + 1 => rsO k (E i) (rs E k P i)
def it (E : Nat → Int32) (k : Nat) : Nat → Nat → Option Nat → Option Nat
  | 0, _, o => o
  | c + 1, t, o => it E k c (t + 1) (rsO k (E t) o)
theorem it_s {E : Nat → Int32} {k : Nat} : ∀ c t o, it E k (c + 1) t o = rsO k (E (t + c)) (it E k c t o)
  | 0, t, o => rfl
  | c + 1, t, o => by
    have := it_s (E := E) (k := k) c (t + 1) (rsO k (E t) o)
    show it E k (c + 1) (t + 1) (rsO k (E t) o) = _
    rw [this, show t + 1 + c = t + (c + 1) by omega]
    rfl
theorem it_n {E : Nat → Int32} {k : Nat} : ∀ c t, it E k c t none = none
  | 0, _ => rfl
  | c + 1, t => it_n c (t + 1)
theorem rs_it {E : Nat → Int32} {k P : Nat} : ∀ i, rs E k P i = it E k i 0 (some P)
  | 0 => rfl
  | i + 1 => by rw [it_s, Nat.zero_add, ← rs_it i]; rfl
theorem rsO_s {k b s : Nat} {e : Int32} (hb : b ≤ 9) (hs : s ≤ 9) : rsO k e (some (10 * b + s)) = if nI (tkV k b s) = e then some (10 * (b - tkB k b) + (s - tkS k b s)) else none := by
  obtain ⟨-, -, -, h4⟩ := skP_ok (k := k) (P := 10 * b + s) (by omega)
  have e1 : (10 * b + s) / 10 = b := by omega
  have e2 : (10 * b + s) % 10 = s := by omega
  have := tk_le k b s
  show (if nI (tkV k ((10 * b + s) / 10) ((10 * b + s) % 10)) = e then some (10 * b + s - skP k (10 * b + s)) else none) = _
  unfold skP
  rw [e1, e2, show 10 * b + s - (10 * tkB k b + tkS k b s) = 10 * (b - tkB k b) + (s - tkS k b s) by omega]
theorem wa_it {E : Nat → Int32} {k : Nat} : ∀ r t b s, b ≤ 9 → s ≤ 9 → (∀ c, c ≤ r → (it E k c t (some (10 * b + s)) ≠ none ↔ t + c ≤ (wa E k r t b s).1)) ∧ ((wa E k r t b s).1 = t + r → it E k r t (some (10 * b + s)) = some (10 * (wa E k r t b s).2.1 + (wa E k r t b s).2.2))
  | 0, t, b, s, hb, hs => by
    refine ⟨fun c hc => ?_, fun _ => rfl⟩
    have : c = 0 := by omega
    subst this
    exact ⟨fun _ => Nat.le_refl _, fun _ z => by cases z⟩
  | r + 1, t, b, s, hb, hs => by
    have hst : ∀ c, it E k (c + 1) t (some (10 * b + s)) = it E k c (t + 1) (rsO k (E t) (some (10 * b + s))) := fun c => rfl
    rw [rsO_s hb hs] at hst
    have hwb := wa_b (E := E) (k := k) r (t + 1) (b - tkB k b) (s - tkS k b s) (by omega) (by omega)
    obtain ⟨i1, i2⟩ := wa_it (E := E) (k := k) r (t + 1) (b - tkB k b) (s - tkS k b s) (by omega) (by omega)
    rw [wa]
    by_cases z : nI (tkV k b s) = E t
    · rw [if_pos z]
      simp only [if_pos z] at hst
      refine ⟨fun c hc => ?_, fun e => ?_⟩
      · cases c with
        | zero => exact ⟨fun _ => by omega, fun _ y => by cases y⟩
        | succ c =>
          rw [hst c, i1 c (by omega)]
          omega
      · rw [hst r]
        exact i2 (by omega)
    · rw [if_neg z]
      simp only [if_neg z] at hst
      refine ⟨fun c hc => ?_, fun e => ?_⟩
      · cases c with
        | zero => exact ⟨fun _ => Nat.le_refl _, fun _ y => by cases y⟩
        | succ c =>
          rw [hst c, it_n]
          exact ⟨fun y => absurd rfl y, fun y => by have y : t + (c + 1) ≤ t := y; omega⟩
      · have e : t = t + (r + 1) := e
        omega
theorem waP_it {E : Nat → Int32} {k sz P : Nat} (hP : P < 100) : (∀ c, c ≤ sz → (rs E k P c ≠ none ↔ c ≤ (waP E k sz P).1)) ∧ rs E k P sz = fitO E k sz P := by
  obtain ⟨i1, i2⟩ := wa_it (E := E) (k := k) sz 0 (P / 10) (P % 10) (by omega) (by omega)
  rw [show 10 * (P / 10) + P % 10 = P by omega] at i1 i2
  have hwb := wa_b (E := E) (k := k) sz 0 (P / 10) (P % 10) (by omega) (by omega)
  have h1 : ∀ c, c ≤ sz → (rs E k P c ≠ none ↔ c ≤ (waP E k sz P).1) := fun c hc => by
    rw [rs_it, i1 c hc, Nat.zero_add]
    rfl
  refine ⟨h1, ?_⟩
  unfold fitO
  by_cases z : (waP E k sz P).1 = sz
  · rw [if_pos z, rs_it]
    exact i2 (by rw [Nat.zero_add]; exact z)
  · rw [if_neg z]
    cases hq : rs E k P sz with
    | none => rfl
    | some x =>
      have := (h1 sz (Nat.le_refl _)).mp (by rw [hq]; exact fun y => by cases y)
      have hb : (waP E k sz P).1 ≤ 0 + sz := hwb.2.1
      omega
theorem rs_le {E : Nat → Int32} {k P : Nat} (hP : P < 100) : ∀ i x, rs E k P i = some x → x ≤ P
  | 0, x, h => by
    have : P = x := Option.some.inj h
    omega
  | i + 1, x, h => by
    have h : rsO k (E i) (rs E k P i) = some x := h
    cases hq : rs E k P i with
    | none =>
      rw [hq] at h
      cases h
    | some y =>
      have hy := rs_le hP i y hq
      rw [hq] at h
      have h : (if nI (tkV k (y / 10) (y % 10)) = E i then some (y - skP k y) else none) = some x := h
      split at h
      · have : y - skP k y = x := Option.some.inj h
        omega
      · cases h
theorem frg_ge {E : Nat → Int32} {k sz : Nat} : ∀ N P, P < N → (waP E k sz P).1 ≤ frg E k sz N
  | 0, P, h => by omega
  | N + 1, P, h => by
    unfold frg
    rcases Nat.lt_or_ge P N with z | z
    · have := frg_ge (E := E) (k := k) (sz := sz) N P z
      omega
    · rw [show P = N by omega]
      omega
theorem frg_lub {E : Nat → Int32} {k sz B : Nat} : ∀ N, (∀ P, P < N → (waP E k sz P).1 ≤ B) → frg E k sz N ≤ B
  | 0, _ => Nat.zero_le _
  | N + 1, h => by
    have h1 := frg_lub N (fun P hP => h P (by omega))
    have h2 := h N (by omega)
    unfold frg
    omega
def S_X10_fitPairs (o : Option Nat) (d : Nat) (h : AH) (K : Int32 → AH → Prop) : Prop := ∃ S k f, rowP h S d ∧ SHP h o k f ∧ f ≤ 9 ∧ ∀ h', only 14 0 h h' → (∀ P, P < 100 → h'.1 14 0 P = oI (fitO (S.2 d) (stk k f) (S.1 4 d) P)) → K (if frg (S.2 d) (stk k f) (S.1 4 d) 100 = S.1 4 d then iI (-4) else nI (frg (S.2 d) (stk k f) (S.1 4 d) 100)) h'
def T_X10_fitPairs : List AV → AH → (Int32 → AH → Prop) → Prop := fun as h K => match as with
  | [.inr (.inr (.inl q0)), .inr (.inr (.inr q1)), .inr (.inr (.inl q2))] => tif (Nat.beq q0.1 0 && Nat.beq q0.2 0 && Nat.beq q2.1 12) (S_X10_fitPairs q1 q2.2 h K)
  | _ => False

def M_X10_fitPairs : MI := (RX10, cX10_fitPairs, 6, [(0, .iconst 0, []), (1, .istore_n 3, []), (2, .iload_n 3, []), (3, .bipush 100, []), (5, .if_icmp .ge 16, [21]), (8, .aload_n 0, []), (9, .getfield 28, []), (12, .iload_n 3, []), (13, .iload_n 3, []), (14, .iastore, []), (15, .iinc 3 1, []), (18, .goto (-16), [2]), (21, .iconst 0, []), (22, .istore_n 3, []), (23, .iload_n 3, []), (24, .aload_n 2, []), (25, .getfield 45, []), (28, .if_icmp .ge 77, [105]), (31, .iconst 0, []), (32, .istore 4, []), (34, .iconst 0, []), (35, .istore 5, []), (37, .iload 5, []), (39, .bipush 100, []), (41, .if_icmp .ge 51, [92]), (44, .aload_n 0, []), (45, .getfield 28, []), (48, .iload 5, []), (50, .aload_n 0, []), (51, .getfield 28, []), (54, .iload 5, []), (56, .iaload, []), (57, .aload_n 1, []), (58, .getfield 102, []), (61, .aload_n 2, []), (62, .getfield 49, []), (65, .iload_n 3, []), (66, .iaload, []), (67, .invokestatic 341, []), (70, .iastore, []), (71, .aload_n 0, []), (72, .getfield 28, []), (75, .iload 5, []), (77, .iaload, []), (78, .bipush (-4), []), (80, .if_icmp .eq 6, [86]), (83, .iconst 1, []), (84, .istore 4, []), (86, .iinc 5 1, []), (89, .goto (-52), [37]), (92, .iload 4, []), (94, .ifCond .ne 5, [99]), (97, .iload_n 3, []), (98, .ireturn, []), (99, .iinc 3 1, []), (102, .goto (-79), [23]), (105, .bipush (-4), []), (107, .ireturn, [])], [(28, (0, 5, 1, 14, 0)), (45, (12, 3, 0, 0, 0)), (102, (18, 3, 0, 0, 0)), (49, (12, 4, 1, 13, 0))], [], [], [(1024, (3, 3, 66, 0, 0, .inl T_X10_restOf))], 3, 66, 0, 0)
theorem ok_X10_fitPairs : MOK M_X10_fitPairs := ⟨by decide +kernel, List.forall_mem_cons.mpr ⟨fl_RX10_28, List.forall_mem_cons.mpr ⟨fl_RX10_45, List.forall_mem_cons.mpr ⟨fl_RX10_102, List.forall_mem_cons.mpr ⟨fl_RX10_49, fun _ h => absurd h List.not_mem_nil⟩⟩⟩⟩, fun _ h => absurd h List.not_mem_nil, fun _ h => absurd h List.not_mem_nil, List.forall_mem_cons.mpr ⟨⟨Nat.le_of_ble_eq_true rfl, Nat.le_of_ble_eq_true rfl, cr_RX10_1024⟩, fun _ h => absurd h List.not_mem_nil⟩⟩
set_option maxRecDepth 100000 in
theorem vc_X10_fitPairs {K : Int32 → AH → Prop} {h : AH} (p1 : Option Nat) (p2 : Nat) (H : AW M_X10_fitPairs (.inl K) 2 [some (aR 0 0), some (aS p1), some (aR 12 p2), some (aI (nI 0)), none, none] [] h 0 0) : AW M_X10_fitPairs (.inl K) 0 [some (aR 0 0), some (aS p1), some (aR 12 p2), none, none, none] [] h 0 0 := AW_go (cuts := [(2, [true, true, true, true, false, false]), (23, [true, true, true, true, false, false]), (37, [true, true, true, true, true, true])]) ok_X10_fitPairs 400 H
set_option maxRecDepth 100000 in
theorem vc_X10_fitPairs_2 {K : Int32 → AH → Prop} {h : AH}  (l1 : Option Nat) (l2 : Nat) (l3 : Int32) (H : (((nI 100) ≤ l3) → AW M_X10_fitPairs (.inl K) 23 [some (aR 0 0), some (aS l1), some (aR 12 l2), some (aI (nI 0)), none, none] [] h 0 0) ∧ (¬ ((nI 100) ≤ l3) → inR l3 100 ∧ AW M_X10_fitPairs (.inl K) 2 [some (aR 0 0), some (aS l1), some (aR 12 l2), some (aI (l3 + (nI 1))), none, none] [] (wI h 14 0 l3.toNatClampNeg l3) 0 0)) : AW M_X10_fitPairs (.inl K) 2 [some (aR 0 0), some (aS l1), some (aR 12 l2), some (aI l3), none, none] [] h 0 0 := AW_go (cuts := [(2, [true, true, true, true, false, false]), (23, [true, true, true, true, false, false]), (37, [true, true, true, true, true, true])]) ok_X10_fitPairs 400 H
set_option maxRecDepth 100000 in
theorem vc_X10_fitPairs_23 {K : Int32 → AH → Prop} {h : AH}  (l1 : Option Nat) (l2 : Nat) (l3 : Int32) (H : (((h.1 12 l2 3) ≤ l3) → K (iI (-4)) h) ∧ (¬ ((h.1 12 l2 3) ≤ l3) → AW M_X10_fitPairs (.inl K) 37 [some (aR 0 0), some (aS l1), some (aR 12 l2), some (aI l3), some (aI (nI 0)), some (aI (nI 0))] [] h 0 0)) : AW M_X10_fitPairs (.inl K) 23 [some (aR 0 0), some (aS l1), some (aR 12 l2), some (aI l3), none, none] [] h 0 0 := AW_go (cuts := [(2, [true, true, true, true, false, false]), (23, [true, true, true, true, false, false]), (37, [true, true, true, true, true, true])]) ok_X10_fitPairs 400 H
set_option maxRecDepth 100000 in
theorem vc_X10_fitPairs_37 {K : Int32 → AH → Prop} {h : AH}  (l1 : Option Nat) (l2 : Nat) (l3 : Int32) (l4 : Int32) (l5 : Int32) (H : (((nI 100) ≤ l5) → ((¬ l4 = 0) → AW M_X10_fitPairs (.inl K) 23 [some (aR 0 0), some (aS l1), some (aR 12 l2), some (aI (l3 + (nI 1))), none, none] [] h 0 0) ∧ (¬ (¬ l4 = 0) → K l3 h)) ∧ (¬ ((nI 100) ≤ l5) → inR l5 100 ∧ oE l1 fun a1 => inR l3 100 ∧ S_X10_restOf (h.1 14 0 l5.toNatClampNeg) (h.1 18 a1 3) (h.1 13 l2 l3.toNatClampNeg) h (fun x3 h2 => inR l5 100 ∧ inR l5 100 ∧ ((((wI h2 14 0 l5.toNatClampNeg x3).1 14 0 l5.toNatClampNeg) = (iI (-4))) → AW M_X10_fitPairs (.inl K) 37 [some (aR 0 0), some (aS l1), some (aR 12 l2), some (aI l3), some (aI l4), some (aI (l5 + (nI 1)))] [] (wI h2 14 0 l5.toNatClampNeg x3) 0 0) ∧ (¬ (((wI h2 14 0 l5.toNatClampNeg x3).1 14 0 l5.toNatClampNeg) = (iI (-4))) → AW M_X10_fitPairs (.inl K) 37 [some (aR 0 0), some (aS l1), some (aR 12 l2), some (aI l3), some (aI (nI 1)), some (aI (l5 + (nI 1)))] [] (wI h2 14 0 l5.toNatClampNeg x3) 0 0)))) : AW M_X10_fitPairs (.inl K) 37 [some (aR 0 0), some (aS l1), some (aR 12 l2), some (aI l3), some (aI l4), some (aI l5)] [] h 0 0 := AW_go (cuts := [(2, [true, true, true, true, false, false]), (23, [true, true, true, true, false, false]), (37, [true, true, true, true, true, true])]) ok_X10_fitPairs 400 H

theorem oP {h h' : AH} {S : Sm} {d : Nat} {o : Option Nat} {k f : Nat} (q : only 14 0 h h') (p : rowP h S d) (s : SHP h o k f) : rowP h' S d ∧ SHP h' o k f := ⟨⟨CSh_e (fun t u i z => by rw [q.2 t u (by omega)]) (fun u i => by rw [q.1]) (fun a i => by rw [q.2 18 a (by omega)]) p.1, p.2⟩, SHP_e (fun a i => by rw [q.2 18 a (by omega)]) s⟩
theorem lp2_X10_fitPairs {S : Sm} {d k f i a : Nat} {h0 : AH} {K : Int32 → AH → Prop} (p0 : rowP h0 S d) (s0 : SHP h0 (some a) k f) (hf : f ≤ 9) (hi : i < S.1 4 d) (stop : ∀ h, only 14 0 h0 h → (∀ P, P < 100 → rs (S.2 d) (stk k f) P (i + 1) = none) → (∀ P, P < 100 → h.1 14 0 P = iI (-4)) → K (nI i) h) (next : ∀ h, only 14 0 h0 h → (∃ P, P < 100 ∧ rs (S.2 d) (stk k f) P (i + 1) ≠ none) → (∀ P, P < 100 → h.1 14 0 P = oI (rs (S.2 d) (stk k f) P (i + 1))) → AW M_X10_fitPairs (.inl K) 23 [some (aR 0 0), some (aS (some a)), some (aR 12 d), some (aI (nI (i + 1))), none, none] [] h 0 0) : ∀ r P h x, P + r = 100 → only 14 0 h0 h → (∀ Q, Q < 100 → h.1 14 0 Q = oI (rs (S.2 d) (stk k f) Q (if Q < P then i + 1 else i))) → ((x = nI 0 ∧ ∀ Q, Q < P → rs (S.2 d) (stk k f) Q (i + 1) = none) ∨ (x = nI 1 ∧ ∃ Q, Q < P ∧ rs (S.2 d) (stk k f) Q (i + 1) ≠ none)) → AW M_X10_fitPairs (.inl K) 37 [some (aR 0 0), some (aS (some a)), some (aR 12 d), some (aI (nI i)), some (aI x), some (aI (nI P))] [] h 0 0 := by
  have hst : stk k f ≤ 12 := stk_le hf
  have l2 := (rowPs p0).2.2.2.2.2.2
  intro r
  induction r with
  | zero =>
    intro P h x hP ho he hx
    have : P = 100 := by omega
    subst this
    refine vc_X10_fitPairs_37 (some a) d (nI i) x (nI 100) ⟨fun _ => ?_, fun q => absurd (Int32.le_refl _) q⟩
    have he' : ∀ Q, Q < 100 → h.1 14 0 Q = oI (rs (S.2 d) (stk k f) Q (i + 1)) := fun Q hQ => by
      have := he Q hQ
      rw [if_pos hQ] at this
      exact this
    rcases hx with ⟨rfl, hx⟩ | ⟨rfl, Q, hQ, hx⟩
    · exact ⟨fun z => absurd (show nI 0 = 0 by decide) z, fun _ => stop h ho hx (fun Q hQ => by rw [he' Q hQ, hx Q hQ]; rfl)⟩
    · rw [nI_add]
      exact ⟨fun _ => next h ho ⟨Q, hQ, hx⟩ he', fun z => absurd (show ¬ nI 1 = 0 by decide) z⟩
  | succ r ih =>
    intro P h x hP ho he hx
    refine vc_X10_fitPairs_37 (some a) d (nI i) x (nI P) ?_
    obtain ⟨p, sp⟩ := oP ho p0 s0
    obtain ⟨a', ea, -, -, -, s4, -⟩ := sp
    obtain rfl := Option.some.inj ea
    have e4 := (rowPs p).2.2.2.2.1 i (by omega)
    have heP := he P (by omega)
    rw [if_neg (by omega)] at heP
    rw [n_le (by omega) (by omega), n_cl (show P < 2147483648 by omega), n_cl (show i < 2147483648 by omega), nI_add]
    refine ⟨fun q => by omega, fun _ => ⟨n_in (show P < 100 by omega) (by omega), oE_s ⟨n_in (show i < 100 by omega) (by omega), rs (S.2 d) (stk k f) P i, stk k f, fun Q hQ => ?_, heP, hst, s4, ?_⟩⟩⟩
    · have := rs_le (E := S.2 d) (k := stk k f) (show P < 100 by omega) i Q hQ
      omega
    rw [e4]
    refine ⟨n_in (show P < 100 by omega) (by omega), n_in (show P < 100 by omega) (by omega), ?_⟩
    (try dsimp only)
    have er : rsO (stk k f) (S.2 d i) (rs (S.2 d) (stk k f) P i) = rs (S.2 d) (stk k f) P (i + 1) := rfl
    rw [er]
    have o2 : only 14 0 h0 (wI h 14 0 P (oI (rs (S.2 d) (stk k f) P (i + 1)))) := only_tr ho (only_wI ..)
    have he2 : ∀ Q, Q < 100 → (wI h 14 0 P (oI (rs (S.2 d) (stk k f) P (i + 1)))).1 14 0 Q = oI (rs (S.2 d) (stk k f) Q (if Q < P + 1 then i + 1 else i)) := fun Q hQ => by
      by_cases z : Q = P
      · subst z
        rw [wI_at, if_pos (by omega)]
      · rw [wI_ni z, he Q hQ]
        by_cases y : Q < P
        · rw [if_pos y, if_pos (by omega)]
        · rw [if_neg y, if_neg (by omega)]
    have ev : (wI h 14 0 P (oI (rs (S.2 d) (stk k f) P (i + 1)))).1 14 0 P = oI (rs (S.2 d) (stk k f) P (i + 1)) := wI_at ..
    have h100 : ∀ p, rs (S.2 d) (stk k f) P (i + 1) = some p → p < 2147483648 := fun p hp => by
      have := rs_le (E := S.2 d) (k := stk k f) (show P < 100 by omega) (i + 1) p hp
      omega
    have ihP := fun x hx => ih (P + 1) _ x (by omega) o2 he2 hx
    first | rw [ev] | rw [uI_at]
    rw [oI_no h100]
    try rw [nI_add]
    refine ⟨fun z => ihP _ ?_, fun z => ihP _ (Or.inr ⟨?_, P, by omega, z⟩)⟩
    · rcases hx with ⟨rfl, hx⟩ | ⟨rfl, Q, hQ, hx⟩
      · refine Or.inl ⟨by decide, fun Q hQ => ?_⟩
        by_cases y : Q = P
        · rw [y]; exact z
        · exact hx Q (by omega)
      · exact Or.inr ⟨by decide, Q, by omega, hx⟩
    · rcases hx with ⟨rfl, _⟩ | ⟨rfl, _⟩ <;> decide
theorem lp_X10_fitPairs {S : Sm} {d k f a : Nat} {h0 : AH} {K : Int32 → AH → Prop} (p0 : rowP h0 S d) (s0 : SHP h0 (some a) k f) (hf : f ≤ 9) (kk : ∀ h', only 14 0 h0 h' → (∀ P, P < 100 → h'.1 14 0 P = oI (fitO (S.2 d) (stk k f) (S.1 4 d) P)) → K (if frg (S.2 d) (stk k f) (S.1 4 d) 100 = S.1 4 d then iI (-4) else nI (frg (S.2 d) (stk k f) (S.1 4 d) 100)) h') : ∀ r i h, i + r = S.1 4 d → only 14 0 h0 h → (∃ P, P < 100 ∧ rs (S.2 d) (stk k f) P i ≠ none) → (∀ P, P < 100 → h.1 14 0 P = oI (rs (S.2 d) (stk k f) P i)) → AW M_X10_fitPairs (.inl K) 23 [some (aR 0 0), some (aS (some a)), some (aR 12 d), some (aI (nI i)), none, none] [] h 0 0 := by
  have l2 := (rowPs p0).2.2.2.2.2.2
  intro r
  induction r with
  | zero =>
    intro i h hi ho ⟨P, hP, hx⟩ he
    refine vc_X10_fitPairs_23 (some a) d (nI i) ?_
    have e3 := (rowPs (oP ho p0 s0).1).2.2.2.1
    have : i = S.1 4 d := by omega
    subst this
    rw [e3]
    refine ⟨fun _ => ?_, fun q => absurd (Int32.le_refl _) q⟩
    have h1 := ((waP_it (E := S.2 d) (k := stk k f) (sz := S.1 4 d) hP).1 (S.1 4 d) (Nat.le_refl _)).mp hx
    have h2 := frg_ge (E := S.2 d) (k := stk k f) (sz := S.1 4 d) 100 P hP
    have h3 := frg_le (E := S.2 d) (k := stk k f) (sz := S.1 4 d) 100 (Nat.le_refl _)
    have := kk h ho (fun Q hQ => by rw [he Q hQ, (waP_it hQ).2])
    rw [if_pos (by omega)] at this
    exact this
  | succ r ih =>
    intro i h hi ho ⟨P, hP, hx⟩ he
    refine vc_X10_fitPairs_23 (some a) d (nI i) ?_
    have e3 := (rowPs (oP ho p0 s0).1).2.2.2.1
    rw [e3, n_le (by omega) (by omega)]
    refine ⟨fun q => by omega, fun _ => ?_⟩
    refine lp2_X10_fitPairs p0 s0 hf (i := i) (by omega) (fun h' o' hn he' => ?_) (fun h' o' hx' he' => ih (i + 1) h' (by omega) o' hx' he') 100 0 h _ (by omega) ho (fun Q hQ => by rw [if_neg (by omega)]; exact he Q hQ) (Or.inl ⟨rfl, fun Q hQ => by omega⟩)
    have w1 : ∀ Q, Q < 100 → (waP (S.2 d) (stk k f) (S.1 4 d) Q).1 ≤ i := fun Q hQ => by
      have := (waP_it (E := S.2 d) (k := stk k f) (sz := S.1 4 d) hQ).1 (i + 1) (by omega)
      rcases Nat.lt_or_ge i (waP (S.2 d) (stk k f) (S.1 4 d) Q).1 with z | z
      · exact absurd (hn Q hQ) (this.mpr z)
      · exact z
    have h1 := ((waP_it (E := S.2 d) (k := stk k f) (sz := S.1 4 d) hP).1 i (by omega)).mp hx
    have h2 := frg_ge (E := S.2 d) (k := stk k f) (sz := S.1 4 d) 100 P hP
    have h3 := frg_lub (E := S.2 d) (k := stk k f) (sz := S.1 4 d) 100 w1
    have := kk h' o' (fun Q hQ => by
      have := w1 Q hQ
      rw [he' Q hQ]
      unfold fitO
      rw [if_neg (by omega)]
      rfl)
    rw [if_neg (by omega), show frg (S.2 d) (stk k f) (S.1 4 d) 100 = i by omega] at this
    exact this
theorem lp0_X10_fitPairs {d a : Nat} {h0 : AH} {K : Int32 → AH → Prop} (k : ∀ h, only 14 0 h0 h → (∀ P, P < 100 → h.1 14 0 P = nI P) → AW M_X10_fitPairs (.inl K) 23 [some (aR 0 0), some (aS (some a)), some (aR 12 d), some (aI (nI 0)), none, none] [] h 0 0) : ∀ r e h, e + r = 100 → only 14 0 h0 h → (∀ P, P < e → h.1 14 0 P = nI P) → AW M_X10_fitPairs (.inl K) 2 [some (aR 0 0), some (aS (some a)), some (aR 12 d), some (aI (nI e)), none, none] [] h 0 0 := by
  intro r
  induction r with
  | zero =>
    intro e h he ho hv
    have : e = 100 := by omega
    subst this
    exact vc_X10_fitPairs_2 (some a) d (nI 100) ⟨fun _ => k h ho hv, fun q => absurd (Int32.le_refl _) q⟩
  | succ r ih =>
    intro e h he ho hv
    refine vc_X10_fitPairs_2 (some a) d (nI e) ?_
    simp (disch := omega) only [n_le, n_inT, n_cl, true_and, nI_add]
    refine ⟨fun q => by omega, fun _ => ih (e + 1) _ (by omega) (only_tr ho (only_wI ..)) (fun P hP => ?_)⟩
    by_cases z : P = e
    · subst z; exact wI_at ..
    · rw [wI_ni z]; exact hv P (by omega)
theorem snd_X10_fitPairs (o : Option Nat) (d : Nat) {h : AH} {K : Int32 → AH → Prop} (k : S_X10_fitPairs o d h K) : AW M_X10_fitPairs (.inl K) 0 [some (aR 0 0), some (aS o), some (aR 12 d), none, none, none] [] h 0 0 := by
  obtain ⟨S, k, f, p, sp, hf, kk⟩ := k
  obtain ⟨a, rfl, -⟩ := id sp
  refine vc_X10_fitPairs (some a) d (lp0_X10_fitPairs (h0 := h) (fun h1 o1 e1 => ?_) 100 0 h (by omega) (only_rfl ..) (fun P hP => absurd hP (Nat.not_lt_zero P)))
  exact lp_X10_fitPairs p sp hf kk (S.1 4 d) 0 h1 (by omega) o1 ⟨0, by omega, fun z => by cases z⟩ (fun P hP => e1 P hP)
theorem tr_X10_fitPairs : ∀ (as : List AV) (h : AH) (K : Int32 → AH → Prop), T_X10_fitPairs as h K → ∃ (q : Nat) (r : List AV), as = aR 0 q :: r := by
  intro as h K hk
  match as, hk with
  | [.inr (.inr (.inl q0)), .inr (.inr (.inr q1)), .inr (.inr (.inl q2))], hk =>
    obtain ⟨hb, hk⟩ := tif_inv hk
    simp only [Bool.and_eq_true] at hb
    obtain ⟨⟨e0, e1⟩, e2⟩ := hb
    obtain ⟨a0, b0⟩ := q0
    obtain ⟨a2, b2⟩ := q2
    have f0 : a0 = 0 := Nat.eq_of_beq_eq_true e0
    subst f0
    have f1 : b0 = 0 := Nat.eq_of_beq_eq_true e1
    subst f1
    have f2 : a2 = 12 := Nat.eq_of_beq_eq_true e2
    subst f2
    exact ⟨_, _, rfl⟩
theorem tw_X10_fitPairs : ∀ (as : List AV) (h : AH) (K : Int32 → AH → Prop), T_X10_fitPairs as h K → (ini as).length ≤ mNL M_X10_fitPairs ∧ AW M_X10_fitPairs (.inl K) 0 (initL (mNL M_X10_fitPairs) as) [] h 0 0 := by
  intro as h K hk
  match as, hk with
  | [.inr (.inr (.inl q0)), .inr (.inr (.inr q1)), .inr (.inr (.inl q2))], hk =>
    obtain ⟨hb, hk⟩ := tif_inv hk
    simp only [Bool.and_eq_true] at hb
    obtain ⟨⟨e0, e1⟩, e2⟩ := hb
    obtain ⟨a0, b0⟩ := q0
    obtain ⟨a2, b2⟩ := q2
    have f0 : a0 = 0 := Nat.eq_of_beq_eq_true e0
    subst f0
    have f1 : b0 = 0 := Nat.eq_of_beq_eq_true e1
    subst f1
    have f2 : a2 = 12 := Nat.eq_of_beq_eq_true e2
    subst f2
    exact ⟨Nat.le_of_ble_eq_true rfl, snd_X10_fitPairs q1 b2 hk⟩
theorem cr_RX10_588 : CR RX10 (kIns 588) (3, 4, 91, 0, 0, .inl T_X10_fitPairs) := crV_i (t := 0) (M := M_X10_fitPairs) (by decide) rfl (by decide) rfl (inG (i := 649) (w := Cond.methodLink RX10 196 yX10_fitPairs) (by decide +kernel) rfl) (inG (i := 651) (w := Cond.instanceMethod yX10_fitPairs) (by decide +kernel) rfl) (inG (i := 37) (w := Cond.initialized RX10) (by decide +kernel) rfl) (inG (i := 12) (w := Cond.selects RX10 yX10_fitPairs yX10_fitPairs) (by decide +kernel) rfl) (inG (i := 652) (w := Cond.code yX10_fitPairs cX10_fitPairs 6 (some .int)) (by decide +kernel) rfl) ⟨by decide +kernel, by decide +kernel, by decide +kernel⟩ tr_X10_fitPairs tw_X10_fitPairs

theorem keepC_14 {h h' : AH} (o : only 14 0 h h') : keepC h h' := ⟨by rw [o.1], fun a b i q => by rw [o.2 a b (by omega)], fun a b i _ => by rw [o.1]⟩
/-- a call by a told row: refused, or the sheep and the row -/
theorem rsr_c {h : AH} {S : Sm} {V : Vm} (cs : CSh h S) (w : WS S) (cv : CV h 0 V) (hv : WF V) (a d : Int32) : (∃ n m, n < V 10 1 ∧ a = nI n ∧ d = nI m ∧ rowP h S m ∧ rsr S V a d = nI 0) ∨ rsr S V a d ≠ nI 0 := by
  have h7 := hv.2.1
  unfold rsr
  by_cases ha : shp V a
  · rw [if_pos ha]
    obtain ⟨n, hn, rfl⟩ := (in_iff (by omega)).mp ha
    rcases rwR_cases w d with ⟨m, hm, rfl, h2, e⟩ | e
    · exact Or.inl ⟨n, m, hn, rfl, rfl, ⟨cs, w, hm, h2⟩, e⟩
    · exact Or.inr e
  · rw [if_neg ha]; exact Or.inr (by decide)
def S_X10_forged (a d : Int32) (h : AH) (K : Int32 → AH → Prop) : Prop := ∃ S V, CSh h S ∧ WS S ∧ CV h 0 V ∧ WF V ∧ ∀ h', keepC h h' → K (R_forged S V a d) h'
def T_X10_forged : List AV → AH → (Int32 → AH → Prop) → Prop := fun as h K => match as with
  | [.inr (.inr (.inl q0)), .inl q1, .inl q2] => tif (Nat.beq q0.1 0 && Nat.beq q0.2 0) (S_X10_forged q1 q2 h K)
  | _ => False

def M_X10_forged : MI := (RX10, cX10_forged, 4, [(0, .aload_n 0, []), (1, .iload_n 1, []), (2, .iload_n 2, []), (3, .invokevirtual 193, []), (6, .istore_n 3, []), (7, .iload_n 3, []), (8, .ifCond .eq 7, [15]), (11, .iload_n 3, []), (12, .goto 22, [34]), (15, .aload_n 0, []), (16, .aload_n 0, []), (17, .getfield 10, []), (20, .getfield 149, []), (23, .iload_n 1, []), (24, .aaload, []), (25, .aload_n 0, []), (26, .getfield 24, []), (29, .iload_n 2, []), (30, .aaload, []), (31, .invokevirtual 196, []), (34, .ireturn, [])], [(10, (0, 0, 1, 1, 0)), (149, (1, 10, 1, 10, 0)), (24, (0, 4, 1, 11, 0))], [], [], [(579, (3, 4, 87, 0, 0, .inl T_X10_refusedTold)), (588, (3, 4, 91, 0, 0, .inl T_X10_fitPairs))], 4, 91, 0, 0)
theorem ok_X10_forged : MOK M_X10_forged := ⟨by decide +kernel, List.forall_mem_cons.mpr ⟨fl_RX10_10, List.forall_mem_cons.mpr ⟨fl_RX10_149, List.forall_mem_cons.mpr ⟨fl_RX10_24, fun _ h => absurd h List.not_mem_nil⟩⟩⟩, fun _ h => absurd h List.not_mem_nil, fun _ h => absurd h List.not_mem_nil, List.forall_mem_cons.mpr ⟨⟨Nat.le_of_ble_eq_true rfl, Nat.le_of_ble_eq_true rfl, cr_RX10_579⟩, List.forall_mem_cons.mpr ⟨⟨Nat.le_of_ble_eq_true rfl, Nat.le_of_ble_eq_true rfl, cr_RX10_588⟩, fun _ h => absurd h List.not_mem_nil⟩⟩⟩
set_option maxRecDepth 100000 in
theorem vc_X10_forged {K : Int32 → AH → Prop} {h : AH} (p1 : Int32) (p2 : Int32) (H : S_X10_refusedTold p1 p2 h (fun x2 h1 => ((x2 = 0) → inR p1 7 ∧ inR p2 8 ∧ S_X10_fitPairs (h1.2.1 10 0 p1.toNatClampNeg) p2.toNatClampNeg h1 (fun x4 h3 => K x4 h3)) ∧ (¬ (x2 = 0) → K x2 h1))) : AW M_X10_forged (.inl K) 0 [some (aR 0 0), some (aI p1), some (aI p2), none] [] h 0 0 := AW_go (cuts := []) ok_X10_forged 400 H

theorem snd_X10_forged (a d : Int32) {h : AH} {K : Int32 → AH → Prop} (k : S_X10_forged a d h K) : AW M_X10_forged (.inl K) 0 [some (aR 0 0), some (aI a), some (aI d), none] [] h 0 0 := by
  obtain ⟨S, V, cs, w, cv, hv, k⟩ := k
  have h7 := hv.2.1
  unfold R_forged at k
  refine vc_X10_forged a d ⟨S, V, cs, w, cv, hv, ?_⟩
  rcases rsr_c cs w cv hv a d with ⟨n, m, hn, rfl, rfl, p, e⟩ | e
  case inr =>
    rw [if_pos e] at k
    exact ⟨fun z => absurd z e, fun _ => k h (keepC_rfl h)⟩
  rw [if_neg (fun z => z e), nN_n (show n < 2147483648 by omega), nN_n (show m < 2147483648 by have := p.2.2.1; omega)] at k
  have hm := p.2.2.1
  refine ⟨fun _ => ⟨n_in (show n < 7 by omega) (by omega), n_in hm (by omega), ?_⟩, fun z => absurd e z⟩
  rw [n_cl (show n < 2147483648 by omega), n_cl (show m < 2147483648 by omega)]
  exact ⟨S, V 8 n, V 9 n, p, (CVs cv).2.2.2.2.2.2.2.2.2.2.2.2 n hn, (hv.2.2.2.2.2.2 n hn).2, fun h' o _ => k h' (keepC_14 o)⟩
theorem tr_X10_forged : ∀ (as : List AV) (h : AH) (K : Int32 → AH → Prop), T_X10_forged as h K → ∃ (q : Nat) (r : List AV), as = aR 0 q :: r := by
  intro as h K hk
  match as, hk with
  | [.inr (.inr (.inl q0)), .inl q1, .inl q2], hk =>
    obtain ⟨hb, hk⟩ := tif_inv hk
    simp only [Bool.and_eq_true] at hb
    obtain ⟨e0, e1⟩ := hb
    obtain ⟨a0, b0⟩ := q0
    have f0 : a0 = 0 := Nat.eq_of_beq_eq_true e0
    subst f0
    have f1 : b0 = 0 := Nat.eq_of_beq_eq_true e1
    subst f1
    exact ⟨_, _, rfl⟩
theorem tw_X10_forged : ∀ (as : List AV) (h : AH) (K : Int32 → AH → Prop), T_X10_forged as h K → (ini as).length ≤ mNL M_X10_forged ∧ AW M_X10_forged (.inl K) 0 (initL (mNL M_X10_forged) as) [] h 0 0 := by
  intro as h K hk
  match as, hk with
  | [.inr (.inr (.inl q0)), .inl q1, .inl q2], hk =>
    obtain ⟨hb, hk⟩ := tif_inv hk
    simp only [Bool.and_eq_true] at hb
    obtain ⟨e0, e1⟩ := hb
    obtain ⟨a0, b0⟩ := q0
    have f0 : a0 = 0 := Nat.eq_of_beq_eq_true e0
    subst f0
    have f1 : b0 = 0 := Nat.eq_of_beq_eq_true e1
    subst f1
    exact ⟨Nat.le_of_ble_eq_true rfl, snd_X10_forged q1 q2 hk⟩

def S_X10_still (a d w : Int32) (h : AH) (K : Int32 → AH → Prop) : Prop := ∃ S V, CSh h S ∧ WS S ∧ CV h 0 V ∧ WF V ∧ ∀ h', keepC h h' → K (R_still S V a d w) h'
def T_X10_still : List AV → AH → (Int32 → AH → Prop) → Prop := fun as h K => match as with
  | [.inr (.inr (.inl q0)), .inl q1, .inl q2, .inl q3] => tif (Nat.beq q0.1 0 && Nat.beq q0.2 0) (S_X10_still q1 q2 q3 h K)
  | _ => False

def M_X10_still : MI := (RX10, cX10_still, 8, [(0, .iload_n 3, []), (1, .iconst 0, []), (2, .iconst 2, []), (3, .invokestatic 59, []), (6, .ifCond .eq 12, [18]), (9, .aload_n 0, []), (10, .iload_n 1, []), (11, .iload_n 2, []), (12, .invokevirtual 193, []), (15, .goto 4, [19]), (18, .iconst (-1), []), (19, .istore 4, []), (21, .iload 4, []), (23, .ifCond .eq 6, [29]), (26, .iload 4, []), (28, .ireturn, []), (29, .aload_n 0, []), (30, .aload_n 0, []), (31, .getfield 10, []), (34, .getfield 149, []), (37, .iload_n 1, []), (38, .aaload, []), (39, .aload_n 0, []), (40, .getfield 24, []), (43, .iload_n 2, []), (44, .aaload, []), (45, .invokevirtual 196, []), (48, .pop, []), (49, .iconst 0, []), (50, .istore 5, []), (52, .bipush (-4), []), (54, .istore 6, []), (56, .bipush 99, []), (58, .istore 7, []), (60, .iload 7, []), (62, .ifCond .lt 28, [90]), (65, .aload_n 0, []), (66, .getfield 28, []), (69, .iload 7, []), (71, .iaload, []), (72, .bipush (-4), []), (74, .if_icmp .eq 10, [84]), (77, .iinc 5 1, []), (80, .iload 7, []), (82, .istore 6, []), (84, .iinc 7 (-1), []), (87, .goto (-27), [60]), (90, .iload_n 3, []), (91, .ifCond .ne 6, [97]), (94, .iload 5, []), (96, .ireturn, []), (97, .iload_n 3, []), (98, .iconst 1, []), (99, .if_icmp .eq 10, [109]), (102, .iload 6, []), (104, .bipush (-4), []), (106, .if_icmp .ne 8, [114]), (109, .iload 6, []), (111, .goto 13, [124]), (114, .aload_n 0, []), (115, .getfield 28, []), (118, .iload 6, []), (120, .iaload, []), (121, .invokestatic 200, []), (124, .ireturn, [])], [(10, (0, 0, 1, 1, 0)), (149, (1, 10, 1, 10, 0)), (24, (0, 4, 1, 11, 0)), (28, (0, 5, 1, 14, 0))], [], [], [(178, (3, 1, 22, 0, 0, .inl T_X10_within)), (579, (3, 4, 87, 0, 0, .inl T_X10_refusedTold)), (588, (3, 4, 91, 0, 0, .inl T_X10_fitPairs)), (601, (1, 1, 20, 0, 0, .inl T_X10_worthOfPair))], 4, 91, 0, 0)
theorem ok_X10_still : MOK M_X10_still := ⟨by decide +kernel, List.forall_mem_cons.mpr ⟨fl_RX10_10, List.forall_mem_cons.mpr ⟨fl_RX10_149, List.forall_mem_cons.mpr ⟨fl_RX10_24, List.forall_mem_cons.mpr ⟨fl_RX10_28, fun _ h => absurd h List.not_mem_nil⟩⟩⟩⟩, fun _ h => absurd h List.not_mem_nil, fun _ h => absurd h List.not_mem_nil, List.forall_mem_cons.mpr ⟨⟨Nat.le_of_ble_eq_true rfl, Nat.le_of_ble_eq_true rfl, cr_RX10_178⟩, List.forall_mem_cons.mpr ⟨⟨Nat.le_of_ble_eq_true rfl, Nat.le_of_ble_eq_true rfl, cr_RX10_579⟩, List.forall_mem_cons.mpr ⟨⟨Nat.le_of_ble_eq_true rfl, Nat.le_of_ble_eq_true rfl, cr_RX10_588⟩, List.forall_mem_cons.mpr ⟨⟨Nat.le_of_ble_eq_true rfl, Nat.le_of_ble_eq_true rfl, cr_RX10_601⟩, fun _ h => absurd h List.not_mem_nil⟩⟩⟩⟩⟩
set_option maxRecDepth 100000 in
theorem vc_X10_still {K : Int32 → AH → Prop} {h : AH} (p1 : Int32) (p2 : Int32) (p3 : Int32) (H : S_X10_within p3 (nI 0) (nI 2) h (fun x2 h1 => ((x2 = 0) → AW M_X10_still (.inl K) 21 [some (aR 0 0), some (aI p1), some (aI p2), some (aI p3), some (aI (iI (-1))), none, none, none] [] h1 0 0) ∧ (¬ (x2 = 0) → S_X10_refusedTold p1 p2 h1 (fun x4 h3 => AW M_X10_still (.inl K) 21 [some (aR 0 0), some (aI p1), some (aI p2), some (aI p3), some (aI x4), none, none, none] [] h3 0 0)))) : AW M_X10_still (.inl K) 0 [some (aR 0 0), some (aI p1), some (aI p2), some (aI p3), none, none, none, none] [] h 0 0 := AW_go (cuts := [(21, [true, true, true, true, true, false, false, false]), (60, [true, false, false, true, false, true, true, true])]) ok_X10_still 400 H
set_option maxRecDepth 100000 in
theorem vc_X10_still_21 {K : Int32 → AH → Prop} {h : AH}  (l1 : Int32) (l2 : Int32) (l3 : Int32) (l4 : Int32) (H : ((l4 = 0) → inR l1 7 ∧ inR l2 8 ∧ S_X10_fitPairs (h.2.1 10 0 l1.toNatClampNeg) l2.toNatClampNeg h (fun x2 h1 => AW M_X10_still (.inl K) 60 [some (aR 0 0), none, none, some (aI l3), none, some (aI (nI 0)), some (aI (iI (-4))), some (aI (nI 99))] [] h1 0 0)) ∧ (¬ (l4 = 0) → K l4 h)) : AW M_X10_still (.inl K) 21 [some (aR 0 0), some (aI l1), some (aI l2), some (aI l3), some (aI l4), none, none, none] [] h 0 0 := AW_go (cuts := [(21, [true, true, true, true, true, false, false, false]), (60, [true, false, false, true, false, true, true, true])]) ok_X10_still 400 H
set_option maxRecDepth 100000 in
theorem vc_X10_still_60 {K : Int32 → AH → Prop} {h : AH}  (l3 : Int32) (l5 : Int32) (l6 : Int32) (l7 : Int32) (H : ((l7 < 0) → ((¬ l3 = 0) → ((l3 = (nI 1)) → K l6 h) ∧ (¬ (l3 = (nI 1)) → ((¬ l6 = (iI (-4))) → inR l6 100 ∧ S_X10_worthOfPair (h.1 14 0 l6.toNatClampNeg) h (fun x2 h1 => K x2 h1)) ∧ (¬ (¬ l6 = (iI (-4))) → K l6 h))) ∧ (¬ (¬ l3 = 0) → K l5 h)) ∧ (¬ (l7 < 0) → inR l7 100 ∧ (((h.1 14 0 l7.toNatClampNeg) = (iI (-4))) → AW M_X10_still (.inl K) 60 [some (aR 0 0), none, none, some (aI l3), none, some (aI l5), some (aI l6), some (aI (l7 + (iI (-1))))] [] h 0 0) ∧ (¬ ((h.1 14 0 l7.toNatClampNeg) = (iI (-4))) → AW M_X10_still (.inl K) 60 [some (aR 0 0), none, none, some (aI l3), none, some (aI (l5 + (nI 1))), some (aI l7), some (aI (l7 + (iI (-1))))] [] h 0 0))) : AW M_X10_still (.inl K) 60 [some (aR 0 0), none, none, some (aI l3), none, some (aI l5), some (aI l6), some (aI l7)] [] h 0 0 := AW_go (cuts := [(21, [true, true, true, true, true, false, false, false]), (60, [true, false, false, true, false, true, true, true])]) ok_X10_still 400 H

theorem stl_b {f : Nat → Option Nat} (hf : ∀ P x, P < 100 → f P = some x → x < 100) : ∀ r, r ≤ 100 → (stl f r).1 ≤ r ∧ (((stl f r).2.1 = -4 ∧ (stl f r).2.2 = -4) ∨ ∃ P x, P < 100 ∧ f P = some x ∧ x < 100 ∧ (stl f r).2.1 = (P : Int) ∧ (stl f r).2.2 = ((5 * (x / 10) + x % 10 : Nat) : Int))
  | 0, _ => ⟨Nat.le_refl _, Or.inl ⟨rfl, rfl⟩⟩
  | r + 1, h => by
    obtain ⟨i1, i2⟩ := stl_b hf r (by omega)
    rw [stl]
    split
    · exact ⟨by omega, i2⟩
    · rename_i x e
      exact ⟨by show (stl f r).1 + 1 ≤ r + 1; omega, Or.inr ⟨99 - r, x, by omega, e, hf _ x (by omega) e, rfl, rfl⟩⟩
theorem lp_X10_still {f : Nat → Option Nat} {w : Int32} {h : AH} {K : Int32 → AH → Prop} (hf : ∀ P x, P < 100 → f P = some x → x < 100) (he : ∀ P, P < 100 → h.1 14 0 P = oI (f P)) (k : K (if w = 0 then nI (stl f 100).1 else if w = nI 1 then iI (stl f 100).2.1 else iI (stl f 100).2.2) h) : ∀ q r, q + r = 100 → AW M_X10_still (.inl K) 60 [some (aR 0 0), none, none, some (aI w), none, some (aI (nI (stl f r).1)), some (aI (iI (stl f r).2.1)), some (aI (nI q + iI (-1)))] [] h 0 0 := by
  intro q
  induction q with
  | zero =>
    intro r hr
    have : r = 100 := by omega
    subst this
    refine vc_X10_still_60 w _ _ _ ⟨fun _ => nn_if (fun z => ?_) (fun z => ⟨fun y => ?_, fun y => ?_⟩), fun q => absurd (by decide) q⟩
    · rw [if_pos z] at k; exact k
    · rw [if_neg z, if_pos y] at k; exact k
    · rw [if_neg z, if_neg y] at k
      rcases (stl_b hf 100 (Nat.le_refl _)).2 with ⟨e1, e2⟩ | ⟨P, x, hP, ex, hx, e1, e2⟩
      · rw [e2] at k
        rw [e1]
        exact ⟨fun v => absurd rfl v, fun _ => k⟩
      · rw [e2, ← nI_iI] at k
        rw [e1, ← nI_iI, m_ne (by omega) (by omega) (by omega), n_cl (by omega), he P hP, ex]
        exact ⟨fun _ => ⟨n_in hP (by omega), x, by omega, rfl, k⟩, fun v => absurd (fun u => u) v⟩
  | succ q ih =>
    intro r hr
    refine vc_X10_still_60 w _ _ _ ?_
    have eq1 : nI (q + 1) + iI (-1) = nI q := by rw [nI_iI, i_add, nI_iI]; congr 1; omega
    rw [eq1, n_lt0 (by omega), n_cl (by omega), he q (by omega)]
    have ih := ih (r + 1) (by omega)
    rw [stl, show 99 - r = q by omega] at ih
    rw [oI_no (fun p hp => by have := hf q p (by omega) hp; omega)]
    refine ⟨fun z => z.elim, fun _ => ⟨n_in (show q < 100 by omega) (by omega), fun z => ?_, fun z => ?_⟩⟩
    · rw [z] at ih
      exact ih
    · cases hq : f q with
      | none => exact absurd hq z
      | some x =>
        rw [hq] at ih
        rw [nI_add]
        simp only at ih
        rw [← nI_iI q] at ih
        exact ih
theorem fitO_lt {E : Nat → Int32} {k sz P x : Nat} (hP : P < 100) (h : fitO E k sz P = some x) : x < 100 := by
  rw [← (waP_it hP).2] at h
  have := rs_le hP sz x h
  omega
theorem snd_X10_still (a d w : Int32) {h : AH} {K : Int32 → AH → Prop} (k : S_X10_still a d w h K) : AW M_X10_still (.inl K) 0 [some (aR 0 0), some (aI a), some (aI d), some (aI w), none, none, none, none] [] h 0 0 := by
  obtain ⟨S, V, cs, ws, cv, hv, k⟩ := k
  have h7 := hv.2.1
  unfold R_still at k
  have out : ∀ x, x ≠ nI 0 → K x h → AW M_X10_still (.inl K) 21 [some (aR 0 0), some (aI a), some (aI d), some (aI w), some (aI x), none, none, none] [] h 0 0 := fun x hx hk => vc_X10_still_21 a d w x ⟨fun z => absurd z hx, fun _ => hk⟩
  refine vc_X10_still a d w (w_if (fun q => ⟨S, V, cs, ws, cv, hv, ?_⟩) (fun q => ?_))
  case refine_2 => rw [if_pos q] at k; exact out _ (by decide) (k h (keepC_rfl h))
  rw [if_neg (fun z => z q)] at k
  rcases rsr_c cs ws cv hv a d with ⟨n, m, hn, rfl, rfl, p, e⟩ | e
  case inr =>
    rw [if_pos e] at k
    exact out _ e (k h (keepC_rfl h))
  have hm := p.2.2.1
  rw [if_neg (fun z => z e), nN_n (show n < 2147483648 by omega), nN_n (show m < 2147483648 by omega)] at k
  rw [e]
  refine vc_X10_still_21 _ _ _ _ ⟨fun _ => ⟨n_in (show n < 7 by omega) (by omega), n_in hm (by omega), ?_⟩, fun z => absurd (show nI 0 = 0 by decide) z⟩
  rw [n_cl (show n < 2147483648 by omega), n_cl (show m < 2147483648 by omega)]
  refine ⟨S, V 8 n, V 9 n, p, (CVs cv).2.2.2.2.2.2.2.2.2.2.2.2 n hn, (hv.2.2.2.2.2.2 n hn).2, fun h' o he => ?_⟩
  exact lp_X10_still (fun P x hP hx => fitO_lt hP hx) he (k h' (keepC_14 o)) 100 0 (by omega)
theorem tr_X10_still : ∀ (as : List AV) (h : AH) (K : Int32 → AH → Prop), T_X10_still as h K → ∃ (q : Nat) (r : List AV), as = aR 0 q :: r := by
  intro as h K hk
  match as, hk with
  | [.inr (.inr (.inl q0)), .inl q1, .inl q2, .inl q3], hk =>
    obtain ⟨hb, hk⟩ := tif_inv hk
    simp only [Bool.and_eq_true] at hb
    obtain ⟨e0, e1⟩ := hb
    obtain ⟨a0, b0⟩ := q0
    have f0 : a0 = 0 := Nat.eq_of_beq_eq_true e0
    subst f0
    have f1 : b0 = 0 := Nat.eq_of_beq_eq_true e1
    subst f1
    exact ⟨_, _, rfl⟩
theorem tw_X10_still : ∀ (as : List AV) (h : AH) (K : Int32 → AH → Prop), T_X10_still as h K → (ini as).length ≤ mNL M_X10_still ∧ AW M_X10_still (.inl K) 0 (initL (mNL M_X10_still) as) [] h 0 0 := by
  intro as h K hk
  match as, hk with
  | [.inr (.inr (.inl q0)), .inl q1, .inl q2, .inl q3], hk =>
    obtain ⟨hb, hk⟩ := tif_inv hk
    simp only [Bool.and_eq_true] at hb
    obtain ⟨e0, e1⟩ := hb
    obtain ⟨a0, b0⟩ := q0
    have f0 : a0 = 0 := Nat.eq_of_beq_eq_true e0
    subst f0
    have f1 : b0 = 0 := Nat.eq_of_beq_eq_true e1
    subst f1
    exact ⟨Nat.le_of_ble_eq_true rfl, snd_X10_still q1 q2 q3 hk⟩

def S_X10_unlikeNumbers (o : Option Nat) (h : AH) (K : Int32 → AH → Prop) : Prop := ∃ f k g, (∀ P, P < 100 → h.1 14 0 P = oI (f P)) ∧ (∀ P x, P < 100 → f P = some x → x < 100) ∧ SHP h o k g ∧ g ≤ 9 ∧ K (nI (cn (fun v => sn f (gT (stk k g)) v 100) 200)) h
def T_X10_unlikeNumbers : List AV → AH → (Int32 → AH → Prop) → Prop := fun as h K => match as with
  | [.inr (.inr (.inl q0)), .inr (.inr (.inr q1))] => tif (Nat.beq q0.1 0 && Nat.beq q0.2 0) (S_X10_unlikeNumbers q1 h K)
  | _ => False

def M_X10_unlikeNumbers : MI := (RX10, cX10_unlikeNumbers, 5, [(0, .lconst 0, []), (1, .lstore_n 2, []), (2, .iconst 0, []), (3, .istore 4, []), (5, .iload 4, []), (7, .bipush 100, []), (9, .if_icmp .ge 43, [52]), (12, .aload_n 0, []), (13, .getfield 28, []), (16, .iload 4, []), (18, .iaload, []), (19, .bipush (-4), []), (21, .if_icmp .eq 25, [46]), (24, .lload_n 2, []), (25, .lconst 1, []), (26, .aload_n 0, []), (27, .getfield 28, []), (30, .iload 4, []), (32, .iaload, []), (33, .aload_n 1, []), (34, .getfield 102, []), (37, .invokestatic 345, []), (40, .invokestatic 200, []), (43, .lshl, []), (44, .lor, []), (45, .lstore_n 2, []), (46, .iinc 4 1, []), (49, .goto (-44), [5]), (52, .lload_n 2, []), (53, .invokestatic 348, []), (56, .ireturn, [])], [(28, (0, 5, 1, 14, 0)), (102, (18, 3, 0, 0, 0))], [], [], [(1036, (2, 2, 43, 0, 0, .inl T_X10_stuckOf)), (601, (1, 1, 20, 0, 0, .inl T_X10_worthOfPair)), (1045, (1, 1, 21, 0, 0, .inl T_J13_bitCount_95d88))], 2, 43, 0, 0)
theorem ok_X10_unlikeNumbers : MOK M_X10_unlikeNumbers := ⟨by decide +kernel, List.forall_mem_cons.mpr ⟨fl_RX10_28, List.forall_mem_cons.mpr ⟨fl_RX10_102, fun _ h => absurd h List.not_mem_nil⟩⟩, fun _ h => absurd h List.not_mem_nil, fun _ h => absurd h List.not_mem_nil, List.forall_mem_cons.mpr ⟨⟨Nat.le_of_ble_eq_true rfl, Nat.le_of_ble_eq_true rfl, cr_RX10_1036⟩, List.forall_mem_cons.mpr ⟨⟨Nat.le_of_ble_eq_true rfl, Nat.le_of_ble_eq_true rfl, cr_RX10_601⟩, List.forall_mem_cons.mpr ⟨⟨Nat.le_of_ble_eq_true rfl, Nat.le_of_ble_eq_true rfl, cr_RX10_1045⟩, fun _ h => absurd h List.not_mem_nil⟩⟩⟩⟩
set_option maxRecDepth 100000 in
theorem vc_X10_unlikeNumbers {K : Int32 → AH → Prop} {h : AH} (p1 : Option Nat) (H : AW M_X10_unlikeNumbers (.inl K) 5 [some (aR 0 0), some (aS p1), some (aL (Int64.ofNat 0)), none, some (aI (nI 0))] [] h 0 0) : AW M_X10_unlikeNumbers (.inl K) 0 [some (aR 0 0), some (aS p1), none, none, none] [] h 0 0 := AW_go (cuts := [(5, [true, true, true, false, true])]) ok_X10_unlikeNumbers 400 H
set_option maxRecDepth 100000 in
theorem vc_X10_unlikeNumbers_5 {K : Int32 → AH → Prop} {h : AH}  (l1 : Option Nat) (l2 : Int64) (l4 : Int32) (H : (((nI 100) ≤ l4) → S_J13_bitCount_95d88 l2 h (fun x2 h1 => K x2 h1)) ∧ (¬ ((nI 100) ≤ l4) → inR l4 100 ∧ (((h.1 14 0 l4.toNatClampNeg) = (iI (-4))) → AW M_X10_unlikeNumbers (.inl K) 5 [some (aR 0 0), some (aS l1), some (aL l2), none, some (aI (l4 + (nI 1)))] [] h 0 0) ∧ (¬ ((h.1 14 0 l4.toNatClampNeg) = (iI (-4))) → inR l4 100 ∧ oE l1 fun a3 => S_X10_stuckOf (h.1 14 0 l4.toNatClampNeg) (h.1 18 a3 3) h (fun x5 h4 => S_X10_worthOfPair x5 h4 (fun x7 h6 => AW M_X10_unlikeNumbers (.inl K) 5 [some (aR 0 0), some (aS l1), some (aL (l2 ||| ((Int64.ofNat 1) <<< (x7.toInt64 &&& 63)))), none, some (aI (l4 + (nI 1)))] [] h6 0 0))))) : AW M_X10_unlikeNumbers (.inl K) 5 [some (aR 0 0), some (aS l1), some (aL l2), none, some (aI l4)] [] h 0 0 := AW_go (cuts := [(5, [true, true, true, false, true])]) ok_X10_unlikeNumbers 400 H

theorem one_sh : ∀ v, v < 64 → uL (Int64.ofNat 1 <<< ((nI v).toInt64 &&& 63)) = 2 ^ v := by decide +kernel
theorem uL_or (a b : Int64) : uL (a ||| b) = uL a ||| uL b := BitVec.toNat_or ..
theorem gT_le {k x : Nat} (hx : x < 100) : gT k x ≤ 54 := by
  have := tk_le k (x / 10) (x % 10)
  unfold gT tkV
  omega
theorem sn_f {f : Nat → Option Nat} {g : Nat → Nat} {v : Nat} (hv : ∀ P x, P < 100 → f P = some x → g x ≠ v) : ∀ P, P ≤ 100 → sn f g v P = false
  | 0, _ => rfl
  | P + 1, h => by
    have ih := sn_f hv P (by omega)
    cases e : f P with
    | none => rw [sn_none e, ih]
    | some x => rw [sn_some e, if_neg (hv P x (by omega) e), ih]
theorem cn_f {p : Nat → Bool} : ∀ n, (∀ i, i < n → p i = false) → cn p n = 0
  | 0, _ => rfl
  | n + 1, h => by
    unfold cn
    rw [cn_f n (fun i hi => h i (by omega)), h n (by omega)]
    rfl
theorem lp_X10_unlikeNumbers {f : Nat → Option Nat} {k g a : Nat} {h : AH} {K : Int32 → AH → Prop} (he : ∀ P, P < 100 → h.1 14 0 P = oI (f P)) (hf : ∀ P x, P < 100 → f P = some x → x < 100) (sp : SHP h (some a) k g) (hg : g ≤ 9) (kk : K (nI (cn (fun v => sn f (gT (stk k g)) v 100) 200)) h) : ∀ r P x, P + r = 100 → (∀ v, v < 64 → (uL x).testBit v = sn f (gT (stk k g)) v P) → AW M_X10_unlikeNumbers (.inl K) 5 [some (aR 0 0), some (aS (some a)), some (aL x), none, some (aI (nI P))] [] h 0 0 := by
  have hst : stk k g ≤ 12 := stk_le hg
  obtain ⟨a', ea, -, -, -, s4, -⟩ := sp
  obtain rfl := Option.some.inj ea
  intro r
  induction r with
  | zero =>
    intro P x hP hx
    have : P = 100 := by omega
    subst this
    refine vc_X10_unlikeNumbers_5 (some a) x (nI 100) ⟨fun _ => ?_, fun q => absurd (Int32.le_refl _) q⟩
    have e1 : cn (uL x).testBit 64 = cn (fun v => sn f (gT (stk k g)) v 100) 64 := cn_c 64 hx
    have e2 := cn_add (fun v => sn f (gT (stk k g)) v 100) 64 136
    rw [cn_f 136 (fun i hi => sn_f (fun P y hP hy => by have := gT_le (k := stk k g) (hf P y hP hy); omega) 100 (Nat.le_refl _))] at e2
    rw [show 200 = 64 + 136 from rfl, e2, Nat.add_zero, ← e1] at kk
    exact kk
  | succ r ih =>
    intro P x hP hx
    refine vc_X10_unlikeNumbers_5 (some a) x (nI P) ?_
    rw [n_le (by omega) (by omega), n_cl (show P < 2147483648 by omega), he P (by omega), oI_no (fun p hp => by have := hf P p (by omega) hp; omega), nI_add]
    refine ⟨fun q => by omega, fun _ => ⟨n_in (show P < 100 by omega) (by omega), fun z => ih (P + 1) x (by omega) (fun v hv => ?_), fun z => ?_⟩⟩
    · rw [sn_none z]; exact hx v hv
    · cases hq : f P with
      | none => exact absurd hq z
      | some y =>
        have hy := hf P y (by omega) hq
        obtain ⟨k1, k2, k3, k4⟩ := skP_ok (k := stk k g) hy
        refine ⟨n_in (show P < 100 by omega) (by omega), oE_s ⟨y, stk k g, hy, hst, rfl, s4, skP (stk k g) y, by omega, rfl, ?_⟩⟩
        have hgv : 5 * (skP (stk k g) y / 10) + skP (stk k g) y % 10 = gT (stk k g) y := by rw [k1, k2]; rfl
        have hgl := gT_le (k := stk k g) hy
        rw [hgv]
        refine ih (P + 1) _ (by omega) (fun v hv => ?_)
        rw [uL_or, one_sh _ (by omega), Nat.testBit_or, Nat.testBit_two_pow, hx v hv, sn_some hq]
        by_cases y2 : gT (stk k g) y = v
        · rw [if_pos y2, decide_eq_true y2, Bool.or_true]
        · rw [if_neg y2, decide_eq_false y2, Bool.or_false]
theorem snd_X10_unlikeNumbers (o : Option Nat) {h : AH} {K : Int32 → AH → Prop} (k : S_X10_unlikeNumbers o h K) : AW M_X10_unlikeNumbers (.inl K) 0 [some (aR 0 0), some (aS o), none, none, none] [] h 0 0 := by
  obtain ⟨f, k, g, he, hf, sp, hg, kk⟩ := k
  obtain ⟨a, rfl, -⟩ := id sp
  exact vc_X10_unlikeNumbers (some a) (lp_X10_unlikeNumbers he hf sp hg kk 100 0 _ (by omega) (fun v _ => by rw [show uL (Int64.ofNat 0) = 0 from rfl, Nat.zero_testBit]; rfl))
theorem tr_X10_unlikeNumbers : ∀ (as : List AV) (h : AH) (K : Int32 → AH → Prop), T_X10_unlikeNumbers as h K → ∃ (q : Nat) (r : List AV), as = aR 0 q :: r := by
  intro as h K hk
  match as, hk with
  | [.inr (.inr (.inl q0)), .inr (.inr (.inr q1))], hk =>
    obtain ⟨hb, hk⟩ := tif_inv hk
    simp only [Bool.and_eq_true] at hb
    obtain ⟨e0, e1⟩ := hb
    obtain ⟨a0, b0⟩ := q0
    have f0 : a0 = 0 := Nat.eq_of_beq_eq_true e0
    subst f0
    have f1 : b0 = 0 := Nat.eq_of_beq_eq_true e1
    subst f1
    exact ⟨_, _, rfl⟩
theorem tw_X10_unlikeNumbers : ∀ (as : List AV) (h : AH) (K : Int32 → AH → Prop), T_X10_unlikeNumbers as h K → (ini as).length ≤ mNL M_X10_unlikeNumbers ∧ AW M_X10_unlikeNumbers (.inl K) 0 (initL (mNL M_X10_unlikeNumbers) as) [] h 0 0 := by
  intro as h K hk
  match as, hk with
  | [.inr (.inr (.inl q0)), .inr (.inr (.inr q1))], hk =>
    obtain ⟨hb, hk⟩ := tif_inv hk
    simp only [Bool.and_eq_true] at hb
    obtain ⟨e0, e1⟩ := hb
    obtain ⟨a0, b0⟩ := q0
    have f0 : a0 = 0 := Nat.eq_of_beq_eq_true e0
    subst f0
    have f1 : b0 = 0 := Nat.eq_of_beq_eq_true e1
    subst f1
    exact ⟨Nat.le_of_ble_eq_true rfl, snd_X10_unlikeNumbers q1 hk⟩
theorem cr_RX10_609 : CR RX10 (kIns 609) (2, 3, 67, 0, 0, .inl T_X10_unlikeNumbers) := crV_i (t := 0) (M := M_X10_unlikeNumbers) (by decide) rfl (by decide) rfl (inG (i := 662) (w := Cond.methodLink RX10 203 yX10_unlikeNumbers) (by decide +kernel) rfl) (inG (i := 664) (w := Cond.instanceMethod yX10_unlikeNumbers) (by decide +kernel) rfl) (inG (i := 37) (w := Cond.initialized RX10) (by decide +kernel) rfl) (inG (i := 13) (w := Cond.selects RX10 yX10_unlikeNumbers yX10_unlikeNumbers) (by decide +kernel) rfl) (inG (i := 665) (w := Cond.code yX10_unlikeNumbers cX10_unlikeNumbers 5 (some .int)) (by decide +kernel) rfl) ⟨by decide +kernel, by decide +kernel, by decide +kernel⟩ tr_X10_unlikeNumbers tw_X10_unlikeNumbers

def S_X10_tellsMost (a d w : Int32) (h : AH) (K : Int32 → AH → Prop) : Prop := ∃ S V, CSh h S ∧ WS S ∧ CV h 0 V ∧ WF V ∧ ∀ h', keepC h h' → K (R_tellsMost S V a d w) h'
def T_X10_tellsMost : List AV → AH → (Int32 → AH → Prop) → Prop := fun as h K => match as with
  | [.inr (.inr (.inl q0)), .inl q1, .inl q2, .inl q3] => tif (Nat.beq q0.1 0 && Nat.beq q0.2 0) (S_X10_tellsMost q1 q2 q3 h K)
  | _ => False

def M_X10_tellsMost : MI := (RX10, cX10_tellsMost, 9, [(0, .iload_n 3, []), (1, .iconst 0, []), (2, .iconst 1, []), (3, .invokestatic 59, []), (6, .ifCond .eq 12, [18]), (9, .aload_n 0, []), (10, .iload_n 1, []), (11, .iload_n 2, []), (12, .invokevirtual 193, []), (15, .goto 4, [19]), (18, .iconst (-1), []), (19, .istore 4, []), (21, .iload 4, []), (23, .ifCond .eq 6, [29]), (26, .iload 4, []), (28, .ireturn, []), (29, .aload_n 0, []), (30, .aload_n 0, []), (31, .getfield 10, []), (34, .getfield 149, []), (37, .iload_n 1, []), (38, .aaload, []), (39, .aload_n 0, []), (40, .getfield 24, []), (43, .iload_n 2, []), (44, .aaload, []), (45, .invokevirtual 196, []), (48, .pop, []), (49, .bipush (-4), []), (51, .istore 5, []), (53, .iconst 0, []), (54, .istore 6, []), (56, .iconst 0, []), (57, .istore 7, []), (59, .iload 7, []), (61, .aload_n 0, []), (62, .getfield 10, []), (65, .getfield 125, []), (68, .if_icmp .ge 40, [108]), (71, .aload_n 0, []), (72, .aload_n 0, []), (73, .getfield 10, []), (76, .getfield 149, []), (79, .iload 7, []), (81, .aaload, []), (82, .invokevirtual 203, []), (85, .istore 8, []), (87, .iload 8, []), (89, .iload 6, []), (91, .if_icmp .le 11, [102]), (94, .iload 8, []), (96, .istore 6, []), (98, .iload 7, []), (100, .istore 5, []), (102, .iinc 7 1, []), (105, .goto (-46), [59]), (108, .iload_n 3, []), (109, .ifCond .eq 10, [119]), (112, .iload 5, []), (114, .bipush (-4), []), (116, .if_icmp .ne 8, [124]), (119, .iload 5, []), (121, .goto 5, [126]), (124, .iload 6, []), (126, .ireturn, [])], [(10, (0, 0, 1, 1, 0)), (149, (1, 10, 1, 10, 0)), (24, (0, 4, 1, 11, 0)), (125, (1, 9, 0, 0, 0))], [], [], [(178, (3, 1, 22, 0, 0, .inl T_X10_within)), (579, (3, 4, 87, 0, 0, .inl T_X10_refusedTold)), (588, (3, 4, 91, 0, 0, .inl T_X10_fitPairs)), (609, (2, 3, 67, 0, 0, .inl T_X10_unlikeNumbers))], 4, 91, 0, 0)
theorem ok_X10_tellsMost : MOK M_X10_tellsMost := ⟨by decide +kernel, List.forall_mem_cons.mpr ⟨fl_RX10_10, List.forall_mem_cons.mpr ⟨fl_RX10_149, List.forall_mem_cons.mpr ⟨fl_RX10_24, List.forall_mem_cons.mpr ⟨fl_RX10_125, fun _ h => absurd h List.not_mem_nil⟩⟩⟩⟩, fun _ h => absurd h List.not_mem_nil, fun _ h => absurd h List.not_mem_nil, List.forall_mem_cons.mpr ⟨⟨Nat.le_of_ble_eq_true rfl, Nat.le_of_ble_eq_true rfl, cr_RX10_178⟩, List.forall_mem_cons.mpr ⟨⟨Nat.le_of_ble_eq_true rfl, Nat.le_of_ble_eq_true rfl, cr_RX10_579⟩, List.forall_mem_cons.mpr ⟨⟨Nat.le_of_ble_eq_true rfl, Nat.le_of_ble_eq_true rfl, cr_RX10_588⟩, List.forall_mem_cons.mpr ⟨⟨Nat.le_of_ble_eq_true rfl, Nat.le_of_ble_eq_true rfl, cr_RX10_609⟩, fun _ h => absurd h List.not_mem_nil⟩⟩⟩⟩⟩
set_option maxRecDepth 100000 in
theorem vc_X10_tellsMost {K : Int32 → AH → Prop} {h : AH} (p1 : Int32) (p2 : Int32) (p3 : Int32) (H : S_X10_within p3 (nI 0) (nI 1) h (fun x2 h1 => ((x2 = 0) → AW M_X10_tellsMost (.inl K) 21 [some (aR 0 0), some (aI p1), some (aI p2), some (aI p3), some (aI (iI (-1))), none, none, none, none] [] h1 0 0) ∧ (¬ (x2 = 0) → S_X10_refusedTold p1 p2 h1 (fun x4 h3 => AW M_X10_tellsMost (.inl K) 21 [some (aR 0 0), some (aI p1), some (aI p2), some (aI p3), some (aI x4), none, none, none, none] [] h3 0 0)))) : AW M_X10_tellsMost (.inl K) 0 [some (aR 0 0), some (aI p1), some (aI p2), some (aI p3), none, none, none, none, none] [] h 0 0 := AW_go (cuts := [(21, [true, true, true, true, true, false, false, false, false]), (59, [true, false, false, true, false, true, true, true, false])]) ok_X10_tellsMost 400 H
set_option maxRecDepth 100000 in
theorem vc_X10_tellsMost_21 {K : Int32 → AH → Prop} {h : AH}  (l1 : Int32) (l2 : Int32) (l3 : Int32) (l4 : Int32) (H : ((l4 = 0) → inR l1 7 ∧ inR l2 8 ∧ S_X10_fitPairs (h.2.1 10 0 l1.toNatClampNeg) l2.toNatClampNeg h (fun x2 h1 => AW M_X10_tellsMost (.inl K) 59 [some (aR 0 0), none, none, some (aI l3), none, some (aI (iI (-4))), some (aI (nI 0)), some (aI (nI 0)), none] [] h1 0 0)) ∧ (¬ (l4 = 0) → K l4 h)) : AW M_X10_tellsMost (.inl K) 21 [some (aR 0 0), some (aI l1), some (aI l2), some (aI l3), some (aI l4), none, none, none, none] [] h 0 0 := AW_go (cuts := [(21, [true, true, true, true, true, false, false, false, false]), (59, [true, false, false, true, false, true, true, true, false])]) ok_X10_tellsMost 400 H
set_option maxRecDepth 100000 in
theorem vc_X10_tellsMost_59 {K : Int32 → AH → Prop} {h : AH}  (l3 : Int32) (l5 : Int32) (l6 : Int32) (l7 : Int32) (H : (((h.1 1 0 9) ≤ l7) → ((l3 = 0) → K l5 h) ∧ (¬ (l3 = 0) → ((¬ l5 = (iI (-4))) → K l6 h) ∧ (¬ (¬ l5 = (iI (-4))) → K l5 h))) ∧ (¬ ((h.1 1 0 9) ≤ l7) → inR l7 7 ∧ S_X10_unlikeNumbers (h.2.1 10 0 l7.toNatClampNeg) h (fun x2 h1 => ((x2 ≤ l6) → AW M_X10_tellsMost (.inl K) 59 [some (aR 0 0), none, none, some (aI l3), none, some (aI l5), some (aI l6), some (aI (l7 + (nI 1))), none] [] h1 0 0) ∧ (¬ (x2 ≤ l6) → AW M_X10_tellsMost (.inl K) 59 [some (aR 0 0), none, none, some (aI l3), none, some (aI l7), some (aI x2), some (aI (l7 + (nI 1))), none] [] h1 0 0)))) : AW M_X10_tellsMost (.inl K) 59 [some (aR 0 0), none, none, some (aI l3), none, some (aI l5), some (aI l6), some (aI l7), none] [] h 0 0 := AW_go (cuts := [(21, [true, true, true, true, true, false, false, false, false]), (59, [true, false, false, true, false, true, true, true, false])]) ok_X10_tellsMost 400 H

theorem tmB_s {f : Nat → Nat} {t : Nat} : tmB f (t + 1) = if (tmB f t).2 < f t then ((t : Int), f t) else tmB f t := rfl
theorem lp_X10_tellsMost {S : Sm} {V : Vm} {n m : Nat} {w : Int32} {h : AH} {K : Int32 → AH → Prop} (cv : CV h 0 V) (hv : WF V) (he : ∀ P, P < 100 → h.1 14 0 P = oI (fitO (S.2 m) (vSt V n) (S.1 4 m) P)) (k : K (if (tmB (prt S V n m) (V 10 1)).1 < 0 ∨ w = 0 then iI (tmB (prt S V n m) (V 10 1)).1 else nI (tmB (prt S V n m) (V 10 1)).2) h) : ∀ r t, t + r = V 10 1 → AW M_X10_tellsMost (.inl K) 59 [some (aR 0 0), none, none, some (aI w), none, some (aI (iI (tmB (prt S V n m) t).1)), some (aI (nI (tmB (prt S V n m) t).2)), some (aI (nI t)), none] [] h 0 0 := by
  have h7 := hv.2.1
  obtain ⟨-, -, -, -, -, -, -, -, -, e9, -, -, eS⟩ := CVs cv
  intro r
  induction r with
  | zero =>
    intro t ht
    refine vc_X10_tellsMost_59 w _ _ (nI t) ?_
    have : t = V 10 1 := by omega
    subst this
    have hb := tmB_le (f := prt S V n m) (fun t => cn_le _ 200) (V 10 1)
    rw [e9]
    refine ⟨fun _ => ⟨fun z => ?_, fun z => ⟨fun y => ?_, fun y => ?_⟩⟩, fun q => absurd (Int32.le_refl _) q⟩
    · rw [if_pos (Or.inr z)] at k; exact k
    · rw [if_neg (fun v => v.elim (fun v => by
        rcases hb.2 with e | ⟨e, _⟩
        · exact y (by rw [e])
        · omega) z)] at k
      exact k
    · have y := Decidable.not_not.mp y
      rw [if_pos (Or.inl (by
        rcases hb.2 with e | ⟨e, e'⟩
        · omega
        · rw [i_eq (by omega) (by omega) (by omega) (by omega)] at y
          omega))] at k
      exact k
  | succ r ih =>
    intro t ht
    refine vc_X10_tellsMost_59 w _ _ (nI t) ?_
    have hb := tmB_le (f := prt S V n m) (fun t => cn_le _ 200) t
    have hc : prt S V n m t ≤ 200 := cn_le _ 200
    rw [e9, n_le (by omega) (by omega), n_cl (show t < 2147483648 by omega), nI_add]
    have ih := ih (t + 1) (by omega)
    rw [tmB_s] at ih
    refine ⟨fun q => by omega, fun _ => ⟨n_in (show t < 7 by omega) (by omega), fitO (S.2 m) (vSt V n) (S.1 4 m), V 8 t, V 9 t, he, fun P x hP hx => fitO_lt hP hx, eS t (by omega), (hv.2.2.2.2.2.2 t (by omega)).2, ?_⟩⟩
    have e : cn (fun v => sn (fitO (S.2 m) (vSt V n) (S.1 4 m)) (gT (stk (V 8 t) (V 9 t))) v 100) 200 = prt S V n m t := rfl
    rw [e]
    (try dsimp only)
    rw [n_le (by omega) (by omega)]
    refine ⟨fun q => ?_, fun q => ?_⟩
    · rw [if_neg (by omega)] at ih; exact ih
    · rw [if_pos (by omega)] at ih
      rw [nI_iI t]
      exact ih
theorem snd_X10_tellsMost (a d w : Int32) {h : AH} {K : Int32 → AH → Prop} (k : S_X10_tellsMost a d w h K) : AW M_X10_tellsMost (.inl K) 0 [some (aR 0 0), some (aI a), some (aI d), some (aI w), none, none, none, none, none] [] h 0 0 := by
  obtain ⟨S, V, cs, ws, cv, hv, k⟩ := k
  have h7 := hv.2.1
  unfold R_tellsMost at k
  have out : ∀ x, x ≠ nI 0 → K x h → AW M_X10_tellsMost (.inl K) 21 [some (aR 0 0), some (aI a), some (aI d), some (aI w), some (aI x), none, none, none, none] [] h 0 0 := fun x hx hk => vc_X10_tellsMost_21 a d w x ⟨fun z => absurd z hx, fun _ => hk⟩
  refine vc_X10_tellsMost a d w (w_if (fun q => ⟨S, V, cs, ws, cv, hv, ?_⟩) (fun q => ?_))
  case refine_2 => rw [if_pos q] at k; exact out _ (by decide) (k h (keepC_rfl h))
  rw [if_neg (fun z => z q)] at k
  rcases rsr_c cs ws cv hv a d with ⟨n, m, hn, rfl, rfl, p, e⟩ | e
  case inr =>
    rw [if_pos e] at k
    exact out _ e (k h (keepC_rfl h))
  have hm := p.2.2.1
  rw [if_neg (fun z => z e), nN_n (show n < 2147483648 by omega), nN_n (show m < 2147483648 by omega)] at k
  rw [e]
  refine vc_X10_tellsMost_21 _ _ _ _ ⟨fun _ => ⟨n_in (show n < 7 by omega) (by omega), n_in hm (by omega), ?_⟩, fun z => absurd (show nI 0 = 0 by decide) z⟩
  rw [n_cl (show n < 2147483648 by omega), n_cl (show m < 2147483648 by omega)]
  refine ⟨S, V 8 n, V 9 n, p, (CVs cv).2.2.2.2.2.2.2.2.2.2.2.2 n hn, (hv.2.2.2.2.2.2 n hn).2, fun h' o he => ?_⟩
  exact lp_X10_tellsMost (CV_K (keepC_14 o) (by decide) cv) hv he (k h' (keepC_14 o)) (V 10 1) 0 (by omega)
theorem tr_X10_tellsMost : ∀ (as : List AV) (h : AH) (K : Int32 → AH → Prop), T_X10_tellsMost as h K → ∃ (q : Nat) (r : List AV), as = aR 0 q :: r := by
  intro as h K hk
  match as, hk with
  | [.inr (.inr (.inl q0)), .inl q1, .inl q2, .inl q3], hk =>
    obtain ⟨hb, hk⟩ := tif_inv hk
    simp only [Bool.and_eq_true] at hb
    obtain ⟨e0, e1⟩ := hb
    obtain ⟨a0, b0⟩ := q0
    have f0 : a0 = 0 := Nat.eq_of_beq_eq_true e0
    subst f0
    have f1 : b0 = 0 := Nat.eq_of_beq_eq_true e1
    subst f1
    exact ⟨_, _, rfl⟩
theorem tw_X10_tellsMost : ∀ (as : List AV) (h : AH) (K : Int32 → AH → Prop), T_X10_tellsMost as h K → (ini as).length ≤ mNL M_X10_tellsMost ∧ AW M_X10_tellsMost (.inl K) 0 (initL (mNL M_X10_tellsMost) as) [] h 0 0 := by
  intro as h K hk
  match as, hk with
  | [.inr (.inr (.inl q0)), .inl q1, .inl q2, .inl q3], hk =>
    obtain ⟨hb, hk⟩ := tif_inv hk
    simp only [Bool.and_eq_true] at hb
    obtain ⟨e0, e1⟩ := hb
    obtain ⟨a0, b0⟩ := q0
    have f0 : a0 = 0 := Nat.eq_of_beq_eq_true e0
    subst f0
    have f1 : b0 = 0 := Nat.eq_of_beq_eq_true e1
    subst f1
    exact ⟨Nat.le_of_ble_eq_true rfl, snd_X10_tellsMost q1 q2 q3 hk⟩


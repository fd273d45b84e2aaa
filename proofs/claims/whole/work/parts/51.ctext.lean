/-! ===== the component: texts looked at ===== -/
def byt (x : Int32) : Prop := ∃ k : Nat, k < 128 ∧ (x = nI k ∨ x = iI (-(k : Int) - 1))
theorem byt_1 : ∀ k, k < 128 → nI k &&& nI 255 = nI k := by decide +kernel
theorem byt_2 : ∀ k : Nat, k < 128 → iI (-(k : Int) - 1) &&& nI 255 = nI (255 - k) := by decide +kernel
theorem byt_3 : ∀ k : Nat, k < 128 → iI (-(k : Int) - 1) < 0 := by decide +kernel
theorem byt_eq {x : Int32} {j : Nat} (b : byt x) (hj : j < 128) : x &&& nI 255 = nI j ↔ x = nI j := by
  obtain ⟨k, hk, e | e⟩ := b
  · rw [e, byt_1 k hk]
  · have h3 := byt_3 k hk
    rw [e, byt_2 k hk, n_eq (by omega) (by omega)]
    refine ⟨fun z => by omega, fun z => ?_⟩
    rw [z, n_lt0 (by omega)] at h3
    exact h3.elim
theorem byt_dgt {x : Int32} (b : byt x) : dgt (x &&& nI 255) ↔ dgt x := by
  rw [in_d, in_d]
  refine ⟨fun ⟨k, hk, e⟩ => ⟨k, hk, (byt_eq b (by omega)).mp e⟩, fun ⟨k, hk, e⟩ => ⟨k, hk, (byt_eq b (by omega)).mpr e⟩⟩
theorem byt_grp {x : Int32} (b : byt x) : grp (x &&& nI 255) = grp x := by
  unfold grp
  simp only [byt_eq b (show 99 < 128 by decide), byt_eq b (show 101 < 128 by decide), byt_eq b (show 115 < 128 by decide), byt_eq b (show 116 < 128 by decide), byt_eq b (show 100 < 128 by decide), byt_eq b (show 104 < 128 by decide)]
def WB (S : Sm) : Prop := ∀ d, d < 8 → S.1 0 d = 2 → S.1 3 d = 0 → ∀ i, i < 100 → byt (S.2 d i)
theorem hb_in {E : Nat → Int32} {sz p : Nat} (h : p < sz) : hb E sz p = E p &&& nI 255 := if_pos h
theorem hb_out {E : Nat → Int32} {sz p : Nat} (h : ¬ p < sz) : hb E sz p = iI (-1) := if_neg h
theorem dgt_m1 : ¬ dgt (iI (-1)) := by decide
def S_X5_digitsBehind (x : Int32) (h : AH) (K : Int32 → AH → Prop) : Prop := K (nI (grp x).sum) h
def T_X5_digitsBehind : List AV → AH → (Int32 → AH → Prop) → Prop := fun as h K => match as with
  | [.inl q0] => S_X5_digitsBehind q0 h K
  | _ => False

def M_X5_digitsBehind : MI := (RX5, cX5_digitsBehind, 1, [(0, .iload_n 0, []), (1, .tableswitch 99 99 116 #[87, 93, 89, 99, 99, 95, 99, 99, 99, 99, 99, 99, 99, 99, 99, 99, 91, 97], [100, 88, 94, 90, 100, 100, 96, 100, 100, 100, 100, 100, 100, 100, 100, 100, 100, 92, 98]), (88, .iconst 4, []), (89, .ireturn, []), (90, .iconst 4, []), (91, .ireturn, []), (92, .iconst 2, []), (93, .ireturn, []), (94, .iconst 1, []), (95, .ireturn, []), (96, .iconst 2, []), (97, .ireturn, []), (98, .iconst 2, []), (99, .ireturn, []), (100, .iconst 0, []), (101, .ireturn, [])], [], [], [], [], 0, 0, 0, 0)
theorem ok_X5_digitsBehind : MOK M_X5_digitsBehind := ⟨by decide +kernel, fun _ h => absurd h List.not_mem_nil, fun _ h => absurd h List.not_mem_nil, fun _ h => absurd h List.not_mem_nil, fun _ h => absurd h List.not_mem_nil⟩
set_option maxRecDepth 100000 in
theorem vc_X5_digitsBehind {K : Int32 → AH → Prop} {h : AH} (p0 : Int32) (H : (p0.toInt < 99 ∨ 116 < p0.toInt → K (nI 0) h) ∧ (p0 = nI 99 → K (nI 4) h) ∧ (p0 = nI 100 → K (nI 1) h) ∧ (p0 = nI 101 → K (nI 4) h) ∧ (p0 = nI 102 → K (nI 0) h) ∧ (p0 = nI 103 → K (nI 0) h) ∧ (p0 = nI 104 → K (nI 2) h) ∧ (p0 = nI 105 → K (nI 0) h) ∧ (p0 = nI 106 → K (nI 0) h) ∧ (p0 = nI 107 → K (nI 0) h) ∧ (p0 = nI 108 → K (nI 0) h) ∧ (p0 = nI 109 → K (nI 0) h) ∧ (p0 = nI 110 → K (nI 0) h) ∧ (p0 = nI 111 → K (nI 0) h) ∧ (p0 = nI 112 → K (nI 0) h) ∧ (p0 = nI 113 → K (nI 0) h) ∧ (p0 = nI 114 → K (nI 0) h) ∧ (p0 = nI 115 → K (nI 2) h) ∧ (p0 = nI 116 → K (nI 2) h) ∧ True) : AW M_X5_digitsBehind (.inl K) 0 [some (aI p0)] [] h 0 0 := AW_go (cuts := []) ok_X5_digitsBehind 400 H

theorem snd_X5_digitsBehind (x : Int32) {h : AH} {K : Int32 → AH → Prop} (k : S_X5_digitsBehind x h K) : AW M_X5_digitsBehind (.inl K) 0 [some (aI x)] [] h 0 0 := by
  unfold S_X5_digitsBehind at k
  have g0 : ∀ n, x = nI n → grp (nI n) = [] → K (nI 0) h := fun n e g => by
    rw [e, g] at k
    exact k
  refine vc_X5_digitsBehind x ⟨fun q => ?_, fun q => ?_, fun q => ?_, fun q => ?_, fun q => g0 _ q (by decide), fun q => g0 _ q (by decide), fun q => ?_, fun q => g0 _ q (by decide), fun q => g0 _ q (by decide), fun q => g0 _ q (by decide), fun q => g0 _ q (by decide), fun q => g0 _ q (by decide), fun q => g0 _ q (by decide), fun q => g0 _ q (by decide), fun q => g0 _ q (by decide), fun q => g0 _ q (by decide), fun q => g0 _ q (by decide), fun q => ?_, fun q => ?_, trivial⟩
  · have hx : ∀ k, 99 ≤ k → k ≤ 116 → x ≠ nI k := fun k h1 h2 z => by
      subst z
      rw [n_toInt (by omega)] at q
      omega
    have : grp x = [] := by
      unfold grp
      rw [if_neg (hx 99 (by omega) (by omega)), if_neg (hx 101 (by omega) (by omega)), if_neg (fun z => z.elim (hx 115 (by omega) (by omega)) (hx 116 (by omega) (by omega))), if_neg (hx 100 (by omega) (by omega)), if_neg (hx 104 (by omega) (by omega))]
    rw [this] at k
    exact k
  all_goals
    subst q
    exact k
theorem tw_X5_digitsBehind : ∀ (as : List AV) (h : AH) (K : Int32 → AH → Prop), T_X5_digitsBehind as h K → (ini as).length ≤ mNL M_X5_digitsBehind ∧ AW M_X5_digitsBehind (.inl K) 0 (initL (mNL M_X5_digitsBehind) as) [] h 0 0 := by
  intro as h K hk
  match as, hk with
  | [.inl q0], hk =>
    exact ⟨Nat.le_of_ble_eq_true rfl, snd_X5_digitsBehind q0 hk⟩
theorem cr_RX5_94 : CR RX5 (kIns 94) (1, 1, 20, 0, 0, .inl T_X5_digitsBehind) := crS_i (M := M_X5_digitsBehind) (by decide) rfl (inG (i := 202) (w := Cond.methodLink RX5 31 yX5_digitsBehind) (by decide +kernel) rfl) (inG (i := 203) (w := Cond.static yX5_digitsBehind) (by decide +kernel) rfl) (inG (i := 39) (w := Cond.initialized RX5) (by decide +kernel) rfl) (inG (i := 204) (w := Cond.code yX5_digitsBehind cX5_digitsBehind 1 (some .int)) (by decide +kernel) rfl) ⟨by decide +kernel, by decide +kernel, by decide +kernel⟩ tw_X5_digitsBehind
theorem cr_RX10_157 : CR RX10 (kIns 157) (1, 1, 20, 0, 0, .inl T_X5_digitsBehind) := crS_i (M := M_X5_digitsBehind) (by decide) rfl (inG (i := 213) (w := Cond.methodLink RX10 52 yX5_digitsBehind) (by decide +kernel) rfl) (inG (i := 203) (w := Cond.static yX5_digitsBehind) (by decide +kernel) rfl) (inG (i := 39) (w := Cond.initialized RX5) (by decide +kernel) rfl) (inG (i := 204) (w := Cond.code yX5_digitsBehind cX5_digitsBehind 1 (some .int)) (by decide +kernel) rfl) ⟨by decide +kernel, by decide +kernel, by decide +kernel⟩ tw_X5_digitsBehind

/-- digits and the end of a statement: whether all is so, the place behind or of the fault -/
def flt (H : Nat → Int32) : Nat → Nat → Bool × Nat
  | 0, p => if H p = nI 59 then (true, p + 1) else (false, p)
  | d + 1, p => if dgt (H p) then flt H d (p + 1) else (false, p)
theorem flt_s {H : Nat → Int32} {d p : Nat} : flt H (d + 1) p = if dgt (H p) then flt H d (p + 1) else (false, p) := rfl
theorem flt_0 {H : Nat → Int32} {p : Nat} : flt H 0 p = if H p = nI 59 then (true, p + 1) else (false, p) := rfl
theorem rd_s {H : Nat → Int32} {n p v : Nat} : rd H (n + 1) p v = if dgt (H p) then rd H n (p + 1) (10 * v + (nN (H p) - 48)) else (false, p, v) := rfl
theorem rd_flt {H : Nat → Int32} : ∀ g p v d, flt H (g + d) p = if (rd H g p v).1 = true then flt H d (rd H g p v).2.1 else (false, (rd H g p v).2.1)
  | 0, p, v, d => by rw [Nat.zero_add]; exact (if_pos rfl).symm
  | g + 1, p, v, d => by
    rw [show g + 1 + d = (g + d) + 1 by omega, flt_s, rd_s]
    by_cases z : dgt (H p)
    · rw [if_pos z, if_pos z]
      exact rd_flt g (p + 1) _ d
    · rw [if_neg z, if_neg z]
      exact (if_neg (show ¬ false = true by decide)).symm
theorem rdG_flt {H : Nat → Int32} : ∀ gs p, flt H gs.sum p = ((rdG H gs p).1, (rdG H gs p).2.1)
  | [], p => by
    show flt H 0 p = _
    rw [flt_0]
    unfold rdG
    split <;> rfl
  | g :: gs, p => by
    have h1 := rd_flt (H := H) g p 0 gs.sum
    rw [List.sum_cons, h1]
    unfold rdG
    by_cases z : (rd H g p 0).1 = true
    · rw [if_pos z, if_pos z]
      exact rdG_flt gs _
    · rw [if_neg z, if_neg z]
theorem flt_le {E : Nat → Int32} {sz : Nat} : ∀ d p, (flt (hb E sz) d p).1 = true → (flt (hb E sz) d p).2 ≤ sz ∧ p < (flt (hb E sz) d p).2
  | 0, p, h => by
    rw [flt_0] at h ⊢
    by_cases z : hb E sz p = nI 59
    · rw [if_pos z]
      by_cases y : p < sz
      · exact ⟨y, Nat.lt_succ_self p⟩
      · rw [hb_out y] at z
        exact absurd z (by decide)
    · rw [if_neg z] at h
      exact absurd h (show ¬ false = true by decide)
  | d + 1, p, h => by
    rw [flt_s] at h ⊢
    by_cases z : dgt (hb E sz p)
    · rw [if_pos z] at h ⊢
      have := flt_le d (p + 1) h
      omega
    · rw [if_neg z] at h
      exact absurd h (show ¬ false = true by decide)
/-- what is read of a text -/
def bytP (h : AH) (S : Sm) (d : Nat) : Prop := rowP h S d ∧ ∀ i, i < 100 → byt (S.2 d i)
def S_X5_firstBadByte (d : Nat) (h : AH) (K : Int32 → AH → Prop) : Prop := ∃ S, bytP h S d ∧ K (match sc (hb (S.2 d) (S.1 4 d)) (S.1 4 d) 101 0 0 with
  | .inl _ => iI (-4)
  | .inr p => nI p) h
def T_X5_firstBadByte : List AV → AH → (Int32 → AH → Prop) → Prop := fun as h K => match as with
  | [.inr (.inr (.inl q0))] => tif (Nat.beq q0.1 12) (S_X5_firstBadByte q0.2 h K)
  | _ => False

def M_X5_firstBadByte : MI := (RX5, cX5_firstBadByte, 5, [(0, .iconst 1, []), (1, .istore_n 1, []), (2, .iconst 0, []), (3, .istore_n 2, []), (4, .iconst 0, []), (5, .istore_n 3, []), (6, .iload_n 3, []), (7, .aload_n 0, []), (8, .getfield 23, []), (11, .if_icmp .ge 67, [78]), (14, .aload_n 0, []), (15, .getfield 9, []), (18, .iload_n 3, []), (19, .iaload, []), (20, .istore 4, []), (22, .iload_n 1, []), (23, .ifCond .eq 17, [40]), (26, .iload 4, []), (28, .invokestatic 31, []), (31, .istore_n 2, []), (32, .iconst 0, []), (33, .istore_n 1, []), (34, .iload_n 2, []), (35, .ifCond .ne 37, [72]), (38, .iload_n 3, []), (39, .ireturn, []), (40, .iload_n 2, []), (41, .ifCond .le 20, [61]), (44, .iinc 2 (-1), []), (47, .iload 4, []), (49, .bipush 48, []), (51, .bipush 57, []), (53, .invokestatic 35, []), (56, .ifCond .ne 16, [72]), (59, .iload_n 3, []), (60, .ireturn, []), (61, .iconst 1, []), (62, .istore_n 1, []), (63, .iload 4, []), (65, .bipush 59, []), (67, .if_icmp .eq 5, [72]), (70, .iload_n 3, []), (71, .ireturn, []), (72, .iinc 3 1, []), (75, .goto (-69), [6]), (78, .iload_n 1, []), (79, .ifCond .eq 15, [94]), (82, .aload_n 0, []), (83, .getfield 23, []), (86, .ifCond .le 8, [94]), (89, .bipush (-4), []), (91, .goto 7, [98]), (94, .aload_n 0, []), (95, .getfield 23, []), (98, .ireturn, [])], [(23, (12, 3, 0, 0, 0)), (9, (12, 4, 1, 13, 0))], [], [], [(94, (1, 1, 20, 0, 0, .inl T_X5_digitsBehind)), (106, (3, 1, 22, 0, 0, .inl T_X10_within))], 1, 22, 0, 0)
theorem ok_X5_firstBadByte : MOK M_X5_firstBadByte := ⟨by decide +kernel, List.forall_mem_cons.mpr ⟨fl_RX5_23, List.forall_mem_cons.mpr ⟨fl_RX5_9, fun _ h => absurd h List.not_mem_nil⟩⟩, fun _ h => absurd h List.not_mem_nil, fun _ h => absurd h List.not_mem_nil, List.forall_mem_cons.mpr ⟨⟨Nat.le_of_ble_eq_true rfl, Nat.le_of_ble_eq_true rfl, cr_RX5_94⟩, List.forall_mem_cons.mpr ⟨⟨Nat.le_of_ble_eq_true rfl, Nat.le_of_ble_eq_true rfl, cr_RX5_106⟩, fun _ h => absurd h List.not_mem_nil⟩⟩⟩
set_option maxRecDepth 100000 in
theorem vc_X5_firstBadByte {K : Int32 → AH → Prop} {h : AH} (p0 : Nat) (H : AW M_X5_firstBadByte (.inl K) 6 [some (aR 12 p0), some (aI (nI 1)), some (aI (nI 0)), some (aI (nI 0)), none] [] h 0 0) : AW M_X5_firstBadByte (.inl K) 0 [some (aR 12 p0), none, none, none, none] [] h 0 0 := AW_go (cuts := [(6, [true, true, true, true, false])]) ok_X5_firstBadByte 400 H
set_option maxRecDepth 100000 in
theorem vc_X5_firstBadByte_6 {K : Int32 → AH → Prop} {h : AH}  (l0 : Nat) (l1 : Int32) (l2 : Int32) (l3 : Int32) (H : (((h.1 12 l0 3) ≤ l3) → ((l1 = 0) → K (h.1 12 l0 3) h) ∧ (¬ (l1 = 0) → (((h.1 12 l0 3) ≤ 0) → K (h.1 12 l0 3) h) ∧ (¬ ((h.1 12 l0 3) ≤ 0) → K (iI (-4)) h))) ∧ (¬ ((h.1 12 l0 3) ≤ l3) → inR l3 100 ∧ ((l1 = 0) → ((l2 ≤ 0) → (((h.1 13 l0 l3.toNatClampNeg) = (nI 59)) → AW M_X5_firstBadByte (.inl K) 6 [some (aR 12 l0), some (aI (nI 1)), some (aI l2), some (aI (l3 + (nI 1))), none] [] h 0 0) ∧ (¬ ((h.1 13 l0 l3.toNatClampNeg) = (nI 59)) → K l3 h)) ∧ (¬ (l2 ≤ 0) → S_X10_within (h.1 13 l0 l3.toNatClampNeg) (nI 48) (nI 57) h (fun x2 h1 => ((¬ x2 = 0) → AW M_X5_firstBadByte (.inl K) 6 [some (aR 12 l0), some (aI l1), some (aI (l2 + (iI (-1)))), some (aI (l3 + (nI 1))), none] [] h1 0 0) ∧ (¬ (¬ x2 = 0) → K l3 h1)))) ∧ (¬ (l1 = 0) → S_X5_digitsBehind (h.1 13 l0 l3.toNatClampNeg) h (fun x4 h3 => ((¬ x4 = 0) → AW M_X5_firstBadByte (.inl K) 6 [some (aR 12 l0), some (aI (nI 0)), some (aI x4), some (aI (l3 + (nI 1))), none] [] h3 0 0) ∧ (¬ (¬ x4 = 0) → K l3 h3))))) : AW M_X5_firstBadByte (.inl K) 6 [some (aR 12 l0), some (aI l1), some (aI l2), some (aI l3), none] [] h 0 0 := AW_go (cuts := [(6, [true, true, true, true, false])]) ok_X5_firstBadByte 400 H

theorem fb0_X5_firstBadByte {S : Sm} {d : Nat} {h : AH} {K : Int32 → AH → Prop} (p0 : bytP h S d) : ∀ n, n ≤ 10 → ∀ p, p ≤ S.1 4 d → ((flt (hb (S.2 d) (S.1 4 d)) n p).1 = true → ∀ x, AW M_X5_firstBadByte (.inl K) 6 [some (aR 12 d), some (aI (nI 1)), some (aI x), some (aI (nI (flt (hb (S.2 d) (S.1 4 d)) n p).2)), none] [] h 0 0) → (¬ (flt (hb (S.2 d) (S.1 4 d)) n p).1 = true → K (nI (flt (hb (S.2 d) (S.1 4 d)) n p).2) h) → AW M_X5_firstBadByte (.inl K) 6 [some (aR 12 d), some (aI (nI 0)), some (aI (nI n)), some (aI (nI p)), none] [] h 0 0 := by
  obtain ⟨-, -, -, e3, e4, -, l2⟩ := rowPs p0.1
  have over : ∀ n p, p = S.1 4 d → n < 2147483648 → (¬ (flt (hb (S.2 d) (S.1 4 d)) n p).1 = true → K (nI (flt (hb (S.2 d) (S.1 4 d)) n p).2) h) → AW M_X5_firstBadByte (.inl K) 6 [some (aR 12 d), some (aI (nI 0)), some (aI (nI n)), some (aI (nI p)), none] [] h 0 0 := by
    intro n p hp hn k2
    have hf : flt (hb (S.2 d) (S.1 4 d)) n p = (false, p) := by
      cases n with
      | zero => rw [flt_0, hb_out (by omega)]; exact if_neg (by decide)
      | succ n => rw [flt_s, hb_out (by omega)]; exact if_neg dgt_m1
    rw [hf] at k2
    refine vc_X5_firstBadByte_6 d (nI 0) (nI n) (nI p) ?_
    rw [e3, hp]
    rw [hp] at k2
    exact ⟨fun _ => ⟨fun _ => k2 (show ¬ false = true by decide), fun z => absurd (show nI 0 = 0 by decide) z⟩, fun q => absurd (Int32.le_refl _) q⟩
  intro n
  induction n with
  | zero =>
    intro _ p hp k1 k2
    rcases Nat.lt_or_ge p (S.1 4 d) with z | z
    case inr => exact over 0 p (by omega) (by omega) k2
    refine vc_X5_firstBadByte_6 d (nI 0) (nI 0) (nI p) ?_
    have hbp := p0.2 p (by omega)
    rw [flt_0, hb_in z] at k1 k2
    rw [e3, n_le (by omega) (by omega), n_cl (show p < 2147483648 by omega), e4 p (by omega), nI_add]
    refine ⟨fun q => by omega, fun _ => ⟨n_in (show p < 100 by omega) (by omega), fun _ => ⟨fun _ => ⟨fun y => ?_, fun y => ?_⟩, fun q => absurd (by decide) q⟩, fun q => absurd (show nI 0 = 0 by decide) q⟩⟩
    · rw [if_pos ((byt_eq hbp (by omega)).mpr y)] at k1
      exact k1 rfl _
    · rw [if_neg (fun v => y ((byt_eq hbp (by omega)).mp v))] at k2
      exact k2 (show ¬ false = true by decide)
  | succ n ih =>
    intro hn10 p hp k1 k2
    have hn : n + 1 < 2147483648 := by omega
    rcases Nat.lt_or_ge p (S.1 4 d) with z | z
    case inr => exact over (n + 1) p (by omega) hn k2
    refine vc_X5_firstBadByte_6 d (nI 0) (nI (n + 1)) (nI p) ?_
    have hbp := p0.2 p (by omega)
    rw [flt_s, hb_in z] at k1 k2
    have eq1 : nI (n + 1) + iI (-1) = nI n := by rw [nI_iI, i_add, nI_iI]; congr 1; omega
    rw [e3, n_le (by omega) (by omega), n_cl (show p < 2147483648 by omega), e4 p (by omega), nI_add, eq1, n_le0 hn]
    refine ⟨fun q => by omega, fun _ => ⟨n_in (show p < 100 by omega) (by omega), fun _ => ⟨fun q => absurd q (Nat.succ_ne_zero n), fun _ => w_ni (fun y => ?_) (fun y => ?_)⟩, fun q => absurd (show nI 0 = 0 by decide) q⟩⟩
    · rw [if_pos ((byt_dgt hbp).mpr y)] at k1 k2
      exact ih (by omega) (p + 1) (by omega) k1 k2
    · rw [if_neg (fun v => y ((byt_dgt hbp).mp v))] at k2
      exact k2 (show ¬ false = true by decide)
theorem grp_sum (x : Int32) : (grp x).sum ≤ 4 ∧ ((grp x).sum = 0 ↔ grp x = []) := by
  unfold grp
  (repeat' split) <;> decide
theorem rdS_flt {H : Nat → Int32} {p : Nat} (h : ¬ grp (H p) = []) : flt H (grp (H p)).sum (p + 1) = ((rdS H p).1, (rdS H p).2.1) := by
  rw [rdG_flt]
  unfold rdS
  rw [if_neg h]
theorem fb1_X5_firstBadByte {S : Sm} {d : Nat} {h : AH} {K : Int32 → AH → Prop} (p0 : bytP h S d) : ∀ f p x m, p + f ≥ 101 → p < S.1 4 d → (∀ q, sc (hb (S.2 d) (S.1 4 d)) (S.1 4 d) f p m = .inr q → K (nI q) h) → (∀ n, sc (hb (S.2 d) (S.1 4 d)) (S.1 4 d) f p m = .inl n → K (iI (-4)) h) → AW M_X5_firstBadByte (.inl K) 6 [some (aR 12 d), some (aI (nI 1)), some (aI x), some (aI (nI p)), none] [] h 0 0 := by
  obtain ⟨-, -, -, e3, e4, -, l2⟩ := rowPs p0.1
  intro f
  induction f with
  | zero => intro p x m hp hp2; omega
  | succ f ih =>
    intro p x m hp hp2 k1 k2
    refine vc_X5_firstBadByte_6 d (nI 1) x (nI p) ?_
    have hbp := p0.2 p (by omega)
    have hg := byt_grp hbp
    have hH := hb_in (E := S.2 d) hp2
    obtain ⟨g1, g2⟩ := grp_sum (S.2 d p)
    rw [sc_s] at k1 k2
    rw [e3, n_le (by omega) (by omega), n_cl (show p < 2147483648 by omega), e4 p (by omega), nI_add]
    refine ⟨fun q => by omega, fun _ => ⟨n_in (show p < 100 by omega) (by omega), fun q => absurd q (by decide), fun _ => ?_⟩⟩
    show (¬ nI (grp (S.2 d p)).sum = 0 → _) ∧ (¬ ¬ nI (grp (S.2 d p)).sum = 0 → _)
    rw [n_eq0 (show (grp (S.2 d p)).sum < 2147483648 by omega), g2]
    refine nn_if (fun z => ?_) (fun z => ?_)
    · have e : rdS (hb (S.2 d) (S.1 4 d)) p = (false, p, []) := by
        unfold rdS
        rw [hH, hg, if_pos z]
      rw [e, if_neg (show ¬ false = true by decide)] at k1
      exact k1 p rfl
    · have hg2 : ¬ grp (hb (S.2 d) (S.1 4 d) p) = [] := by rw [hH, hg]; exact z
      have hf := rdS_flt hg2
      rw [hH, hg] at hf
      refine fb0_X5_firstBadByte p0 _ (by omega) (p + 1) (by omega) (fun y x' => ?_) (fun y => ?_)
      · have hl := flt_le (E := S.2 d) (sz := S.1 4 d) _ _ y
        rw [hf] at y hl ⊢
        have y : (rdS (hb (S.2 d) (S.1 4 d)) p).1 = true := y
        rw [if_pos y] at k1 k2
        have hl1 : (rdS (hb (S.2 d) (S.1 4 d)) p).2.1 ≤ S.1 4 d := hl.1
        have hl2 : p + 1 < (rdS (hb (S.2 d) (S.1 4 d)) p).2.1 := hl.2
        show AW M_X5_firstBadByte (.inl K) 6 [some (aR 12 d), some (aI (nI 1)), some (aI x'), some (aI (nI (rdS (hb (S.2 d) (S.1 4 d)) p).2.1)), none] [] h 0 0
        by_cases v : (rdS (hb (S.2 d) (S.1 4 d)) p).2.1 < S.1 4 d
        · rw [if_pos v] at k1 k2
          exact ih _ x' (m + 1) (by omega) v k1 k2
        · rw [if_neg v] at k2
          refine vc_X5_firstBadByte_6 d (nI 1) x' _ ?_
          rw [e3, n_le (by omega) (by omega), n_le0 (by omega)]
          exact ⟨fun _ => ⟨fun q => absurd q (by decide), fun _ => ⟨fun q => by omega, fun _ => k2 _ rfl⟩⟩, fun q => by omega⟩
      · rw [hf] at y ⊢
        have y : ¬ (rdS (hb (S.2 d) (S.1 4 d)) p).1 = true := y
        rw [if_neg y] at k1
        exact k1 _ rfl
theorem snd_X5_firstBadByte (d : Nat) {h : AH} {K : Int32 → AH → Prop} (k : S_X5_firstBadByte d h K) : AW M_X5_firstBadByte (.inl K) 0 [some (aR 12 d), none, none, none, none] [] h 0 0 := by
  obtain ⟨S, p0, k⟩ := k
  obtain ⟨-, -, -, e3, e4, -, l2⟩ := rowPs p0.1
  refine vc_X5_firstBadByte d ?_
  rcases Nat.eq_zero_or_pos (S.1 4 d) with z | z
  · have e : sc (hb (S.2 d) (S.1 4 d)) (S.1 4 d) 101 0 0 = .inr 0 := by
      have e2 : rdS (hb (S.2 d) (S.1 4 d)) 0 = (false, 0, []) := by
        unfold rdS
        rw [hb_out (by omega)]
        exact if_pos (by decide)
      rw [sc_s (f := 100), e2]
      exact if_neg (show ¬ false = true by decide)
    rw [e] at k
    refine vc_X5_firstBadByte_6 d (nI 1) (nI 0) (nI 0) ?_
    rw [e3, z]
    exact ⟨fun _ => ⟨fun q => absurd q (by decide), fun _ => ⟨fun _ => k, fun q => absurd (by decide) q⟩⟩, fun q => absurd (Int32.le_refl _) q⟩
  · refine fb1_X5_firstBadByte p0 101 0 _ 0 (by omega) z (fun q e => ?_) (fun n e => ?_)
    · rw [e] at k; exact k
    · rw [e] at k; exact k
theorem tr_X5_firstBadByte : ∀ (as : List AV) (h : AH) (K : Int32 → AH → Prop), T_X5_firstBadByte as h K → ∃ (q : Nat) (r : List AV), as = aR 12 q :: r := by
  intro as h K hk
  match as, hk with
  | [.inr (.inr (.inl q0))], hk =>
    obtain ⟨hb, hk⟩ := tif_inv hk
    have e0 := hb
    obtain ⟨a0, b0⟩ := q0
    have f0 : a0 = 12 := Nat.eq_of_beq_eq_true e0
    subst f0
    exact ⟨_, _, rfl⟩
theorem tw_X5_firstBadByte : ∀ (as : List AV) (h : AH) (K : Int32 → AH → Prop), T_X5_firstBadByte as h K → (ini as).length ≤ mNL M_X5_firstBadByte ∧ AW M_X5_firstBadByte (.inl K) 0 (initL (mNL M_X5_firstBadByte) as) [] h 0 0 := by
  intro as h K hk
  match as, hk with
  | [.inr (.inr (.inl q0))], hk =>
    obtain ⟨hb, hk⟩ := tif_inv hk
    have e0 := hb
    obtain ⟨a0, b0⟩ := q0
    have f0 : a0 = 12 := Nat.eq_of_beq_eq_true e0
    subst f0
    exact ⟨Nat.le_of_ble_eq_true rfl, snd_X5_firstBadByte b0 hk⟩
theorem cr_RX10_111 : CR RX10 (kIns 111) (1, 2, 46, 0, 0, .inl T_X5_firstBadByte) := crV_i (t := 12) (M := M_X5_firstBadByte) (by decide) rfl (by decide) rfl (inG (i := 198) (w := Cond.methodLink RX10 37 yX5_firstBadByte) (by decide +kernel) rfl) (inG (i := 199) (w := Cond.instanceMethod yX5_firstBadByte) (by decide +kernel) rfl) (inG (i := 39) (w := Cond.initialized RX5) (by decide +kernel) rfl) (inG (i := 200) (w := Cond.selects RX5 yX5_firstBadByte yX5_firstBadByte) (by decide +kernel) rfl) (inG (i := 201) (w := Cond.code yX5_firstBadByte cX5_firstBadByte 5 (some .int)) (by decide +kernel) rfl) ⟨by decide +kernel, by decide +kernel, by decide +kernel⟩ tr_X5_firstBadByte tw_X5_firstBadByte

def S_X5_number (d : Nat) (x y : Int32) (h : AH) (K : Int32 → AH → Prop) : Prop := ∃ S p k, bytP h S d ∧ x = nI p ∧ p ≤ 1000 ∧ y = nI k ∧ k ≤ 2 ∧ (rd (hb (S.2 d) (S.1 4 d)) k p 0).1 = true ∧ K (nI (rd (hb (S.2 d) (S.1 4 d)) k p 0).2.2) h
def T_X5_number : List AV → AH → (Int32 → AH → Prop) → Prop := fun as h K => match as with
  | [.inr (.inr (.inl q0)), .inl q1, .inl q2] => tif (Nat.beq q0.1 12) (S_X5_number q0.2 q1 q2 h K)
  | _ => False

def M_X5_number : MI := (RX5, cX5_number, 5, [(0, .iconst 0, []), (1, .istore_n 3, []), (2, .iload_n 1, []), (3, .istore 4, []), (5, .iload 4, []), (7, .iload_n 1, []), (8, .iload_n 2, []), (9, .iadd, []), (10, .if_icmp .ge 36, [46]), (13, .iload 4, []), (15, .iconst 0, []), (16, .bipush 99, []), (18, .invokestatic 35, []), (21, .ifCond .eq 25, [46]), (24, .bipush 10, []), (26, .iload_n 3, []), (27, .imul, []), (28, .aload_n 0, []), (29, .getfield 9, []), (32, .iload 4, []), (34, .iaload, []), (35, .iadd, []), (36, .bipush 48, []), (38, .isub, []), (39, .istore_n 3, []), (40, .iinc 4 1, []), (43, .goto (-38), [5]), (46, .iload_n 3, []), (47, .ireturn, [])], [(9, (12, 4, 1, 13, 0))], [], [], [(106, (3, 1, 22, 0, 0, .inl T_X10_within))], 1, 22, 0, 0)
theorem ok_X5_number : MOK M_X5_number := ⟨by decide +kernel, List.forall_mem_cons.mpr ⟨fl_RX5_9, fun _ h => absurd h List.not_mem_nil⟩, fun _ h => absurd h List.not_mem_nil, fun _ h => absurd h List.not_mem_nil, List.forall_mem_cons.mpr ⟨⟨Nat.le_of_ble_eq_true rfl, Nat.le_of_ble_eq_true rfl, cr_RX5_106⟩, fun _ h => absurd h List.not_mem_nil⟩⟩
set_option maxRecDepth 100000 in
theorem vc_X5_number {K : Int32 → AH → Prop} {h : AH} (p0 : Nat) (p1 : Int32) (p2 : Int32) (H : AW M_X5_number (.inl K) 5 [some (aR 12 p0), some (aI p1), some (aI p2), some (aI (nI 0)), some (aI p1)] [] h 0 0) : AW M_X5_number (.inl K) 0 [some (aR 12 p0), some (aI p1), some (aI p2), none, none] [] h 0 0 := AW_go (cuts := [(5, [true, true, true, true, true])]) ok_X5_number 400 H
set_option maxRecDepth 100000 in
theorem vc_X5_number_5 {K : Int32 → AH → Prop} {h : AH}  (l0 : Nat) (l1 : Int32) (l2 : Int32) (l3 : Int32) (l4 : Int32) (H : (((l1 + l2) ≤ l4) → K l3 h) ∧ (¬ ((l1 + l2) ≤ l4) → S_X10_within l4 (nI 0) (nI 99) h (fun x2 h1 => ((x2 = 0) → K l3 h1) ∧ (¬ (x2 = 0) → inR l4 100 ∧ AW M_X5_number (.inl K) 5 [some (aR 12 l0), some (aI l1), some (aI l2), some (aI ((((nI 10) * l3) + (h1.1 13 l0 l4.toNatClampNeg)) - (nI 48))), some (aI (l4 + (nI 1)))] [] h1 0 0)))) : AW M_X5_number (.inl K) 5 [some (aR 12 l0), some (aI l1), some (aI l2), some (aI l3), some (aI l4)] [] h 0 0 := AW_go (cuts := [(5, [true, true, true, true, true])]) ok_X5_number 400 H

theorem rd_lt {E : Nat → Int32} {sz : Nat} : ∀ k p v, (rd (hb E sz) k p v).1 = true → ∀ i, i < k → p + i < sz
  | 0, _, _, _, i, hi => absurd hi (Nat.not_lt_zero i)
  | k + 1, p, v, h, i, hi => by
    rw [rd_s] at h
    by_cases z : dgt (hb E sz p)
    · rw [if_pos z] at h
      by_cases y : p < sz
      · cases i with
        | zero => exact y
        | succ i =>
          have := rd_lt k (p + 1) _ h i (by omega)
          omega
      · rw [hb_out y] at z
        exact absurd z dgt_m1
    · rw [if_neg z] at h
      exact absurd h (show ¬ false = true by decide)
theorem lp_X5_number {S : Sm} {d p k : Nat} {h : AH} {K : Int32 → AH → Prop} (p0 : bytP h S d) (hk : k ≤ 2) (hp : p ≤ 1000) : ∀ r i v, i + r = k → (v ≤ 99 ∧ (i = 0 → v = 0) ∧ (i ≤ 1 → v ≤ 9)) → (rd (hb (S.2 d) (S.1 4 d)) r (p + i) v).1 = true → K (nI (rd (hb (S.2 d) (S.1 4 d)) r (p + i) v).2.2) h → AW M_X5_number (.inl K) 5 [some (aR 12 d), some (aI (nI p)), some (aI (nI k)), some (aI (nI v)), some (aI (nI (p + i)))] [] h 0 0 := by
  obtain ⟨-, -, -, e3, e4, -, l2⟩ := rowPs p0.1
  intro r
  induction r with
  | zero =>
    intro i v hi hv ok kk
    refine vc_X5_number_5 d (nI p) (nI k) (nI v) _ ?_
    have : i = k := by omega
    subst this
    rw [nI_add]
    exact ⟨fun _ => kk, fun q => absurd (Int32.le_refl _) q⟩
  | succ r ih =>
    intro i v hi hv ok kk
    refine vc_X5_number_5 d (nI p) (nI k) (nI v) _ ?_
    have hlt := rd_lt (r + 1) (p + i) v ok 0 (by omega)
    rw [rd_s] at ok kk
    have z : dgt (hb (S.2 d) (S.1 4 d) (p + i)) := by
      by_cases z : dgt (hb (S.2 d) (S.1 4 d) (p + i))
      · exact z
      · rw [if_neg z] at ok
        exact absurd ok (show ¬ false = true by decide)
    rw [if_pos z] at ok kk
    have hbp := p0.2 (p + i) (by omega)
    rw [hb_in (by omega)] at z ok kk
    obtain ⟨c, hc, ec⟩ := in_d.mp ((byt_dgt hbp).mp z)
    have hN : nN (S.2 d (p + i) &&& nI 255) - 48 = c := by
      rw [ec, byt_1 _ (by omega), nN_n (by omega)]
      omega
    rw [hN] at ok kk
    rw [nI_add, n_le (by omega) (by omega), n_cl (show p + i < 2147483648 by omega)]
    refine ⟨fun q => by omega, fun _ => w_if (fun _ => ⟨n_in (show p + i < 100 by omega) (by omega), ?_⟩) (fun q => absurd ((in_n (by omega)).mpr ⟨p + i, by omega, rfl⟩) q)⟩
    rw [e4 (p + i) (by omega), ec, pk_mul, nI_add, nI_add, show nI (10 * v + (48 + c)) - nI 48 = nI (10 * v + c) by rw [n_sub (by omega)]; congr 1; omega]
    exact ih (i + 1) (10 * v + c) (by omega) (by omega) ok kk
theorem snd_X5_number (d : Nat) (x y : Int32) {h : AH} {K : Int32 → AH → Prop} (k : S_X5_number d x y h K) : AW M_X5_number (.inl K) 0 [some (aR 12 d), some (aI x), some (aI y), none, none] [] h 0 0 := by
  obtain ⟨S, p, k, p0, rfl, hp, rfl, hk, ok, kk⟩ := k
  exact vc_X5_number d (nI p) (nI k) (lp_X5_number p0 hk hp k 0 0 (by omega) (by omega) ok kk)
theorem tr_X5_number : ∀ (as : List AV) (h : AH) (K : Int32 → AH → Prop), T_X5_number as h K → ∃ (q : Nat) (r : List AV), as = aR 12 q :: r := by
  intro as h K hk
  match as, hk with
  | [.inr (.inr (.inl q0)), .inl q1, .inl q2], hk =>
    obtain ⟨hb, hk⟩ := tif_inv hk
    have e0 := hb
    obtain ⟨a0, b0⟩ := q0
    have f0 : a0 = 12 := Nat.eq_of_beq_eq_true e0
    subst f0
    exact ⟨_, _, rfl⟩
theorem tw_X5_number : ∀ (as : List AV) (h : AH) (K : Int32 → AH → Prop), T_X5_number as h K → (ini as).length ≤ mNL M_X5_number ∧ AW M_X5_number (.inl K) 0 (initL (mNL M_X5_number) as) [] h 0 0 := by
  intro as h K hk
  match as, hk with
  | [.inr (.inr (.inl q0)), .inl q1, .inl q2], hk =>
    obtain ⟨hb, hk⟩ := tif_inv hk
    have e0 := hb
    obtain ⟨a0, b0⟩ := q0
    have f0 : a0 = 12 := Nat.eq_of_beq_eq_true e0
    subst f0
    exact ⟨Nat.le_of_ble_eq_true rfl, snd_X5_number b0 q1 q2 hk⟩
theorem cr_RX10_957 : CR RX10 (kIns 957) (3, 2, 46, 0, 0, .inl T_X5_number) := crV_i (t := 12) (M := M_X5_number) (by decide) rfl (by decide) rfl (inG (i := 222) (w := Cond.methodLink RX10 319 yX5_number) (by decide +kernel) rfl) (inG (i := 223) (w := Cond.instanceMethod yX5_number) (by decide +kernel) rfl) (inG (i := 39) (w := Cond.initialized RX5) (by decide +kernel) rfl) (inG (i := 224) (w := Cond.selects RX5 yX5_number yX5_number) (by decide +kernel) rfl) (inG (i := 225) (w := Cond.code yX5_number cX5_number 5 (some .int)) (by decide +kernel) rfl) ⟨by decide +kernel, by decide +kernel, by decide +kernel⟩ tr_X5_number tw_X5_number

theorem rd_t {H : Nat → Int32} : ∀ n p v, (rd H n p v).1 = true → (rd H n p v).2.1 = p + n
  | 0, _, _, _ => rfl
  | n + 1, p, v, h => by
    rw [rd_s] at h ⊢
    by_cases z : dgt (H p)
    · rw [if_pos z] at h ⊢
      have := rd_t n (p + 1) _ h
      omega
    · rw [if_neg z] at h
      exact absurd h (show ¬ false = true by decide)
theorem rdG_c {H : Nat → Int32} {g p : Nat} {gs : List Nat} (h : (rdG H (g :: gs) p).1 = true) : (rd H g p 0).1 = true ∧ (rdG H gs (p + g)).1 = true ∧ (rdG H (g :: gs) p).2.2 = (rd H g p 0).2.2 :: (rdG H gs (p + g)).2.2 := by
  have e : rdG H (g :: gs) p = if (rd H g p 0).1 = true then ((rdG H gs (rd H g p 0).2.1).1, (rdG H gs (rd H g p 0).2.1).2.1, (rd H g p 0).2.2 :: (rdG H gs (rd H g p 0).2.1).2.2) else (false, (rd H g p 0).2.1, []) := rfl
  rw [e] at h ⊢
  by_cases z : (rd H g p 0).1 = true
  · rw [if_pos z, rd_t g p 0 z] at h
    rw [if_pos z, rd_t g p 0 z]
    exact ⟨z, h, rfl⟩
  · rw [if_neg z] at h
    exact absurd h (show ¬ false = true by decide)
/-- everything but the valley in mind (and new sheep) stays -/
def keepY (h h' : AH) : Prop := (∀ t u i, ¬ (1 ≤ t ∧ t ≤ 9 ∧ u = 1) → t ≠ 18 → h'.1 t u i = h.1 t u i) ∧ (∀ t u i, ¬ (t = 10 ∧ u = 1) → h'.2.1 t u i = h.2.1 t u i) ∧ ∀ t u i a, ¬ (t = 10 ∧ u = 1) → h.2.1 t u i = some a → ∀ j, h'.1 18 a j = h.1 18 a j
theorem keepY_rfl (h : AH) : keepY h h := ⟨fun _ _ _ _ _ => rfl, fun _ _ _ _ => rfl, fun _ _ _ _ _ _ _ => rfl⟩
theorem keepY_tr {h h1 h2 : AH} (a : keepY h h1) (b : keepY h1 h2) : keepY h h2 := ⟨fun t u i q z => (b.1 t u i q z).trans (a.1 t u i q z), fun t u i q => (b.2.1 t u i q).trans (a.2.1 t u i q), fun t u i x q e j => (b.2.2 t u i x q (by rw [a.2.1 t u i q]; exact e) j).trans (a.2.2 t u i x q e j)⟩
theorem keepY_V {h h' : AH} (o : onlyV 1 h h') : keepY h h' := ⟨fun t u i q _ => o.2.1 t u i q, fun t u i q => o.2.2 t u i q, fun _ _ _ a _ _ j => o.2.1 18 a j (by omega)⟩
theorem SHP_Y {h h' : AH} {k f : Nat} {t u i : Nat} (q : keepY h h') (hq : ¬ (t = 10 ∧ u = 1)) (s : SHP h (h.2.1 t u i) k f) : SHP h' (h'.2.1 t u i) k f := by
  rw [q.2.1 t u i hq]
  obtain ⟨a, s0, s1, s2, s3, s4, s5, s6, s7⟩ := s
  have e := q.2.2 t u i a hq s0
  exact ⟨a, s0, by rw [e, s1], by rw [e, s2], by rw [e, s3], by rw [e, s4], by rw [e, s5], by rw [e, s6], by rw [e, s7]⟩
theorem CV_Y {h h' : AH} {u : Nat} {V : Vm} (q : keepY h h') (hu : u ≠ 1) (c : CV h u V) : CV h' u V := by
  obtain ⟨c1, c2, c3, c4, c5, c6⟩ := c
  refine ⟨fun t i ht hi => ?_, ?_, ?_, ?_, ?_, fun s hs => SHP_Y q (by omega) (c6 s hs)⟩
  · rw [q.1 _ _ _ (by omega) (by omega)]; exact c1 t i ht hi
  · rw [q.1 _ _ _ (by omega) (by omega)]; exact c2
  · rw [q.1 _ _ _ (by omega) (by omega)]; exact c3
  · rw [q.1 _ _ _ (by omega) (by omega)]; exact c4
  · rw [q.1 _ _ _ (by omega) (by omega)]; exact c5
theorem CSh_Y {h h' : AH} {S : Sm} (q : keepY h h') (c : CSh h S) : CSh h' S := by
  intro d hd
  obtain ⟨c0, c1, c2⟩ := c d hd
  refine ⟨fun z => ?_, fun z => ?_, fun z => ?_⟩
  · rw [q.2.1 _ _ _ (by omega), q.1 _ _ _ (by omega) (by omega)]; exact c0 z
  · rw [q.1 _ _ _ (by omega) (by omega)]
    exact ⟨SHP_Y q (by omega) (c1 z).1, (c1 z).2⟩
  · rw [q.2.1 _ _ _ (by omega), q.1 _ _ _ (by omega) (by omega), q.1 _ _ _ (by omega) (by omega), q.1 _ _ _ (by omega) (by omega)]
    exact ⟨(c2 z).1, (c2 z).2.1, (c2 z).2.2.1, (c2 z).2.2.2.1, fun i hi => by rw [q.1 _ _ _ (by omega) (by omega)]; exact (c2 z).2.2.2.2 i hi⟩
theorem CV_new {h h' : AH} {a u : Nat} {V : Vm} (q : newS h h' a) (c : CV h u V) : CV h' u V := by
  obtain ⟨q1, q2, q3, q4⟩ := q
  obtain ⟨c1, c2, c3, c4, c5, c6⟩ := c
  refine ⟨fun t i ht hi => ?_, ?_, ?_, ?_, ?_, fun s hs => ?_⟩
  · rw [q3 _ _ _ (by omega)]; exact c1 t i ht hi
  · rw [q3 _ _ _ (by omega)]; exact c2
  · rw [q3 _ _ _ (by omega)]; exact c3
  · rw [q3 _ _ _ (by omega)]; exact c4
  · rw [q3 _ _ _ (by omega)]; exact c5
  · rw [q1]
    obtain ⟨b, s0, s1, s2, s3, s4, s5, s6, s7⟩ := c6 s hs
    have hb : b ≠ a := fun e => q4 10 u s (by rw [s0, e])
    have e : ∀ j, h'.1 18 b j = h.1 18 b j := fun j => q3 18 b j (fun z => hb z.2)
    exact ⟨b, s0, by rw [e, s1], by rw [e, s2], by rw [e, s3], by rw [e, s4], by rw [e, s5], by rw [e, s6], by rw [e, s7]⟩
theorem keepY_new {h h' : AH} {a : Nat} (q : newS h h' a) : keepY h h' := ⟨fun t u i _ z => q.2.2.1 t u i (fun y => z y.1), fun t u i _ => by rw [q.1], fun t u i b _ e j => q.2.2.1 18 b j (fun y => q.2.2.2 t u i (by rw [e, y.2]))⟩
/-- the world in which a statement is followed -/
def folP (h : AH) (S : Sm) (d : Nat) (V : Vm) : Prop := bytP h S d ∧ CV h 1 V ∧ WF V
def S_X10_followDrums (x : Int32) (h : AH) (K : Int32 → AH → Prop) : Prop := ∃ V n, CV h 1 V ∧ n ≤ 9 ∧ x = nI n ∧ (n ≤ 1 → ∀ h', onlyV 1 h h' → CV h' 1 (uV V 10 3 n) → K (nI 1) h') ∧ (¬ n ≤ 1 → K (nI 0) h)
def T_X10_followDrums : List AV → AH → (Int32 → AH → Prop) → Prop := fun as h K => match as with
  | [.inr (.inr (.inl q0)), .inl q1] => tif (Nat.beq q0.1 0 && Nat.beq q0.2 0) (S_X10_followDrums q1 h K)
  | _ => False

def M_X10_followDrums : MI := (RX10, cX10_followDrums, 2, [(0, .iload_n 1, []), (1, .iconst 0, []), (2, .iconst 1, []), (3, .invokestatic 59, []), (6, .ifCond .ne 5, [11]), (9, .iconst 0, []), (10, .ireturn, []), (11, .aload_n 0, []), (12, .getfield 16, []), (15, .iload_n 1, []), (16, .putfield 132, []), (19, .iconst 1, []), (20, .ireturn, [])], [(16, (0, 1, 1, 1, 1)), (132, (1, 12, 0, 0, 0))], [], [], [(178, (3, 1, 22, 0, 0, .inl T_X10_within))], 1, 22, 0, 0)
theorem ok_X10_followDrums : MOK M_X10_followDrums := ⟨by decide +kernel, List.forall_mem_cons.mpr ⟨fl_RX10_16, List.forall_mem_cons.mpr ⟨fl_RX10_132, fun _ h => absurd h List.not_mem_nil⟩⟩, fun _ h => absurd h List.not_mem_nil, fun _ h => absurd h List.not_mem_nil, List.forall_mem_cons.mpr ⟨⟨Nat.le_of_ble_eq_true rfl, Nat.le_of_ble_eq_true rfl, cr_RX10_178⟩, fun _ h => absurd h List.not_mem_nil⟩⟩
set_option maxRecDepth 100000 in
theorem vc_X10_followDrums {K : Int32 → AH → Prop} {h : AH} (p1 : Int32) (H : S_X10_within p1 (nI 0) (nI 1) h (fun x2 h1 => ((¬ x2 = 0) → (((nI 1) = 0 ∨ (nI 1) = 1) ∧ K (nI 1) (wI h1 1 1 12 p1))) ∧ (¬ (¬ x2 = 0) → (((nI 0) = 0 ∨ (nI 0) = 1) ∧ K (nI 0) h1)))) : AW M_X10_followDrums (.inl (fun x u => (x = 0 ∨ x = 1) ∧ K x u)) 0 [some (aR 0 0), some (aI p1)] [] h 0 0 := AW_go (cuts := []) ok_X10_followDrums 400 H

theorem snd_X10_followDrums (x : Int32) {h : AH} {K : Int32 → AH → Prop} (k : S_X10_followDrums x h K) : AW M_X10_followDrums (.inl (fun x u => (x = 0 ∨ x = 1) ∧ K x u)) 0 [some (aR 0 0), some (aI x)] [] h 0 0 := by
  obtain ⟨V, n, cv, hn, rfl, k1, k2⟩ := k
  refine vc_X10_followDrums (nI n) (w_ni (fun q => ⟨Or.inr (by decide), ?_⟩) (fun q => ⟨Or.inl (by decide), ?_⟩))
  · exact k1 ((in0_iff (by omega) (by omega)).mp q) _ (onlyV_w (by omega) (by omega)) (CV_drums cv)
  · exact k2 (fun z => q ((in0_iff (by omega) (by omega)).mpr z))
theorem tr_X10_followDrums : ∀ (as : List AV) (h : AH) (K : Int32 → AH → Prop), T_X10_followDrums as h K → ∃ (q : Nat) (r : List AV), as = aR 0 q :: r := by
  intro as h K hk
  match as, hk with
  | [.inr (.inr (.inl q0)), .inl q1], hk =>
    obtain ⟨hb, hk⟩ := tif_inv hk
    simp only [Bool.and_eq_true] at hb
    obtain ⟨e0, e1⟩ := hb
    obtain ⟨a0, b0⟩ := q0
    have f0 : a0 = 0 := Nat.eq_of_beq_eq_true e0
    subst f0
    have f1 : b0 = 0 := Nat.eq_of_beq_eq_true e1
    subst f1
    exact ⟨_, _, rfl⟩
theorem tw_X10_followDrums : ∀ (as : List AV) (h : AH) (K : Int32 → AH → Prop), T_X10_followDrums as h K → (ini as).length ≤ mNL M_X10_followDrums ∧ AW M_X10_followDrums (.inl (fun x u => (x = 0 ∨ x = 1) ∧ K x u)) 0 (initL (mNL M_X10_followDrums) as) [] h 0 0 := by
  intro as h K hk
  match as, hk with
  | [.inr (.inr (.inl q0)), .inl q1], hk =>
    obtain ⟨hb, hk⟩ := tif_inv hk
    simp only [Bool.and_eq_true] at hb
    obtain ⟨e0, e1⟩ := hb
    obtain ⟨a0, b0⟩ := q0
    have f0 : a0 = 0 := Nat.eq_of_beq_eq_true e0
    subst f0
    have f1 : b0 = 0 := Nat.eq_of_beq_eq_true e1
    subst f1
    exact ⟨Nat.le_of_ble_eq_true rfl, snd_X10_followDrums q1 hk⟩
theorem cr_RX10_966 : CR RX10 (kIns 966) (2, 2, 43, 0, 0, .inl T_X10_followDrums) := crV_z (t := 0) (M := M_X10_followDrums) (by decide) rfl (by decide) rfl (inG (i := 444) (w := Cond.methodLink RX10 322 yX10_followDrums) (by decide +kernel) rfl) (inG (i := 446) (w := Cond.instanceMethod yX10_followDrums) (by decide +kernel) rfl) (inG (i := 37) (w := Cond.initialized RX10) (by decide +kernel) rfl) (inG (i := 6) (w := Cond.selects RX10 yX10_followDrums yX10_followDrums) (by decide +kernel) rfl) (inG (i := 447) (w := Cond.code yX10_followDrums cX10_followDrums 2 (some .boolean)) (by decide +kernel) rfl) ⟨by decide +kernel, by decide +kernel, by decide +kernel⟩ tr_X10_followDrums tw_X10_followDrums

def S_X10_followWait (x : Int32) (h : AH) (K : Int32 → AH → Prop) : Prop := ∃ V n, CV h 1 V ∧ WF V ∧ n ≤ 99 ∧ x = nI n ∧ ((1 ≤ n ∧ n ≤ 60) → ∀ h', onlyV 1 h h' → CV h' 1 (wai V n) → K (nI 1) h') ∧ (¬ (1 ≤ n ∧ n ≤ 60) → K (nI 0) h)
def T_X10_followWait : List AV → AH → (Int32 → AH → Prop) → Prop := fun as h K => match as with
  | [.inr (.inr (.inl q0)), .inl q1] => tif (Nat.beq q0.1 0 && Nat.beq q0.2 0) (S_X10_followWait q1 h K)
  | _ => False

def M_X10_followWait : MI := (RX10, cX10_followWait, 2, [(0, .iload_n 1, []), (1, .iconst 1, []), (2, .bipush 60, []), (4, .invokestatic 59, []), (7, .ifCond .ne 5, [12]), (10, .iconst 0, []), (11, .ireturn, []), (12, .aload_n 0, []), (13, .getfield 16, []), (16, .iload_n 1, []), (17, .invokevirtual 145, []), (20, .iconst 1, []), (21, .ireturn, [])], [(16, (0, 1, 1, 1, 1))], [], [], [(178, (3, 1, 22, 0, 0, .inl T_X10_within)), (435, (2, 2, 43, 0, 0, .inr (.inl T_X9_pass)))], 2, 43, 0, 0)
theorem ok_X10_followWait : MOK M_X10_followWait := ⟨by decide +kernel, List.forall_mem_cons.mpr ⟨fl_RX10_16, fun _ h => absurd h List.not_mem_nil⟩, fun _ h => absurd h List.not_mem_nil, fun _ h => absurd h List.not_mem_nil, List.forall_mem_cons.mpr ⟨⟨Nat.le_of_ble_eq_true rfl, Nat.le_of_ble_eq_true rfl, cr_RX10_178⟩, List.forall_mem_cons.mpr ⟨⟨Nat.le_of_ble_eq_true rfl, Nat.le_of_ble_eq_true rfl, cr_RX10_435⟩, fun _ h => absurd h List.not_mem_nil⟩⟩⟩
set_option maxRecDepth 100000 in
theorem vc_X10_followWait {K : Int32 → AH → Prop} {h : AH} (p1 : Int32) (H : S_X10_within p1 (nI 1) (nI 60) h (fun x2 h1 => ((¬ x2 = 0) → S_X9_pass 1 p1 h1 (fun h3 => (((nI 1) = 0 ∨ (nI 1) = 1) ∧ K (nI 1) h3))) ∧ (¬ (¬ x2 = 0) → (((nI 0) = 0 ∨ (nI 0) = 1) ∧ K (nI 0) h1)))) : AW M_X10_followWait (.inl (fun x u => (x = 0 ∨ x = 1) ∧ K x u)) 0 [some (aR 0 0), some (aI p1)] [] h 0 0 := AW_go (cuts := []) ok_X10_followWait 400 H

theorem snd_X10_followWait (x : Int32) {h : AH} {K : Int32 → AH → Prop} (k : S_X10_followWait x h K) : AW M_X10_followWait (.inl (fun x u => (x = 0 ∨ x = 1) ∧ K x u)) 0 [some (aR 0 0), some (aI x)] [] h 0 0 := by
  obtain ⟨V, n, cv, hw, hn, rfl, k1, k2⟩ := k
  refine vc_X10_followWait (nI n) (w_ni (fun q => ?_) (fun q => ⟨Or.inl (by decide), ?_⟩))
  · have q := (in1_iff (by omega) (by omega)).mp q
    exact ⟨V, n, cv, hw, q.2, rfl, fun h' o c => ⟨Or.inr (by decide), k1 q h' o c⟩⟩
  · exact k2 (fun z => q ((in1_iff (by omega) (by omega)).mpr z))
theorem tr_X10_followWait : ∀ (as : List AV) (h : AH) (K : Int32 → AH → Prop), T_X10_followWait as h K → ∃ (q : Nat) (r : List AV), as = aR 0 q :: r := by
  intro as h K hk
  match as, hk with
  | [.inr (.inr (.inl q0)), .inl q1], hk =>
    obtain ⟨hb, hk⟩ := tif_inv hk
    simp only [Bool.and_eq_true] at hb
    obtain ⟨e0, e1⟩ := hb
    obtain ⟨a0, b0⟩ := q0
    have f0 : a0 = 0 := Nat.eq_of_beq_eq_true e0
    subst f0
    have f1 : b0 = 0 := Nat.eq_of_beq_eq_true e1
    subst f1
    exact ⟨_, _, rfl⟩
theorem tw_X10_followWait : ∀ (as : List AV) (h : AH) (K : Int32 → AH → Prop), T_X10_followWait as h K → (ini as).length ≤ mNL M_X10_followWait ∧ AW M_X10_followWait (.inl (fun x u => (x = 0 ∨ x = 1) ∧ K x u)) 0 (initL (mNL M_X10_followWait) as) [] h 0 0 := by
  intro as h K hk
  match as, hk with
  | [.inr (.inr (.inl q0)), .inl q1], hk =>
    obtain ⟨hb, hk⟩ := tif_inv hk
    simp only [Bool.and_eq_true] at hb
    obtain ⟨e0, e1⟩ := hb
    obtain ⟨a0, b0⟩ := q0
    have f0 : a0 = 0 := Nat.eq_of_beq_eq_true e0
    subst f0
    have f1 : b0 = 0 := Nat.eq_of_beq_eq_true e1
    subst f1
    exact ⟨Nat.le_of_ble_eq_true rfl, snd_X10_followWait q1 hk⟩
theorem cr_RX10_978 : CR RX10 (kIns 978) (2, 3, 64, 0, 0, .inl T_X10_followWait) := crV_z (t := 0) (M := M_X10_followWait) (by decide) rfl (by decide) rfl (inG (i := 448) (w := Cond.methodLink RX10 326 yX10_followWait) (by decide +kernel) rfl) (inG (i := 450) (w := Cond.instanceMethod yX10_followWait) (by decide +kernel) rfl) (inG (i := 37) (w := Cond.initialized RX10) (by decide +kernel) rfl) (inG (i := 7) (w := Cond.selects RX10 yX10_followWait yX10_followWait) (by decide +kernel) rfl) (inG (i := 451) (w := Cond.code yX10_followWait cX10_followWait 2 (some .boolean)) (by decide +kernel) rfl) ⟨by decide +kernel, by decide +kernel, by decide +kernel⟩ tr_X10_followWait tw_X10_followWait

def S_X10_followThrow (x y : Int32) (h : AH) (K : Int32 → AH → Prop) : Prop := ∃ V n m, CV h 1 V ∧ WF V ∧ n ≤ 9 ∧ m ≤ 9 ∧ x = nI n ∧ y = nI m ∧ ((n < V 10 1 ∧ m < 8 ∧ m ≤ vFl V n) → ∀ h', onlyV 1 h h' → CV h' 1 (thr V n m) → K (nI 1) h') ∧ (¬ (n < V 10 1 ∧ m < 8 ∧ m ≤ vFl V n) → K (nI 0) h)
def T_X10_followThrow : List AV → AH → (Int32 → AH → Prop) → Prop := fun as h K => match as with
  | [.inr (.inr (.inl q0)), .inl q1, .inl q2] => tif (Nat.beq q0.1 0 && Nat.beq q0.2 0) (S_X10_followThrow q1 q2 h K)
  | _ => False

def M_X10_followThrow : MI := (RX10, cX10_followThrow, 3, [(0, .aload_n 0, []), (1, .getfield 16, []), (4, .iload_n 1, []), (5, .iload_n 2, []), (6, .invokevirtual 138, []), (9, .ifCond .eq 5, [14]), (12, .iconst 0, []), (13, .ireturn, []), (14, .aload_n 0, []), (15, .getfield 16, []), (18, .iload_n 1, []), (19, .iload_n 2, []), (20, .invokevirtual 142, []), (23, .pop, []), (24, .iconst 1, []), (25, .ireturn, [])], [(16, (0, 1, 1, 1, 1))], [], [], [(414, (3, 3, 66, 0, 0, .inl T_X9_refusedThrow)), (426, (3, 5, 113, 0, 0, .inl T_X9_throwOnto))], 5, 113, 0, 0)
theorem ok_X10_followThrow : MOK M_X10_followThrow := ⟨by decide +kernel, List.forall_mem_cons.mpr ⟨fl_RX10_16, fun _ h => absurd h List.not_mem_nil⟩, fun _ h => absurd h List.not_mem_nil, fun _ h => absurd h List.not_mem_nil, List.forall_mem_cons.mpr ⟨⟨Nat.le_of_ble_eq_true rfl, Nat.le_of_ble_eq_true rfl, cr_RX10_414⟩, List.forall_mem_cons.mpr ⟨⟨Nat.le_of_ble_eq_true rfl, Nat.le_of_ble_eq_true rfl, cr_RX10_426⟩, fun _ h => absurd h List.not_mem_nil⟩⟩⟩
set_option maxRecDepth 100000 in
theorem vc_X10_followThrow {K : Int32 → AH → Prop} {h : AH} (p1 : Int32) (p2 : Int32) (H : S_X9_refusedThrow 1 p1 p2 h (fun x2 h1 => ((x2 = 0) → S_X9_throwOnto 1 p1 p2 h1 (fun x4 h3 => (((nI 1) = 0 ∨ (nI 1) = 1) ∧ K (nI 1) h3))) ∧ (¬ (x2 = 0) → (((nI 0) = 0 ∨ (nI 0) = 1) ∧ K (nI 0) h1)))) : AW M_X10_followThrow (.inl (fun x u => (x = 0 ∨ x = 1) ∧ K x u)) 0 [some (aR 0 0), some (aI p1), some (aI p2)] [] h 0 0 := AW_go (cuts := []) ok_X10_followThrow 400 H

theorem snd_X10_followThrow (x y : Int32) {h : AH} {K : Int32 → AH → Prop} (k : S_X10_followThrow x y h K) : AW M_X10_followThrow (.inl (fun x u => (x = 0 ∨ x = 1) ∧ K x u)) 0 [some (aR 0 0), some (aI x), some (aI y)] [] h 0 0 := by
  obtain ⟨V, n, m, cv, hw, hn, hm, rfl, rfl, k1, k2⟩ := k
  have h7 := hw.2.1
  refine vc_X10_followThrow (nI n) (nI m) ⟨V, cv, hw, ?_⟩
  have hf : vFl V n ≤ 7 := fly_le _
  by_cases z : n < V 10 1 ∧ m < 8 ∧ m ≤ vFl V n
  · have e : rfT V (nI n) (nI m) = nI 0 := by
      unfold rfT
      rw [if_pos ⟨(inL_iff (by omega) (by omega)).mpr z.1, (in0_iff (by omega) (by omega)).mpr (by omega)⟩, nN_n (by omega), nN_n (by omega), if_neg (by omega)]
    rw [e]
    exact ⟨fun _ => ⟨V, n, m, cv, hw, z.1, rfl, z.2.1, rfl, fun h' o c => ⟨Or.inr (by decide), k1 z h' o c⟩⟩, fun q => absurd (show nI 0 = 0 by decide) q⟩
  · have e : rfT V (nI n) (nI m) ≠ nI 0 := by
      rcases rfT_cases hw (nI n) (nI m) with ⟨n', m', a1, a2, a3, a4, a5, _⟩ | e
      · have b1 := (n_eq (by omega) (by omega)).mp a4
        have b2 := (n_eq (by omega) (by omega)).mp a5
        subst b1
        subst b2
        exact absurd ⟨a1, a2, a3⟩ z
      · exact e
    exact ⟨fun q => absurd q e, fun _ => ⟨Or.inl (by decide), k2 z⟩⟩
theorem tr_X10_followThrow : ∀ (as : List AV) (h : AH) (K : Int32 → AH → Prop), T_X10_followThrow as h K → ∃ (q : Nat) (r : List AV), as = aR 0 q :: r := by
  intro as h K hk
  match as, hk with
  | [.inr (.inr (.inl q0)), .inl q1, .inl q2], hk =>
    obtain ⟨hb, hk⟩ := tif_inv hk
    simp only [Bool.and_eq_true] at hb
    obtain ⟨e0, e1⟩ := hb
    obtain ⟨a0, b0⟩ := q0
    have f0 : a0 = 0 := Nat.eq_of_beq_eq_true e0
    subst f0
    have f1 : b0 = 0 := Nat.eq_of_beq_eq_true e1
    subst f1
    exact ⟨_, _, rfl⟩
theorem tw_X10_followThrow : ∀ (as : List AV) (h : AH) (K : Int32 → AH → Prop), T_X10_followThrow as h K → (ini as).length ≤ mNL M_X10_followThrow ∧ AW M_X10_followThrow (.inl (fun x u => (x = 0 ∨ x = 1) ∧ K x u)) 0 (initL (mNL M_X10_followThrow) as) [] h 0 0 := by
  intro as h K hk
  match as, hk with
  | [.inr (.inr (.inl q0)), .inl q1, .inl q2], hk =>
    obtain ⟨hb, hk⟩ := tif_inv hk
    simp only [Bool.and_eq_true] at hb
    obtain ⟨e0, e1⟩ := hb
    obtain ⟨a0, b0⟩ := q0
    have f0 : a0 = 0 := Nat.eq_of_beq_eq_true e0
    subst f0
    have f1 : b0 = 0 := Nat.eq_of_beq_eq_true e1
    subst f1
    exact ⟨Nat.le_of_ble_eq_true rfl, snd_X10_followThrow q1 q2 hk⟩
theorem cr_RX10_987 : CR RX10 (kIns 987) (3, 6, 135, 0, 0, .inl T_X10_followThrow) := crV_z (t := 0) (M := M_X10_followThrow) (by decide) rfl (by decide) rfl (inG (i := 459) (w := Cond.methodLink RX10 329 yX10_followThrow) (by decide +kernel) rfl) (inG (i := 461) (w := Cond.instanceMethod yX10_followThrow) (by decide +kernel) rfl) (inG (i := 37) (w := Cond.initialized RX10) (by decide +kernel) rfl) (inG (i := 8) (w := Cond.selects RX10 yX10_followThrow yX10_followThrow) (by decide +kernel) rfl) (inG (i := 462) (w := Cond.code yX10_followThrow cX10_followThrow 3 (some .boolean)) (by decide +kernel) rfl) ⟨by decide +kernel, by decide +kernel, by decide +kernel⟩ tr_X10_followThrow tw_X10_followThrow


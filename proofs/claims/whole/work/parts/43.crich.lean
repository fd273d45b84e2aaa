/-! ===== the component's valley: the richest cell and throw, choices, shares ===== -/
def rcs (f : Nat → Nat) : Nat → Nat × Nat
  | 0 => (0, 0)
  | c + 1 => if (rcs f c).2 < f c then (c, f c) else rcs f c
theorem rcs_s {f : Nat → Nat} {c : Nat} : rcs f (c + 1) = if (rcs f c).2 < f c then (c, f c) else rcs f c := rfl
theorem bCell_s {V : Vm} {n k : Nat} : bCell V n (k + 1) = if brg V n (bCell V n k) < brg V n (k + 1) then k + 1 else bCell V n k := rfl
theorem rcs_b (V : Vm) (n : Nat) : ∀ c, rcs (brg V n) (c + 1) = (bCell V n c, brg V n (bCell V n c))
  | 0 => by
    rw [rcs_s]
    show (if 0 < brg V n 0 then (0, brg V n 0) else (0, 0)) = (0, brg V n 0)
    split
    · rfl
    · rw [show brg V n 0 = 0 by omega]
  | c + 1 => by
    rw [rcs_s, rcs_b V n c, bCell_s]
    show (if brg V n (bCell V n c) < brg V n (c + 1) then _ else _) = _
    split
    · rfl
    · rfl
theorem bCell_0 {V : Vm} {n : Nat} (h : ∀ m, brg V n m = 0) : ∀ k, bCell V n k = 0
  | 0 => rfl
  | k + 1 => by rw [bCell_s, bCell_0 h k, h, h, if_neg (by omega)]
theorem brg_car {V : Vm} {n m : Nat} : brg V n m = if car V (vWt V n) (V 10 0) = none then 0 else if eat V n m then 0 else wor V n m := by
  unfold brg tak
  by_cases h : eat V n m
  · rw [if_pos h, if_pos h]
    simp
  · rw [if_neg h, if_neg h]
    cases hc : car V (vWt V n) (V 10 0) with
    | none => rw [if_pos rfl]
    | some e => rw [if_neg (fun z => by cases z)]
theorem rcs_le {f : Nat → Nat} {B : Nat} (hf : ∀ c, c < 8 → f c ≤ B) : ∀ c, c ≤ 8 → (rcs f c).2 ≤ B ∧ (rcs f c).1 ≤ 8
  | 0, _ => ⟨Nat.zero_le _, Nat.zero_le _⟩
  | c + 1, h => by
    have := rcs_le hf c (by omega)
    rw [rcs_s]
    split
    · exact ⟨hf c (by omega), by show c ≤ 8; omega⟩
    · exact this
def S_X9_richestCell (v : Nat) (o : Option Nat) (h : AH) (K : Int32 → AH → Prop) : Prop := ∃ V n, vPre v o h V n ∧ K (nI (bCell V n (vFl V n))) h
def T_X9_richestCell : List AV → AH → (Int32 → AH → Prop) → Prop := fun as h K => match as with
  | [.inr (.inr (.inl q0)), .inr (.inr (.inr q1))] => tif (Nat.beq q0.1 1) (S_X9_richestCell q0.2 q1 h K)
  | _ => False

def M_X9_richestCell : MI := (RX9, cX9_richestCell, 7, [(0, .iconst 0, []), (1, .istore_n 2, []), (2, .iconst 0, []), (3, .istore_n 3, []), (4, .aload_n 0, []), (5, .aload_n 1, []), (6, .getfield 72, []), (9, .invokevirtual 83, []), (12, .bipush (-4), []), (14, .if_icmp .eq 7, [21]), (17, .iconst 1, []), (18, .goto 4, [22]), (21, .iconst 0, []), (22, .istore 4, []), (24, .iconst 0, []), (25, .istore 5, []), (27, .iload 4, []), (29, .ifCond .eq 56, [85]), (32, .iload 5, []), (34, .aload_n 1, []), (35, .getfield 69, []), (38, .if_icmp .gt 47, [85]), (41, .aload_n 0, []), (42, .aload_n 1, []), (43, .iload 5, []), (45, .invokevirtual 79, []), (48, .ifCond .eq 7, [55]), (51, .iconst 0, []), (52, .goto 13, [65]), (55, .aload_n 0, []), (56, .aload_n 1, []), (57, .iload 5, []), (59, .invokevirtual 98, []), (62, .invokestatic 101, []), (65, .istore 6, []), (67, .iload 6, []), (69, .iload_n 3, []), (70, .if_icmp .le 9, [79]), (73, .iload 6, []), (75, .istore_n 3, []), (76, .iload 5, []), (78, .istore_n 2, []), (79, .iinc 5 1, []), (82, .goto (-55), [27]), (85, .iload_n 2, []), (86, .ireturn, [])], [(72, (18, 2, 0, 0, 0)), (69, (18, 4, 0, 0, 0))], [], [], [(249, (2, 1, 24, 0, 0, .inl T_X9_carrierOf)), (237, (3, 2, 42, 0, 0, .inl T_X9_isEaten)), (294, (3, 3, 65, 0, 0, .inl T_X9_stuckIn)), (304, (1, 1, 20, 0, 0, .inl T_X10_worthOfPair))], 3, 65, 0, 0)
theorem ok_X9_richestCell : MOK M_X9_richestCell := ⟨by decide +kernel, List.forall_mem_cons.mpr ⟨fl_RX9_72, List.forall_mem_cons.mpr ⟨fl_RX9_69, fun _ h => absurd h List.not_mem_nil⟩⟩, fun _ h => absurd h List.not_mem_nil, fun _ h => absurd h List.not_mem_nil, List.forall_mem_cons.mpr ⟨⟨Nat.le_of_ble_eq_true rfl, Nat.le_of_ble_eq_true rfl, cr_RX9_249⟩, List.forall_mem_cons.mpr ⟨⟨Nat.le_of_ble_eq_true rfl, Nat.le_of_ble_eq_true rfl, cr_RX9_237⟩, List.forall_mem_cons.mpr ⟨⟨Nat.le_of_ble_eq_true rfl, Nat.le_of_ble_eq_true rfl, cr_RX9_294⟩, List.forall_mem_cons.mpr ⟨⟨Nat.le_of_ble_eq_true rfl, Nat.le_of_ble_eq_true rfl, cr_RX9_304⟩, fun _ h => absurd h List.not_mem_nil⟩⟩⟩⟩⟩
set_option maxRecDepth 100000 in
theorem vc_X9_richestCell {K : Int32 → AH → Prop} {h : AH} (p0 : Nat) (p1 : Option Nat) (H : oE p1 fun a1 => S_X9_carrierOf p0 (h.1 18 a1 2) h (fun x3 h2 => ((x3 = (iI (-4))) → AW M_X9_richestCell (.inl K) 27 [some (aR 1 p0), some (aS p1), some (aI (nI 0)), some (aI (nI 0)), some (aI (nI 0)), some (aI (nI 0)), none] [] h2 0 0) ∧ (¬ (x3 = (iI (-4))) → AW M_X9_richestCell (.inl K) 27 [some (aR 1 p0), some (aS p1), some (aI (nI 0)), some (aI (nI 0)), some (aI (nI 1)), some (aI (nI 0)), none] [] h2 0 0))) : AW M_X9_richestCell (.inl K) 0 [some (aR 1 p0), some (aS p1), none, none, none, none, none] [] h 0 0 := AW_go (cuts := [(27, [true, true, true, true, true, true, false])]) ok_X9_richestCell 400 H
set_option maxRecDepth 100000 in
theorem vc_X9_richestCell_27 {K : Int32 → AH → Prop} {h : AH}  (l0 : Nat) (l1 : Option Nat) (l2 : Int32) (l3 : Int32) (l4 : Int32) (l5 : Int32) (H : ((l4 = 0) → K l2 h) ∧ (¬ (l4 = 0) → oE l1 fun a1 => (((h.1 18 a1 4) < l5) → K l2 h) ∧ (¬ ((h.1 18 a1 4) < l5) → S_X9_isEaten l0 l1 l5 h (fun x3 h2 => ((x3 = 0) → S_X9_stuckIn l0 l1 l5 h2 (fun x5 h4 => S_X10_worthOfPair x5 h4 (fun x7 h6 => ((x7 ≤ l3) → AW M_X9_richestCell (.inl K) 27 [some (aR 1 l0), some (aS l1), some (aI l2), some (aI l3), some (aI l4), some (aI (l5 + (nI 1))), none] [] h6 0 0) ∧ (¬ (x7 ≤ l3) → AW M_X9_richestCell (.inl K) 27 [some (aR 1 l0), some (aS l1), some (aI l5), some (aI x7), some (aI l4), some (aI (l5 + (nI 1))), none] [] h6 0 0)))) ∧ (¬ (x3 = 0) → (((nI 0) ≤ l3) → AW M_X9_richestCell (.inl K) 27 [some (aR 1 l0), some (aS l1), some (aI l2), some (aI l3), some (aI l4), some (aI (l5 + (nI 1))), none] [] h2 0 0) ∧ (¬ ((nI 0) ≤ l3) → AW M_X9_richestCell (.inl K) 27 [some (aR 1 l0), some (aS l1), some (aI l5), some (aI (nI 0)), some (aI l4), some (aI (l5 + (nI 1))), none] [] h2 0 0)))))) : AW M_X9_richestCell (.inl K) 27 [some (aR 1 l0), some (aS l1), some (aI l2), some (aI l3), some (aI l4), some (aI l5), none] [] h 0 0 := AW_go (cuts := [(27, [true, true, true, true, true, true, false])]) ok_X9_richestCell 400 H

theorem lp_X9_richestCell {v a n : Nat} {V : Vm} {h : AH} {K : Int32 → AH → Prop} (hp : vPre v (some a) h V n) (hc : ¬ car V (vWt V n) (V 10 0) = none) (k : K (nI (bCell V n (vFl V n))) h) : ∀ r c, c + r = vFl V n + 1 → AW M_X9_richestCell (.inl K) 27 [some (aR 1 v), some (aS (some a)), some (aI (nI (rcs (brg V n) c).1)), some (aI (nI (rcs (brg V n) c).2)), some (aI (nI 1)), some (aI (nI c)), none] [] h 0 0 := by
  obtain ⟨cv, hw, hn, sp⟩ := id hp
  obtain ⟨a', ea, -, -, -, -, s5, -⟩ := sp
  obtain rfl := Option.some.inj ea
  have hf : fly (V 8 n) ≤ 7 := fly_le _
  intro r
  induction r with
  | zero =>
    intro c hc2
    refine vc_X9_richestCell_27 v (some a) _ _ (nI 1) (nI c) ⟨fun q => absurd q (by decide), fun _ => ?_⟩
    show (h.1 18 a 4 < nI c → _) ∧ (¬ h.1 18 a 4 < nI c → _)
    have : c = fly (V 8 n) + 1 := by simp only [vFl] at hc2; omega
    subst this
    rw [s5, n_lt (by omega) (by omega), rcs_b]
    exact ⟨fun _ => k, fun q => absurd (by omega) q⟩
  | succ r ih =>
    intro c hc2
    have hc2' : c + (r + 1) = fly (V 8 n) + 1 := hc2
    refine vc_X9_richestCell_27 v (some a) _ _ (nI 1) (nI c) ⟨fun q => absurd q (by decide), fun _ => ?_⟩
    show (h.1 18 a 4 < nI c → _) ∧ (¬ h.1 18 a 4 < nI c → _)
    rw [s5, n_lt (by omega) (by omega)]
    have ih := ih (c + 1) (by omega)
    rw [rcs_s] at ih
    obtain ⟨m1, m2⟩ := rcs_le (f := brg V n) (B := 54) (fun m hm => brg_le hw hn hm) c (by omega)
    have hb := brg_le hw hn (show c < 8 by omega)
    refine ⟨fun q => by omega, fun _ => ⟨V, n, c, hp, by omega, rfl, ?_⟩⟩
    (try dsimp only)
    simp only [if10_eq, nI_add]
    have eb := brg_car (V := V) (n := n) (m := c)
    rw [if_neg hc] at eb
    refine ⟨fun q => ⟨V, n, c, hp, by omega, rfl, fun P p1 p2 p3 => ⟨P, by omega, rfl, ?_⟩⟩, fun q => ?_⟩
    · rw [if_neg q] at eb
      rw [p2, p3, show 5 * sB V n c + sS V n c = brg V n c from eb.symm, n_le (by omega) (by omega)]
      refine ⟨fun z => ?_, fun z => ?_⟩
      · rw [if_neg (by omega)] at ih; exact ih
      · rw [if_pos (by omega)] at ih; exact ih
    · rw [if_pos (Decidable.not_not.mp q)] at eb
      rw [n_le (by omega) (by omega)]
      refine ⟨fun z => ?_, fun z => absurd (Nat.zero_le _) z⟩
      rw [if_neg (by omega)] at ih; exact ih
theorem snd_X9_richestCell (v : Nat) (o : Option Nat) {h : AH} {K : Int32 → AH → Prop} (k : S_X9_richestCell v o h K) : AW M_X9_richestCell (.inl K) 0 [some (aR 1 v), some (aS o), none, none, none, none, none] [] h 0 0 := by
  obtain ⟨V, n, hp, k⟩ := k
  obtain ⟨cv, hw, hn, a, rfl, -, -, s3, -⟩ := id hp
  have hwt : wt (V 8 n) (V 9 n) ≤ 38 := wt_le (hw.2.2.2.2.2.2 n hn).2
  refine vc_X9_richestCell v (some a) ⟨V, wt (V 8 n) (V 9 n), cv, hw, by omega, s3, ?_⟩
  (try dsimp only)
  rw [oI_no (fun p hp => by have := car_lt hp; have := hw.1; omega)]
  refine ⟨fun q => ?_, fun q => lp_X9_richestCell hp q k (vFl V n + 1) 0 (by omega)⟩
  refine vc_X9_richestCell_27 v (some a) (nI 0) (nI 0) (nI 0) (nI 0) ⟨fun _ => ?_, fun z => absurd (show nI 0 = 0 by decide) z⟩
  rw [bCell_0 (fun m => by rw [brg_car]; exact if_pos q)] at k
  exact k
theorem tr_X9_richestCell : ∀ (as : List AV) (h : AH) (K : Int32 → AH → Prop), T_X9_richestCell as h K → ∃ (q : Nat) (r : List AV), as = aR 1 q :: r := by
  intro as h K hk
  match as, hk with
  | [.inr (.inr (.inl q0)), .inr (.inr (.inr q1))], hk =>
    obtain ⟨hb, hk⟩ := tif_inv hk
    have e0 := hb
    obtain ⟨a0, b0⟩ := q0
    have f0 : a0 = 1 := Nat.eq_of_beq_eq_true e0
    subst f0
    exact ⟨_, _, rfl⟩
theorem tw_X9_richestCell : ∀ (as : List AV) (h : AH) (K : Int32 → AH → Prop), T_X9_richestCell as h K → (ini as).length ≤ mNL M_X9_richestCell ∧ AW M_X9_richestCell (.inl K) 0 (initL (mNL M_X9_richestCell) as) [] h 0 0 := by
  intro as h K hk
  match as, hk with
  | [.inr (.inr (.inl q0)), .inr (.inr (.inr q1))], hk =>
    obtain ⟨hb, hk⟩ := tif_inv hk
    have e0 := hb
    obtain ⟨a0, b0⟩ := q0
    have f0 : a0 = 1 := Nat.eq_of_beq_eq_true e0
    subst f0
    exact ⟨Nat.le_of_ble_eq_true rfl, snd_X9_richestCell b0 q1 hk⟩
theorem cr_RX10_492 : CR RX10 (kIns 492) (2, 4, 91, 0, 0, .inl T_X9_richestCell) := crV_i (t := 1) (M := M_X9_richestCell) (by decide) rfl (by decide) rfl (inG (i := 565) (w := Cond.methodLink RX10 164 yX9_richestCell) (by decide +kernel) rfl) (inG (i := 566) (w := Cond.instanceMethod yX9_richestCell) (by decide +kernel) rfl) (inG (i := 38) (w := Cond.initialized RX9) (by decide +kernel) rfl) (inG (i := 567) (w := Cond.selects RX9 yX9_richestCell yX9_richestCell) (by decide +kernel) rfl) (inG (i := 568) (w := Cond.code yX9_richestCell cX9_richestCell 7 (some .int)) (by decide +kernel) rfl) ⟨by decide +kernel, by decide +kernel, by decide +kernel⟩ tr_X9_richestCell tw_X9_richestCell
theorem cr_RX9_348 : CR RX9 (kIns 348) (2, 4, 91, 0, 0, .inl T_X9_richestCell) := crV_i (t := 1) (M := M_X9_richestCell) (by decide) rfl (by decide) rfl (inG (i := 577) (w := Cond.methodLink RX9 116 yX9_richestCell) (by decide +kernel) rfl) (inG (i := 566) (w := Cond.instanceMethod yX9_richestCell) (by decide +kernel) rfl) (inG (i := 38) (w := Cond.initialized RX9) (by decide +kernel) rfl) (inG (i := 567) (w := Cond.selects RX9 yX9_richestCell yX9_richestCell) (by decide +kernel) rfl) (inG (i := 568) (w := Cond.code yX9_richestCell cX9_richestCell 7 (some .int)) (by decide +kernel) rfl) ⟨by decide +kernel, by decide +kernel, by decide +kernel⟩ tr_X9_richestCell tw_X9_richestCell

theorem oE_s {a : Nat} {f : Nat → Prop} (h : f a) : oE (some a) f := h
theorem amC_s {f : Nat → Int} {s k : Nat} {p : Int × Int} : amC f s (k + 1) p = if (amC f s k p).2 < f k then (((10 * s + k : Nat) : Int), f k) else amC f s k p := rfl
theorem amC_bc (V : Vm) (s : Nat) (p : Int × Int) : ∀ k, amC (gn V s) s (k + 1) p = if p.2 < gn V s (bCell V s k) then (((10 * s + bCell V s k : Nat) : Int), gn V s (bCell V s k)) else p
  | 0 => rfl
  | k + 1 => by
    rw [amC_s, amC_bc V s p k, bCell_s]
    have h1 : gn V s (bCell V s k) = (brg V s (bCell V s k) : Int) - vPr V s := rfl
    have h2 : gn V s (k + 1) = (brg V s (k + 1) : Int) - vPr V s := rfl
    by_cases a : p.2 < gn V s (bCell V s k)
    · rw [if_pos a]
      by_cases b : brg V s (bCell V s k) < brg V s (k + 1)
      · rw [if_pos b]
        show (if gn V s (bCell V s k) < gn V s (k + 1) then _ else _) = _
        rw [if_pos (by omega), if_pos (by omega)]
      · rw [if_neg b]
        show (if gn V s (bCell V s k) < gn V s (k + 1) then _ else _) = _
        rw [if_neg (by omega), if_pos a]
    · rw [if_neg a]
      by_cases b : brg V s (bCell V s k) < brg V s (k + 1)
      · rw [if_pos b]
      · rw [if_neg b, if_neg a, if_neg (by omega)]
theorem amA_s (V : Vm) (p : Int × Int) (s : Nat) : amA (gn V) (vFl V) (s + 1) p = if (amA (gn V) (vFl V) s p).2 < gn V s (bCell V s (vFl V s)) then (((10 * s + bCell V s (vFl V s) : Nat) : Int), gn V s (bCell V s (vFl V s))) else amA (gn V) (vFl V) s p := by
  rw [← amC_bc]
  rfl
theorem amA_nz {V : Vm} (hw : WF V) {s : Nat} (h0 : 0 < s) (hs : s ≤ V 10 1) : 0 ≤ (amA (gn V) (vFl V) s (-4, -1000000000)).1 := by
  have h7 := hw.2.1
  rcases amA_at (f := gn V) (lim := vFl V) (p := (-4, -1000000000)) s with h | ⟨a, c, h1, h2, h3⟩
  · exfalso
    obtain ⟨k, rfl⟩ : ∃ k, s = k + 1 := ⟨s - 1, by omega⟩
    have h1 := (amC_ge (f := gn V k) (s := k) (p := amA (gn V) (vFl V) k (-4, -1000000000)) (vFl V k + 1)).2 0 (by omega)
    have h2 : (amC (gn V k) k (vFl V k + 1) (amA (gn V) (vFl V) k (-4, -1000000000))) = (-4, -1000000000) := h
    rw [h2] at h1
    have := gn_b hw (show k < V 10 1 by omega) (show 0 < 8 by omega)
    have h1 : gn V k 0 ≤ -1000000000 := h1
    omega
  · rw [h3]
    exact Int.natCast_nonneg _
def S_X9_richestThrow (v : Nat) (h : AH) (K : Int32 → AH → Prop) : Prop := ∃ V, CV h v V ∧ WF V ∧ K (iI (bst V).1) h
def T_X9_richestThrow : List AV → AH → (Int32 → AH → Prop) → Prop := fun as h K => match as with
  | [.inr (.inr (.inl q0))] => tif (Nat.beq q0.1 1) (S_X9_richestThrow q0.2 h K)
  | _ => False

def M_X9_richestThrow : MI := (RX9, cX9_richestThrow, 6, [(0, .bipush (-4), []), (2, .istore_n 1, []), (3, .iconst 0, []), (4, .istore_n 2, []), (5, .iconst 0, []), (6, .istore_n 3, []), (7, .iload_n 3, []), (8, .aload_n 0, []), (9, .getfield 55, []), (12, .if_icmp .ge 68, [80]), (15, .aload_n 0, []), (16, .aload_n 0, []), (17, .getfield 38, []), (20, .iload_n 3, []), (21, .aaload, []), (22, .invokevirtual 116, []), (25, .istore 4, []), (27, .aload_n 0, []), (28, .aload_n 0, []), (29, .getfield 38, []), (32, .iload_n 3, []), (33, .aaload, []), (34, .iload 4, []), (36, .invokevirtual 120, []), (39, .aload_n 0, []), (40, .getfield 38, []), (43, .iload_n 3, []), (44, .aaload, []), (45, .getfield 123, []), (48, .isub, []), (49, .istore 5, []), (51, .iload_n 1, []), (52, .bipush (-4), []), (54, .if_icmp .eq 9, [63]), (57, .iload 5, []), (59, .iload_n 2, []), (60, .if_icmp .le 14, [74]), (63, .iload 5, []), (65, .istore_n 2, []), (66, .bipush 10, []), (68, .iload_n 3, []), (69, .imul, []), (70, .iload 4, []), (72, .iadd, []), (73, .istore_n 1, []), (74, .iinc 3 1, []), (77, .goto (-70), [7]), (80, .iload_n 1, []), (81, .ireturn, [])], [(55, (1, 9, 0, 0, 0)), (38, (1, 10, 1, 10, 0)), (123, (18, 5, 0, 0, 0))], [], [], [(348, (2, 4, 91, 0, 0, .inl T_X9_richestCell)), (360, (3, 4, 87, 0, 0, .inl T_X9_broughtBy))], 4, 91, 0, 0)
theorem ok_X9_richestThrow : MOK M_X9_richestThrow := ⟨by decide +kernel, List.forall_mem_cons.mpr ⟨fl_RX9_55, List.forall_mem_cons.mpr ⟨fl_RX9_38, List.forall_mem_cons.mpr ⟨fl_RX9_123, fun _ h => absurd h List.not_mem_nil⟩⟩⟩, fun _ h => absurd h List.not_mem_nil, fun _ h => absurd h List.not_mem_nil, List.forall_mem_cons.mpr ⟨⟨Nat.le_of_ble_eq_true rfl, Nat.le_of_ble_eq_true rfl, cr_RX9_348⟩, List.forall_mem_cons.mpr ⟨⟨Nat.le_of_ble_eq_true rfl, Nat.le_of_ble_eq_true rfl, cr_RX9_360⟩, fun _ h => absurd h List.not_mem_nil⟩⟩⟩
set_option maxRecDepth 100000 in
theorem vc_X9_richestThrow {K : Int32 → AH → Prop} {h : AH} (p0 : Nat) (H : AW M_X9_richestThrow (.inl K) 7 [some (aR 1 p0), some (aI (iI (-4))), some (aI (nI 0)), some (aI (nI 0)), none, none] [] h 0 0) : AW M_X9_richestThrow (.inl K) 0 [some (aR 1 p0), none, none, none, none, none] [] h 0 0 := AW_go (cuts := [(7, [true, true, true, true, false, false])]) ok_X9_richestThrow 400 H
set_option maxRecDepth 100000 in
theorem vc_X9_richestThrow_7 {K : Int32 → AH → Prop} {h : AH}  (l0 : Nat) (l1 : Int32) (l2 : Int32) (l3 : Int32) (H : (((h.1 1 l0 9) ≤ l3) → K l1 h) ∧ (¬ ((h.1 1 l0 9) ≤ l3) → inR l3 7 ∧ S_X9_richestCell l0 (h.2.1 10 l0 l3.toNatClampNeg) h (fun x2 h1 => inR l3 7 ∧ S_X9_broughtBy l0 (h1.2.1 10 l0 l3.toNatClampNeg) x2 h1 (fun x4 h3 => inR l3 7 ∧ oE (h3.2.1 10 l0 l3.toNatClampNeg) fun a5 => ((l1 = (iI (-4))) → AW M_X9_richestThrow (.inl K) 7 [some (aR 1 l0), some (aI (((nI 10) * l3) + x2)), some (aI (x4 - (h3.1 18 a5 5))), some (aI (l3 + (nI 1))), none, none] [] h3 0 0) ∧ (¬ (l1 = (iI (-4))) → (((x4 - (h3.1 18 a5 5)) ≤ l2) → AW M_X9_richestThrow (.inl K) 7 [some (aR 1 l0), some (aI l1), some (aI l2), some (aI (l3 + (nI 1))), none, none] [] h3 0 0) ∧ (¬ ((x4 - (h3.1 18 a5 5)) ≤ l2) → AW M_X9_richestThrow (.inl K) 7 [some (aR 1 l0), some (aI (((nI 10) * l3) + x2)), some (aI (x4 - (h3.1 18 a5 5))), some (aI (l3 + (nI 1))), none, none] [] h3 0 0)))))) : AW M_X9_richestThrow (.inl K) 7 [some (aR 1 l0), some (aI l1), some (aI l2), some (aI l3), none, none] [] h 0 0 := AW_go (cuts := [(7, [true, true, true, true, false, false])]) ok_X9_richestThrow 400 H

theorem lp_X9_richestThrow {v : Nat} {V : Vm} {h : AH} {K : Int32 → AH → Prop} (cv : CV h v V) (hw : WF V) (k : K (iI (bst V).1) h) : ∀ r s x, s + r = V 10 1 → (0 < s → x = iI (amA (gn V) (vFl V) s (-4, -1000000000)).2) → AW M_X9_richestThrow (.inl K) 7 [some (aR 1 v), some (aI (iI (amA (gn V) (vFl V) s (-4, -1000000000)).1)), some (aI x), some (aI (nI s)), none, none] [] h 0 0 := by
  have h7 := hw.2.1
  obtain ⟨-, -, -, -, -, -, -, -, -, e9, -, -, eS⟩ := CVs cv
  intro r
  induction r with
  | zero =>
    intro s x hs hx
    refine vc_X9_richestThrow_7 v _ x (nI s) ?_
    rw [e9, n_le (by omega) (by omega)]
    have : s = V 10 1 := by omega
    subst this
    exact ⟨fun _ => k, fun q => absurd (Nat.le_refl _) q⟩
  | succ r ih =>
    intro s x hs hx
    refine vc_X9_richestThrow_7 v _ x (nI s) ?_
    have hs1 : s < V 10 1 := by omega
    have hf : vFl V s ≤ 7 := fly_le _
    have hbc := bCell_le V s (vFl V s)
    have hg := gn_b hw hs1 (show bCell V s (vFl V s) < 8 by omega)
    obtain ⟨b1, b2, b3, b4⟩ := bst_b hw s (by omega)
    obtain ⟨b, eb, -, -, -, -, -, s6, -⟩ := eS s hs1
    simp (disch := omega) only [e9, n_le, n_inT, n_cl, true_and, nI_add, pk_mul]
    refine ⟨fun q => by omega, fun _ => ⟨V, s, ⟨cv, hw, hs1, eS s hs1⟩, V, s, bCell V s (vFl V s), ⟨cv, hw, hs1, eS s hs1⟩, by omega, rfl, ?_⟩⟩
    (try dsimp only)
    rw [eb]
    refine oE_s ?_
    have ev : nI (brg V s (bCell V s (vFl V s))) - h.1 18 b 5 = iI (gn V s (bCell V s (vFl V s))) := by
      rw [s6, n_subI]
      rfl
    rw [ev]
    have take : AW M_X9_richestThrow (.inl K) 7 [some (aR 1 v), some (aI (nI (10 * s) + nI (bCell V s (vFl V s)))), some (aI (iI (gn V s (bCell V s (vFl V s))))), some (aI (nI (s + 1))), none, none] [] h 0 0 ∨ ¬ (amA (gn V) (vFl V) s (-4, -1000000000)).2 < gn V s (bCell V s (vFl V s)) := by
      by_cases z : (amA (gn V) (vFl V) s (-4, -1000000000)).2 < gn V s (bCell V s (vFl V s))
      · have := ih (s + 1) (iI (gn V s (bCell V s (vFl V s)))) (by omega) (fun _ => by rw [amA_s, if_pos z])
        rw [amA_s, if_pos z, ← nI_iI (10 * s + bCell V s (vFl V s)), ← nI_add] at this
        exact Or.inl this
      · exact Or.inr z
    by_cases h0 : s = 0
    · subst h0
      refine ⟨fun _ => ?_, fun q => absurd rfl q⟩
      refine take.resolve_right (fun z => z ?_)
      show (-1000000000 : Int) < _
      omega
    · have hnz := amA_nz hw (by omega) (show s ≤ V 10 1 by omega)
      rw [hx (by omega)]
      refine ⟨fun q => ?_, fun _ => ?_⟩
      · rw [i_eq (by omega) (by omega) (by omega) (by omega)] at q
        omega
      · rw [i_le (by omega) (by omega) (by omega) (by omega)]
        refine ⟨fun z => ?_, fun z => take.resolve_right (fun y => z (by omega))⟩
        have := ih (s + 1) (iI (amA (gn V) (vFl V) s (-4, -1000000000)).2) (by omega) (fun _ => by rw [amA_s, if_neg (by omega)])
        rw [amA_s, if_neg (by omega)] at this
        exact this
theorem snd_X9_richestThrow (v : Nat) {h : AH} {K : Int32 → AH → Prop} (k : S_X9_richestThrow v h K) : AW M_X9_richestThrow (.inl K) 0 [some (aR 1 v), none, none, none, none, none] [] h 0 0 := by
  obtain ⟨V, cv, hw, k⟩ := k
  exact vc_X9_richestThrow v (lp_X9_richestThrow cv hw k (V 10 1) 0 (nI 0) (by omega) (fun z => absurd z (by omega)))
theorem tr_X9_richestThrow : ∀ (as : List AV) (h : AH) (K : Int32 → AH → Prop), T_X9_richestThrow as h K → ∃ (q : Nat) (r : List AV), as = aR 1 q :: r := by
  intro as h K hk
  match as, hk with
  | [.inr (.inr (.inl q0))], hk =>
    obtain ⟨hb, hk⟩ := tif_inv hk
    have e0 := hb
    obtain ⟨a0, b0⟩ := q0
    have f0 : a0 = 1 := Nat.eq_of_beq_eq_true e0
    subst f0
    exact ⟨_, _, rfl⟩
theorem tw_X9_richestThrow : ∀ (as : List AV) (h : AH) (K : Int32 → AH → Prop), T_X9_richestThrow as h K → (ini as).length ≤ mNL M_X9_richestThrow ∧ AW M_X9_richestThrow (.inl K) 0 (initL (mNL M_X9_richestThrow) as) [] h 0 0 := by
  intro as h K hk
  match as, hk with
  | [.inr (.inr (.inl q0))], hk =>
    obtain ⟨hb, hk⟩ := tif_inv hk
    have e0 := hb
    obtain ⟨a0, b0⟩ := q0
    have f0 : a0 = 1 := Nat.eq_of_beq_eq_true e0
    subst f0
    exact ⟨Nat.le_of_ble_eq_true rfl, snd_X9_richestThrow b0 hk⟩
theorem cr_RX10_504 : CR RX10 (kIns 504) (1, 5, 116, 0, 0, .inl T_X9_richestThrow) := crV_i (t := 1) (M := M_X9_richestThrow) (by decide) rfl (by decide) rfl (inG (i := 573) (w := Cond.methodLink RX10 168 yX9_richestThrow) (by decide +kernel) rfl) (inG (i := 574) (w := Cond.instanceMethod yX9_richestThrow) (by decide +kernel) rfl) (inG (i := 38) (w := Cond.initialized RX9) (by decide +kernel) rfl) (inG (i := 575) (w := Cond.selects RX9 yX9_richestThrow yX9_richestThrow) (by decide +kernel) rfl) (inG (i := 576) (w := Cond.code yX9_richestThrow cX9_richestThrow 6 (some .int)) (by decide +kernel) rfl) ⟨by decide +kernel, by decide +kernel, by decide +kernel⟩ tr_X9_richestThrow tw_X9_richestThrow
theorem cr_RX9_378 : CR RX9 (kIns 378) (1, 5, 116, 0, 0, .inl T_X9_richestThrow) := crV_i (t := 1) (M := M_X9_richestThrow) (by decide) rfl (by decide) rfl (inG (i := 588) (w := Cond.methodLink RX9 126 yX9_richestThrow) (by decide +kernel) rfl) (inG (i := 574) (w := Cond.instanceMethod yX9_richestThrow) (by decide +kernel) rfl) (inG (i := 38) (w := Cond.initialized RX9) (by decide +kernel) rfl) (inG (i := 575) (w := Cond.selects RX9 yX9_richestThrow yX9_richestThrow) (by decide +kernel) rfl) (inG (i := 576) (w := Cond.code yX9_richestThrow cX9_richestThrow 6 (some .int)) (by decide +kernel) rfl) ⟨by decide +kernel, by decide +kernel, by decide +kernel⟩ tr_X9_richestThrow tw_X9_richestThrow

theorem bst_n {V : Vm} (hw : WF V) : ((bst V).1 = -4 ∧ V 10 1 = 0) ∨ ∃ a c, a < V 10 1 ∧ c < 8 ∧ (bst V).1 = ((10 * a + c : Nat) : Int) ∧ iI (bst V).1 = nI (10 * a + c) ∧ (bst V).2 = gn V a c ∧ iI (bst V).1 / nI 10 = nI a ∧ iI (bst V).1 - iI (bst V).1 / nI 10 * nI 10 = nI c ∧ ¬ iI (bst V).1 = iI (-4) := by
  have h7 := hw.2.1
  rcases bst_at hw with ⟨h1, h2⟩ | ⟨a, c, ha, hc, hb⟩
  · exact Or.inl ⟨by rw [h1], h2⟩
  · have hf : vFl V a ≤ 7 := fly_le _
    have e1 : (bst V).1 = ((10 * a + c : Nat) : Int) := by rw [hb]
    have e2 : iI (bst V).1 = nI (10 * a + c) := by rw [e1, nI_iI]
    refine Or.inr ⟨a, c, ha, by omega, e1, e2, by rw [hb], ?_, ?_, ?_⟩
    · rw [e2, n_div (by omega) (by omega) (by omega), show (10 * a + c) / 10 = a by omega]
    · rw [e2, n_rem (by omega) (by omega) (by omega), show (10 * a + c) % 10 = c by omega]
    · rw [e2, m_ne (by omega) (by omega) (by omega)]
      exact fun z => z
def S_X9_richestGain (v : Nat) (h : AH) (K : Int32 → AH → Prop) : Prop := ∃ V, CV h v V ∧ WF V ∧ K (if (bst V).1 < 0 then nI 0 else iI (bst V).2) h
def T_X9_richestGain : List AV → AH → (Int32 → AH → Prop) → Prop := fun as h K => match as with
  | [.inr (.inr (.inl q0))] => tif (Nat.beq q0.1 1) (S_X9_richestGain q0.2 h K)
  | _ => False

def M_X9_richestGain : MI := (RX9, cX9_richestGain, 2, [(0, .aload_n 0, []), (1, .invokevirtual 126, []), (4, .istore_n 1, []), (5, .iload_n 1, []), (6, .bipush (-4), []), (8, .if_icmp .ne 7, [15]), (11, .iconst 0, []), (12, .goto 15, [27]), (15, .aload_n 0, []), (16, .iload_n 1, []), (17, .bipush 10, []), (19, .idiv, []), (20, .iload_n 1, []), (21, .bipush 10, []), (23, .irem, []), (24, .invokevirtual 130, []), (27, .ireturn, [])], [], [], [], [(378, (1, 5, 116, 0, 0, .inl T_X9_richestThrow)), (390, (3, 5, 109, 0, 0, .inl T_X9_gainOf))], 5, 116, 0, 0)
theorem ok_X9_richestGain : MOK M_X9_richestGain := ⟨by decide +kernel, fun _ h => absurd h List.not_mem_nil, fun _ h => absurd h List.not_mem_nil, fun _ h => absurd h List.not_mem_nil, List.forall_mem_cons.mpr ⟨⟨Nat.le_of_ble_eq_true rfl, Nat.le_of_ble_eq_true rfl, cr_RX9_378⟩, List.forall_mem_cons.mpr ⟨⟨Nat.le_of_ble_eq_true rfl, Nat.le_of_ble_eq_true rfl, cr_RX9_390⟩, fun _ h => absurd h List.not_mem_nil⟩⟩⟩
set_option maxRecDepth 100000 in
theorem vc_X9_richestGain {K : Int32 → AH → Prop} {h : AH} (p0 : Nat) (H : S_X9_richestThrow p0 h (fun x2 h1 => ((¬ x2 = (iI (-4))) → (¬ (nI 10) = 0) ∧ (¬ (nI 10) = 0) ∧ S_X9_gainOf p0 (x2 / (nI 10)) (x2 - x2 / (nI 10) * (nI 10)) h1 (fun x4 h3 => K x4 h3)) ∧ (¬ (¬ x2 = (iI (-4))) → K (nI 0) h1))) : AW M_X9_richestGain (.inl K) 0 [some (aR 1 p0), none] [] h 0 0 := AW_go (cuts := []) ok_X9_richestGain 400 H

theorem snd_X9_richestGain (v : Nat) {h : AH} {K : Int32 → AH → Prop} (k : S_X9_richestGain v h K) : AW M_X9_richestGain (.inl K) 0 [some (aR 1 v), none] [] h 0 0 := by
  obtain ⟨V, cv, hw, k⟩ := k
  refine vc_X9_richestGain v ⟨V, cv, hw, ?_⟩
  rcases bst_n hw with ⟨h1, h2⟩ | ⟨a, c, ha, hc, e1, e2, e3, e4, e5, e6⟩
  · rw [h1, if_pos (by omega)] at k
    rw [h1]
    exact ⟨fun z => absurd rfl z, fun _ => k⟩
  · rw [if_neg (by omega), e3] at k
    refine ⟨fun _ => ⟨by decide, by decide, ?_⟩, fun z => absurd e6 z⟩
    rw [e5, e4]
    exact ⟨V, a, c, cv, hw, ha, rfl, hc, rfl, k⟩
theorem tr_X9_richestGain : ∀ (as : List AV) (h : AH) (K : Int32 → AH → Prop), T_X9_richestGain as h K → ∃ (q : Nat) (r : List AV), as = aR 1 q :: r := by
  intro as h K hk
  match as, hk with
  | [.inr (.inr (.inl q0))], hk =>
    obtain ⟨hb, hk⟩ := tif_inv hk
    have e0 := hb
    obtain ⟨a0, b0⟩ := q0
    have f0 : a0 = 1 := Nat.eq_of_beq_eq_true e0
    subst f0
    exact ⟨_, _, rfl⟩
theorem tw_X9_richestGain : ∀ (as : List AV) (h : AH) (K : Int32 → AH → Prop), T_X9_richestGain as h K → (ini as).length ≤ mNL M_X9_richestGain ∧ AW M_X9_richestGain (.inl K) 0 (initL (mNL M_X9_richestGain) as) [] h 0 0 := by
  intro as h K hk
  match as, hk with
  | [.inr (.inr (.inl q0))], hk =>
    obtain ⟨hb, hk⟩ := tif_inv hk
    have e0 := hb
    obtain ⟨a0, b0⟩ := q0
    have f0 : a0 = 1 := Nat.eq_of_beq_eq_true e0
    subst f0
    exact ⟨Nat.le_of_ble_eq_true rfl, snd_X9_richestGain b0 hk⟩
theorem cr_RX10_516 : CR RX10 (kIns 516) (1, 6, 137, 0, 0, .inl T_X9_richestGain) := crV_i (t := 1) (M := M_X9_richestGain) (by decide) rfl (by decide) rfl (inG (i := 584) (w := Cond.methodLink RX10 172 yX9_richestGain) (by decide +kernel) rfl) (inG (i := 585) (w := Cond.instanceMethod yX9_richestGain) (by decide +kernel) rfl) (inG (i := 38) (w := Cond.initialized RX9) (by decide +kernel) rfl) (inG (i := 586) (w := Cond.selects RX9 yX9_richestGain yX9_richestGain) (by decide +kernel) rfl) (inG (i := 587) (w := Cond.code yX9_richestGain cX9_richestGain 2 (some .int)) (by decide +kernel) rfl) ⟨by decide +kernel, by decide +kernel, by decide +kernel⟩ tr_X9_richestGain tw_X9_richestGain

def S_X9_bestChoice (v : Nat) (c : Int32) (h : AH) (K : Int32 → AH → Prop) : Prop := ∃ V m, CV h v V ∧ WF V ∧ m < 8 ∧ c = nI m ∧ K (nI (bc V m)) h
def T_X9_bestChoice : List AV → AH → (Int32 → AH → Prop) → Prop := fun as h K => match as with
  | [.inr (.inr (.inl q0)), .inl q1] => tif (Nat.beq q0.1 1) (S_X9_bestChoice q0.2 q1 h K)
  | _ => False

def M_X9_bestChoice : MI := (RX9, cX9_bestChoice, 5, [(0, .aload_n 0, []), (1, .getfield 55, []), (4, .istore_n 2, []), (5, .iconst 0, []), (6, .istore_n 3, []), (7, .aload_n 0, []), (8, .getfield 55, []), (11, .iconst 1, []), (12, .isub, []), (13, .istore 4, []), (15, .iload 4, []), (17, .ifCond .lt 45, [62]), (20, .iload_n 1, []), (21, .aload_n 0, []), (22, .getfield 38, []), (25, .iload 4, []), (27, .aaload, []), (28, .getfield 69, []), (31, .if_icmp .gt 25, [56]), (34, .aload_n 0, []), (35, .iload 4, []), (37, .iload_n 1, []), (38, .invokevirtual 130, []), (41, .iload_n 3, []), (42, .if_icmp .lt 14, [56]), (45, .aload_n 0, []), (46, .iload 4, []), (48, .iload_n 1, []), (49, .invokevirtual 130, []), (52, .istore_n 3, []), (53, .iload 4, []), (55, .istore_n 2, []), (56, .iinc 4 (-1), []), (59, .goto (-44), [15]), (62, .iload_n 2, []), (63, .ireturn, [])], [(55, (1, 9, 0, 0, 0)), (38, (1, 10, 1, 10, 0)), (69, (18, 4, 0, 0, 0))], [], [], [(390, (3, 5, 109, 0, 0, .inl T_X9_gainOf))], 5, 109, 0, 0)
theorem ok_X9_bestChoice : MOK M_X9_bestChoice := ⟨by decide +kernel, List.forall_mem_cons.mpr ⟨fl_RX9_55, List.forall_mem_cons.mpr ⟨fl_RX9_38, List.forall_mem_cons.mpr ⟨fl_RX9_69, fun _ h => absurd h List.not_mem_nil⟩⟩⟩, fun _ h => absurd h List.not_mem_nil, fun _ h => absurd h List.not_mem_nil, List.forall_mem_cons.mpr ⟨⟨Nat.le_of_ble_eq_true rfl, Nat.le_of_ble_eq_true rfl, cr_RX9_390⟩, fun _ h => absurd h List.not_mem_nil⟩⟩
set_option maxRecDepth 100000 in
theorem vc_X9_bestChoice {K : Int32 → AH → Prop} {h : AH} (p0 : Nat) (p1 : Int32) (H : AW M_X9_bestChoice (.inl K) 15 [some (aR 1 p0), some (aI p1), some (aI (h.1 1 p0 9)), some (aI (nI 0)), some (aI ((h.1 1 p0 9) - (nI 1)))] [] h 0 0) : AW M_X9_bestChoice (.inl K) 0 [some (aR 1 p0), some (aI p1), none, none, none] [] h 0 0 := AW_go (cuts := [(15, [true, true, true, true, true])]) ok_X9_bestChoice 400 H
set_option maxRecDepth 100000 in
theorem vc_X9_bestChoice_15 {K : Int32 → AH → Prop} {h : AH}  (l0 : Nat) (l1 : Int32) (l2 : Int32) (l3 : Int32) (l4 : Int32) (H : ((l4 < 0) → K l2 h) ∧ (¬ (l4 < 0) → inR l4 7 ∧ oE (h.2.1 10 l0 l4.toNatClampNeg) fun a1 => (((h.1 18 a1 4) < l1) → AW M_X9_bestChoice (.inl K) 15 [some (aR 1 l0), some (aI l1), some (aI l2), some (aI l3), some (aI (l4 + (iI (-1))))] [] h 0 0) ∧ (¬ ((h.1 18 a1 4) < l1) → S_X9_gainOf l0 l4 l1 h (fun x3 h2 => ((x3 < l3) → AW M_X9_bestChoice (.inl K) 15 [some (aR 1 l0), some (aI l1), some (aI l2), some (aI l3), some (aI (l4 + (iI (-1))))] [] h2 0 0) ∧ (¬ (x3 < l3) → S_X9_gainOf l0 l4 l1 h2 (fun x5 h4 => AW M_X9_bestChoice (.inl K) 15 [some (aR 1 l0), some (aI l1), some (aI l4), some (aI x5), some (aI (l4 + (iI (-1))))] [] h4 0 0)))))) : AW M_X9_bestChoice (.inl K) 15 [some (aR 1 l0), some (aI l1), some (aI l2), some (aI l3), some (aI l4)] [] h 0 0 := AW_go (cuts := [(15, [true, true, true, true, true])]) ok_X9_bestChoice 400 H

theorem bcR_b {U : Vm} {m : Nat} (hw : WF U) (hm : m < 8) : ∀ r, r ≤ U 10 1 → 0 ≤ (bcR (chF U m) (U 10 1) r).2 ∧ (bcR (chF U m) (U 10 1) r).2 ≤ 54
  | 0, _ => ⟨Int.le_refl _, by show (0 : Int) ≤ 54; omega⟩
  | r + 1, hr => by
    have ih := bcR_b hw hm r (by omega)
    have hg := gn_b hw (show U 10 1 - 1 - r < U 10 1 by omega) hm
    have ef : chF U m (U 10 1 - 1 - r) = if m ≤ vFl U (U 10 1 - 1 - r) then some (gn U (U 10 1 - 1 - r) m) else none := rfl
    rw [bcR, ef]
    by_cases z : m ≤ vFl U (U 10 1 - 1 - r)
    · rw [if_pos z]
      show 0 ≤ (if (bcR (chF U m) (U 10 1) r).2 ≤ gn U (U 10 1 - 1 - r) m then (U 10 1 - 1 - r, gn U (U 10 1 - 1 - r) m) else bcR (chF U m) (U 10 1) r).2 ∧ (if (bcR (chF U m) (U 10 1) r).2 ≤ gn U (U 10 1 - 1 - r) m then (U 10 1 - 1 - r, gn U (U 10 1 - 1 - r) m) else bcR (chF U m) (U 10 1) r).2 ≤ 54
      split
      · rename_i q
        exact ⟨by show 0 ≤ gn U (U 10 1 - 1 - r) m; omega, hg.1⟩
      · exact ih
    · rw [if_neg z]
      exact ih
theorem lp_X9_bestChoice {v m : Nat} {V : Vm} {h : AH} {K : Int32 → AH → Prop} (cv : CV h v V) (hw : WF V) (hm : m < 8) (k : K (nI (bc V m)) h) : ∀ j r, j + r = V 10 1 → AW M_X9_bestChoice (.inl K) 15 [some (aR 1 v), some (aI (nI m)), some (aI (nI (bcR (chF V m) (V 10 1) r).1)), some (aI (iI (bcR (chF V m) (V 10 1) r).2)), some (aI (nI j + iI (-1)))] [] h 0 0 := by
  have h7 := hw.2.1
  obtain ⟨-, -, -, -, -, -, -, -, -, e9, -, -, eS⟩ := CVs cv
  intro j
  induction j with
  | zero =>
    intro r hr
    refine vc_X9_bestChoice_15 v (nI m) _ _ _ ⟨fun _ => ?_, fun q => absurd (by decide) q⟩
    have : r = V 10 1 := by omega
    subst this
    exact k
  | succ j ih =>
    intro r hr
    refine vc_X9_bestChoice_15 v (nI m) _ _ _ ?_
    have eq1 : nI (j + 1) + iI (-1) = nI j := by rw [nI_iI, i_add, nI_iI]; congr 1; omega
    rw [eq1]
    have hj : j < V 10 1 := by omega
    have sp := eS j hj
    obtain ⟨a, ea, -, -, -, -, s5, -⟩ := id sp
    have hf : fly (V 8 j) ≤ 7 := fly_le _
    have hg := gn_b hw hj hm
    have hb := bcR_b hw hm r (by omega)
    have ih := ih (r + 1) (by omega)
    rw [bcR, show V 10 1 - 1 - r = j by omega] at ih
    have ef : chF V m j = if m ≤ fly (V 8 j) then some (gn V j m) else none := rfl
    rw [ef] at ih
    rw [n_lt0 (show j < 2147483648 by omega), n_cl (show j < 2147483648 by omega), ea]
    refine ⟨fun z => z.elim, fun _ => ⟨n_in (show j < 7 by omega) (by omega), ?_⟩⟩
    show (h.1 18 a 4 < nI m → _) ∧ (¬ h.1 18 a 4 < nI m → _)
    rw [s5, n_lt (by omega) (by omega)]
    refine ⟨fun q => ?_, fun q => ⟨V, j, m, cv, hw, hj, rfl, hm, rfl, ?_⟩⟩
    · rw [if_neg (by omega)] at ih
      exact ih
    · rw [if_pos (by omega)] at ih
      have ih : AW M_X9_bestChoice (.inl K) 15 [some (aR 1 v), some (aI (nI m)), some (aI (nI (if (bcR (chF V m) (V 10 1) r).2 ≤ gn V j m then (j, gn V j m) else bcR (chF V m) (V 10 1) r).1)), some (aI (iI (if (bcR (chF V m) (V 10 1) r).2 ≤ gn V j m then (j, gn V j m) else bcR (chF V m) (V 10 1) r).2)), some (aI (nI j + iI (-1)))] [] h 0 0 := ih
      rw [i_lt (by omega) (by omega) (by omega) (by omega)]
      refine ⟨fun z => ?_, fun z => ⟨V, j, m, cv, hw, hj, rfl, hm, rfl, ?_⟩⟩
      · rw [if_neg (by omega)] at ih; exact ih
      · rw [if_pos (by omega)] at ih; exact ih
theorem snd_X9_bestChoice (v : Nat) (c : Int32) {h : AH} {K : Int32 → AH → Prop} (k : S_X9_bestChoice v c h K) : AW M_X9_bestChoice (.inl K) 0 [some (aR 1 v), some (aI c), none, none, none] [] h 0 0 := by
  obtain ⟨V, m, cv, hw, hm, rfl, k⟩ := k
  have e9 := (CVs cv).2.2.2.2.2.2.2.2.2.1
  refine vc_X9_bestChoice v (nI m) ?_
  rw [e9, show nI (V 10 1) - nI 1 = nI (V 10 1) + iI (-1) by rw [iI_m1, ← Int32.sub_eq_add_neg]]
  exact lp_X9_bestChoice cv hw hm k (V 10 1) 0 (by omega)
theorem tr_X9_bestChoice : ∀ (as : List AV) (h : AH) (K : Int32 → AH → Prop), T_X9_bestChoice as h K → ∃ (q : Nat) (r : List AV), as = aR 1 q :: r := by
  intro as h K hk
  match as, hk with
  | [.inr (.inr (.inl q0)), .inl q1], hk =>
    obtain ⟨hb, hk⟩ := tif_inv hk
    have e0 := hb
    obtain ⟨a0, b0⟩ := q0
    have f0 : a0 = 1 := Nat.eq_of_beq_eq_true e0
    subst f0
    exact ⟨_, _, rfl⟩
theorem tw_X9_bestChoice : ∀ (as : List AV) (h : AH) (K : Int32 → AH → Prop), T_X9_bestChoice as h K → (ini as).length ≤ mNL M_X9_bestChoice ∧ AW M_X9_bestChoice (.inl K) 0 (initL (mNL M_X9_bestChoice) as) [] h 0 0 := by
  intro as h K hk
  match as, hk with
  | [.inr (.inr (.inl q0)), .inl q1], hk =>
    obtain ⟨hb, hk⟩ := tif_inv hk
    have e0 := hb
    obtain ⟨a0, b0⟩ := q0
    have f0 : a0 = 1 := Nat.eq_of_beq_eq_true e0
    subst f0
    exact ⟨Nat.le_of_ble_eq_true rfl, snd_X9_bestChoice b0 q1 hk⟩
theorem cr_RX10_624 : CR RX10 (kIns 624) (2, 6, 133, 0, 0, .inl T_X9_bestChoice) := crV_i (t := 1) (M := M_X9_bestChoice) (by decide) rfl (by decide) rfl (inG (i := 685) (w := Cond.methodLink RX10 208 yX9_bestChoice) (by decide +kernel) rfl) (inG (i := 686) (w := Cond.instanceMethod yX9_bestChoice) (by decide +kernel) rfl) (inG (i := 38) (w := Cond.initialized RX9) (by decide +kernel) rfl) (inG (i := 687) (w := Cond.selects RX9 yX9_bestChoice yX9_bestChoice) (by decide +kernel) rfl) (inG (i := 688) (w := Cond.code yX9_bestChoice cX9_bestChoice 5 (some .int)) (by decide +kernel) rfl) ⟨by decide +kernel, by decide +kernel, by decide +kernel⟩ tr_X9_bestChoice tw_X9_bestChoice

def S_X10_sum (t p : Nat) (n : Int32) (h : AH) (K : Int32 → AH → Prop) : Prop := ∃ k f, (t = 2 ∨ t = 3 ∨ t = 5 ∨ t = 7) ∧ n = nI k ∧ k ≤ alen t ∧ (∀ i, i < k → h.1 t p i = nI (f i)) ∧ K (nI (sm f k)) h
def T_X10_sum : List AV → AH → (Int32 → AH → Prop) → Prop := fun as h K => match as with
  | [.inr (.inr (.inl q0)), .inl q1] => S_X10_sum q0.1 q0.2 q1 h K
  | _ => False

def M_X10_sum : MI := (RX10, cX10_sum, 4, [(0, .iconst 0, []), (1, .istore_n 2, []), (2, .iconst 0, []), (3, .istore_n 3, []), (4, .iload_n 3, []), (5, .iload_n 1, []), (6, .if_icmp .ge 21, [27]), (9, .iload_n 3, []), (10, .aload_n 0, []), (11, .arraylength, []), (12, .if_icmp .ge 15, [27]), (15, .iload_n 2, []), (16, .aload_n 0, []), (17, .iload_n 3, []), (18, .iaload, []), (19, .iadd, []), (20, .istore_n 2, []), (21, .iinc 3 1, []), (24, .goto (-20), [4]), (27, .iload_n 2, []), (28, .ireturn, [])], [], [], [], [], 0, 0, 0, 0)
theorem ok_X10_sum : MOK M_X10_sum := ⟨by decide +kernel, fun _ h => absurd h List.not_mem_nil, fun _ h => absurd h List.not_mem_nil, fun _ h => absurd h List.not_mem_nil, fun _ h => absurd h List.not_mem_nil⟩

set_option maxRecDepth 100000 in
theorem vc_X10_sum_2 {K : Int32 → AH → Prop} {h : AH} (p0 : Nat) (p1 : Int32) (H : AW M_X10_sum (.inl K) 4 [some (aR 2 p0), some (aI p1), some (aI (nI 0)), some (aI (nI 0))] [] h 0 0) : AW M_X10_sum (.inl K) 0 [some (aR 2 p0), some (aI p1), none, none] [] h 0 0 := AW_go (cuts := [(4, [true, true, true, true])]) ok_X10_sum 400 H
set_option maxRecDepth 100000 in
theorem vc_X10_sum_2_4 {K : Int32 → AH → Prop} {h : AH}  (l0 : Nat) (l1 : Int32) (l2 : Int32) (l3 : Int32) (H : ((l1 ≤ l3) → K l2 h) ∧ (¬ (l1 ≤ l3) → (((nI 8) ≤ l3) → K l2 h) ∧ (¬ ((nI 8) ≤ l3) → inR l3 8 ∧ AW M_X10_sum (.inl K) 4 [some (aR 2 l0), some (aI l1), some (aI (l2 + (h.1 2 l0 l3.toNatClampNeg))), some (aI (l3 + (nI 1)))] [] h 0 0))) : AW M_X10_sum (.inl K) 4 [some (aR 2 l0), some (aI l1), some (aI l2), some (aI l3)] [] h 0 0 := AW_go (cuts := [(4, [true, true, true, true])]) ok_X10_sum 400 H

set_option maxRecDepth 100000 in
theorem vc_X10_sum_3 {K : Int32 → AH → Prop} {h : AH} (p0 : Nat) (p1 : Int32) (H : AW M_X10_sum (.inl K) 4 [some (aR 3 p0), some (aI p1), some (aI (nI 0)), some (aI (nI 0))] [] h 0 0) : AW M_X10_sum (.inl K) 0 [some (aR 3 p0), some (aI p1), none, none] [] h 0 0 := AW_go (cuts := [(4, [true, true, true, true])]) ok_X10_sum 400 H
set_option maxRecDepth 100000 in
theorem vc_X10_sum_3_4 {K : Int32 → AH → Prop} {h : AH}  (l0 : Nat) (l1 : Int32) (l2 : Int32) (l3 : Int32) (H : ((l1 ≤ l3) → K l2 h) ∧ (¬ (l1 ≤ l3) → (((nI 8) ≤ l3) → K l2 h) ∧ (¬ ((nI 8) ≤ l3) → inR l3 8 ∧ AW M_X10_sum (.inl K) 4 [some (aR 3 l0), some (aI l1), some (aI (l2 + (h.1 3 l0 l3.toNatClampNeg))), some (aI (l3 + (nI 1)))] [] h 0 0))) : AW M_X10_sum (.inl K) 4 [some (aR 3 l0), some (aI l1), some (aI l2), some (aI l3)] [] h 0 0 := AW_go (cuts := [(4, [true, true, true, true])]) ok_X10_sum 400 H

set_option maxRecDepth 100000 in
theorem vc_X10_sum_5 {K : Int32 → AH → Prop} {h : AH} (p0 : Nat) (p1 : Int32) (H : AW M_X10_sum (.inl K) 4 [some (aR 5 p0), some (aI p1), some (aI (nI 0)), some (aI (nI 0))] [] h 0 0) : AW M_X10_sum (.inl K) 0 [some (aR 5 p0), some (aI p1), none, none] [] h 0 0 := AW_go (cuts := [(4, [true, true, true, true])]) ok_X10_sum 400 H
set_option maxRecDepth 100000 in
theorem vc_X10_sum_5_4 {K : Int32 → AH → Prop} {h : AH}  (l0 : Nat) (l1 : Int32) (l2 : Int32) (l3 : Int32) (H : ((l1 ≤ l3) → K l2 h) ∧ (¬ (l1 ≤ l3) → (((nI 4) ≤ l3) → K l2 h) ∧ (¬ ((nI 4) ≤ l3) → inR l3 4 ∧ AW M_X10_sum (.inl K) 4 [some (aR 5 l0), some (aI l1), some (aI (l2 + (h.1 5 l0 l3.toNatClampNeg))), some (aI (l3 + (nI 1)))] [] h 0 0))) : AW M_X10_sum (.inl K) 4 [some (aR 5 l0), some (aI l1), some (aI l2), some (aI l3)] [] h 0 0 := AW_go (cuts := [(4, [true, true, true, true])]) ok_X10_sum 400 H

set_option maxRecDepth 100000 in
theorem vc_X10_sum_7 {K : Int32 → AH → Prop} {h : AH} (p0 : Nat) (p1 : Int32) (H : AW M_X10_sum (.inl K) 4 [some (aR 7 p0), some (aI p1), some (aI (nI 0)), some (aI (nI 0))] [] h 0 0) : AW M_X10_sum (.inl K) 0 [some (aR 7 p0), some (aI p1), none, none] [] h 0 0 := AW_go (cuts := [(4, [true, true, true, true])]) ok_X10_sum 400 H
set_option maxRecDepth 100000 in
theorem vc_X10_sum_7_4 {K : Int32 → AH → Prop} {h : AH}  (l0 : Nat) (l1 : Int32) (l2 : Int32) (l3 : Int32) (H : ((l1 ≤ l3) → K l2 h) ∧ (¬ (l1 ≤ l3) → (((nI 4) ≤ l3) → K l2 h) ∧ (¬ ((nI 4) ≤ l3) → inR l3 4 ∧ AW M_X10_sum (.inl K) 4 [some (aR 7 l0), some (aI l1), some (aI (l2 + (h.1 7 l0 l3.toNatClampNeg))), some (aI (l3 + (nI 1)))] [] h 0 0))) : AW M_X10_sum (.inl K) 4 [some (aR 7 l0), some (aI l1), some (aI l2), some (aI l3)] [] h 0 0 := AW_go (cuts := [(4, [true, true, true, true])]) ok_X10_sum 400 H

theorem sum_X10_sum {t p k : Nat} {f : Nat → Nat} {h : AH} {K : Int32 → AH → Prop} (hl : alen t ≤ 8) (hk : k ≤ alen t) (hv : ∀ l2 l3, ((nI k ≤ l3 → K l2 h) ∧ (¬ nI k ≤ l3 → (nI (alen t) ≤ l3 → K l2 h) ∧ (¬ nI (alen t) ≤ l3 → inR l3 (alen t) ∧ AW M_X10_sum (.inl K) 4 [some (aR t p), some (aI (nI k)), some (aI (l2 + h.1 t p l3.toNatClampNeg)), some (aI (l3 + nI 1))] [] h 0 0))) → AW M_X10_sum (.inl K) 4 [some (aR t p), some (aI (nI k)), some (aI l2), some (aI l3)] [] h 0 0) (he : ∀ i, i < k → h.1 t p i = nI (f i)) (kk : K (nI (sm f k)) h) : ∀ r i, i + r = k → AW M_X10_sum (.inl K) 4 [some (aR t p), some (aI (nI k)), some (aI (nI (sm f i))), some (aI (nI i))] [] h 0 0 := by
  intro r
  induction r with
  | zero =>
    intro i hi
    refine hv _ _ ?_
    have : i = k := by omega
    subst this
    exact ⟨fun _ => kk, fun q => absurd (Int32.le_refl _) q⟩
  | succ r ih =>
    intro i hi
    refine hv _ _ ?_
    have ih := ih (i + 1) (by omega)
    rw [sm] at ih
    rw [n_le (by omega) (by omega), n_le (by omega) (by omega), n_cl (show i < 2147483648 by omega), he i (by omega), nI_add, nI_add]
    exact ⟨fun q => by omega, fun _ => ⟨fun q => by omega, fun _ => ⟨n_in (by omega) (by omega), ih⟩⟩⟩
theorem snd_X10_sum (t p : Nat) (n : Int32) {h : AH} {K : Int32 → AH → Prop} (k : S_X10_sum t p n h K) : AW M_X10_sum (.inl K) 0 [some (aR t p), some (aI n), none, none] [] h 0 0 := by
  obtain ⟨k, f, ht, rfl, hk, he, kk⟩ := k
  rcases ht with rfl | rfl | rfl | rfl
  · exact vc_X10_sum_2 p (nI k) (sum_X10_sum (t := 2) (by decide) hk (fun l2 l3 q => vc_X10_sum_2_4 p (nI k) l2 l3 q) he kk k 0 (by omega))
  · exact vc_X10_sum_3 p (nI k) (sum_X10_sum (t := 3) (by decide) hk (fun l2 l3 q => vc_X10_sum_3_4 p (nI k) l2 l3 q) he kk k 0 (by omega))
  · exact vc_X10_sum_5 p (nI k) (sum_X10_sum (t := 5) (by decide) hk (fun l2 l3 q => vc_X10_sum_5_4 p (nI k) l2 l3 q) he kk k 0 (by omega))
  · exact vc_X10_sum_7 p (nI k) (sum_X10_sum (t := 7) (by decide) hk (fun l2 l3 q => vc_X10_sum_7_4 p (nI k) l2 l3 q) he kk k 0 (by omega))
theorem tw_X10_sum : ∀ (as : List AV) (h : AH) (K : Int32 → AH → Prop), T_X10_sum as h K → (ini as).length ≤ mNL M_X10_sum ∧ AW M_X10_sum (.inl K) 0 (initL (mNL M_X10_sum) as) [] h 0 0 := by
  intro as h K hk
  match as, hk with
  | [.inr (.inr (.inl q0)), .inl q1], hk =>
    exact ⟨Nat.le_of_ble_eq_true rfl, snd_X10_sum q0.1 q0.2 q1 hk⟩
theorem cr_RX10_691 : CR RX10 (kIns 691) (2, 1, 23, 0, 0, .inl T_X10_sum) := crS_i (M := M_X10_sum) (by decide) rfl (inG (i := 738) (w := Cond.methodLink RX10 230 yX10_sum) (by decide +kernel) rfl) (inG (i := 698) (w := Cond.static yX10_sum) (by decide +kernel) rfl) (inG (i := 37) (w := Cond.initialized RX10) (by decide +kernel) rfl) (inG (i := 699) (w := Cond.code yX10_sum cX10_sum 4 (some .int)) (by decide +kernel) rfl) ⟨by decide +kernel, by decide +kernel, by decide +kernel⟩ tw_X10_sum
theorem cr_RX9_400 : CR RX9 (kIns 400) (2, 1, 23, 0, 0, .inl T_X10_sum) := crN_i (host := RX10) (M := M_X10_sum) (by decide) rfl (by decide +kernel) (inG (i := 698) (w := Cond.static yX10_sum) (by decide +kernel) rfl) (inG (i := 37) (w := Cond.initialized RX10) (by decide +kernel) rfl) (inG (i := 699) (w := Cond.code yX10_sum cX10_sum 4 (some .int)) (by decide +kernel) rfl) ⟨by decide +kernel, by decide +kernel, by decide +kernel⟩ tw_X10_sum

theorem max_1 {a b c : Nat} (ha : a < 500000001) (hb : b < 500000001) (hc : c ≤ 1) : (if nI 0 < nI a - nI b - nI c then nI a - nI b - nI c else nI 0) = nI (a - b - c) := by
  rw [n_subI, nI_iI c, i_sub, show nI 0 = iI 0 by decide]
  by_cases q : (0 : Int) < (a : Int) - b - c
  · rw [if_pos ((i_lt (by omega) (by omega) (by omega) (by omega)).mpr q), nI_iI]
    congr 1
    omega
  · rw [if_neg (fun z => q ((i_lt (by omega) (by omega) (by omega) (by omega)).mp z)), show a - b - c = 0 by omega]
    rfl
theorem max_2 {a b : Nat} (ha : a < 500000001) (hb : b < 500000001) : (if nI 0 < nI a - nI b then nI a - nI b else nI 0) = nI (a - b) := by
  have := max_1 (c := 0) ha hb (by omega)
  rw [show nI a - nI b - nI 0 = nI a - nI b by rw [show nI 0 = 0 from rfl, Int32.sub_zero], Nat.sub_zero] at this
  exact this
theorem maxx {a b : Nat} (ha : a < 2147483648) (hb : b < 2147483648) : (if nI a < nI b then nI b else nI a) = nI (max a b) := by
  by_cases h : a < b
  · rw [if_pos ((n_lt ha hb).mpr h), Nat.max_eq_right (by omega)]
  · rw [if_neg (fun q => h ((n_lt ha hb).mp q)), Nat.max_eq_left (by omega)]
def S_X9_shared (v : Nat) (h : AH) (K : Int32 → AH → Prop) : Prop := ∃ V, CV h v V ∧ (∀ n, n < 4 → V 3 n < 500000000) ∧ K (nI (max (ov (V 3)) (la (V 3)))) h
def T_X9_shared : List AV → AH → (Int32 → AH → Prop) → Prop := fun as h K => match as with
  | [.inr (.inr (.inl q0))] => tif (Nat.beq q0.1 1) (S_X9_shared q0.2 h K)
  | _ => False

def M_X9_shared : MI := (RX9, cX9_shared, 5, [(0, .aload_n 0, []), (1, .getfield 21, []), (4, .iconst 4, []), (5, .invokestatic 133, []), (8, .iconst 4, []), (9, .idiv, []), (10, .istore_n 1, []), (11, .iconst 0, []), (12, .istore_n 2, []), (13, .iconst 0, []), (14, .istore_n 3, []), (15, .iconst 0, []), (16, .istore 4, []), (18, .iload 4, []), (20, .iconst 4, []), (21, .if_icmp .ge 43, [64]), (24, .iload_n 2, []), (25, .iconst 0, []), (26, .aload_n 0, []), (27, .getfield 21, []), (30, .iload 4, []), (32, .iaload, []), (33, .iload_n 1, []), (34, .isub, []), (35, .iconst 1, []), (36, .isub, []), (37, .invokestatic 113, []), (40, .iadd, []), (41, .istore_n 2, []), (42, .iload_n 3, []), (43, .iconst 0, []), (44, .iload_n 1, []), (45, .aload_n 0, []), (46, .getfield 21, []), (49, .iload 4, []), (51, .iaload, []), (52, .isub, []), (53, .invokestatic 113, []), (56, .iadd, []), (57, .istore_n 3, []), (58, .iinc 4 1, []), (61, .goto (-43), [18]), (64, .iload_n 2, []), (65, .iload_n 3, []), (66, .invokestatic 113, []), (69, .ireturn, [])], [(21, (1, 3, 1, 5, 0))], [], [], [(400, (2, 1, 23, 0, 0, .inl T_X10_sum)), (340, (2, 1, 21, 0, 0, .inl T_max))], 1, 23, 0, 0)
theorem ok_X9_shared : MOK M_X9_shared := ⟨by decide +kernel, List.forall_mem_cons.mpr ⟨fl_RX9_21, fun _ h => absurd h List.not_mem_nil⟩, fun _ h => absurd h List.not_mem_nil, fun _ h => absurd h List.not_mem_nil, List.forall_mem_cons.mpr ⟨⟨Nat.le_of_ble_eq_true rfl, Nat.le_of_ble_eq_true rfl, cr_RX9_400⟩, List.forall_mem_cons.mpr ⟨⟨Nat.le_of_ble_eq_true rfl, Nat.le_of_ble_eq_true rfl, cr_RX9_340⟩, fun _ h => absurd h List.not_mem_nil⟩⟩⟩
set_option maxRecDepth 100000 in
theorem vc_X9_shared {K : Int32 → AH → Prop} {h : AH} (p0 : Nat) (H : S_X10_sum 5 p0 (nI 4) h (fun x2 h1 => (¬ (nI 4) = 0) ∧ AW M_X9_shared (.inl K) 18 [some (aR 1 p0), some (aI (x2 / (nI 4))), some (aI (nI 0)), some (aI (nI 0)), some (aI (nI 0))] [] h1 0 0)) : AW M_X9_shared (.inl K) 0 [some (aR 1 p0), none, none, none, none] [] h 0 0 := AW_go (cuts := [(18, [true, true, true, true, true])]) ok_X9_shared 400 H
set_option maxRecDepth 100000 in
theorem vc_X9_shared_18 {K : Int32 → AH → Prop} {h : AH}  (l0 : Nat) (l1 : Int32) (l2 : Int32) (l3 : Int32) (l4 : Int32) (H : (((nI 4) ≤ l4) → K (if l2 < l3 then l3 else l2) h) ∧ (¬ ((nI 4) ≤ l4) → inR l4 4 ∧ inR l4 4 ∧ AW M_X9_shared (.inl K) 18 [some (aR 1 l0), some (aI l1), some (aI (l2 + (if (nI 0) < (((h.1 5 l0 l4.toNatClampNeg) - l1) - (nI 1)) then (((h.1 5 l0 l4.toNatClampNeg) - l1) - (nI 1)) else (nI 0)))), some (aI (l3 + (if (nI 0) < (l1 - (h.1 5 l0 l4.toNatClampNeg)) then (l1 - (h.1 5 l0 l4.toNatClampNeg)) else (nI 0)))), some (aI (l4 + (nI 1)))] [] h 0 0)) : AW M_X9_shared (.inl K) 18 [some (aR 1 l0), some (aI l1), some (aI l2), some (aI l3), some (aI l4)] [] h 0 0 := AW_go (cuts := [(18, [true, true, true, true, true])]) ok_X9_shared 400 H

theorem lp_X9_shared {v : Nat} {V : Vm} {h : AH} {K : Int32 → AH → Prop} (cv : CV h v V) (hb : ∀ n, n < 4 → V 3 n < 500000000) (k : K (nI (max (ov (V 3)) (la (V 3)))) h) : ∀ r i, i + r = 4 → AW M_X9_shared (.inl K) 18 [some (aR 1 v), some (aI (nI (sm (V 3) 4 / 4))), some (aI (nI (sm (fun n => V 3 n - sm (V 3) 4 / 4 - 1) i))), some (aI (nI (sm (fun n => sm (V 3) 4 / 4 - V 3 n) i))), some (aI (nI i))] [] h 0 0 := by
  obtain ⟨-, -, -, e3, -⟩ := CVs cv
  have hs : sm (V 3) 4 ≤ 499999999 * 4 := sm_le 4 (fun i hi => by have := hb i hi; omega)
  intro r
  induction r with
  | zero =>
    intro i hi
    refine vc_X9_shared_18 v _ _ _ (nI i) ?_
    have : i = 4 := by omega
    subst this
    have l1 : sm (fun n => V 3 n - sm (V 3) 4 / 4 - 1) 4 ≤ 499999999 * 4 := sm_le 4 (fun i hi => by have := hb i hi; omega)
    have l2 : sm (fun n => sm (V 3) 4 / 4 - V 3 n) 4 ≤ 499999999 * 4 := sm_le 4 (fun i hi => by omega)
    rw [maxx (by omega) (by omega)]
    exact ⟨fun _ => k, fun q => absurd (Int32.le_refl _) q⟩
  | succ r ih =>
    intro i hi
    refine vc_X9_shared_18 v _ _ _ (nI i) ?_
    have ih := ih (i + 1) (by omega)
    have := hb i (by omega)
    rw [sm, sm] at ih
    simp (disch := omega) only [n_le, n_inT, n_cl, true_and, e3, nI_add, max_1, max_2]
    exact ⟨fun q => by omega, fun _ => ih⟩
theorem snd_X9_shared (v : Nat) {h : AH} {K : Int32 → AH → Prop} (k : S_X9_shared v h K) : AW M_X9_shared (.inl K) 0 [some (aR 1 v), none, none, none, none] [] h 0 0 := by
  obtain ⟨V, cv, hb, k⟩ := k
  have e3 := (CVs cv).2.2.2.1
  have hs : sm (V 3) 4 ≤ 499999999 * 4 := sm_le 4 (fun i hi => by have := hb i hi; omega)
  refine vc_X9_shared v ⟨4, V 3, by omega, rfl, by decide, fun i hi => e3 i hi, ?_⟩
  (try dsimp only)
  rw [n_div (show sm (V 3) 4 < 2147483648 by omega) (by omega) (by omega)]
  exact ⟨by decide, lp_X9_shared cv hb k 4 0 (by omega)⟩
theorem tr_X9_shared : ∀ (as : List AV) (h : AH) (K : Int32 → AH → Prop), T_X9_shared as h K → ∃ (q : Nat) (r : List AV), as = aR 1 q :: r := by
  intro as h K hk
  match as, hk with
  | [.inr (.inr (.inl q0))], hk =>
    obtain ⟨hb, hk⟩ := tif_inv hk
    have e0 := hb
    obtain ⟨a0, b0⟩ := q0
    have f0 : a0 = 1 := Nat.eq_of_beq_eq_true e0
    subst f0
    exact ⟨_, _, rfl⟩
theorem tw_X9_shared : ∀ (as : List AV) (h : AH) (K : Int32 → AH → Prop), T_X9_shared as h K → (ini as).length ≤ mNL M_X9_shared ∧ AW M_X9_shared (.inl K) 0 (initL (mNL M_X9_shared) as) [] h 0 0 := by
  intro as h K hk
  match as, hk with
  | [.inr (.inr (.inl q0))], hk =>
    obtain ⟨hb, hk⟩ := tif_inv hk
    have e0 := hb
    obtain ⟨a0, b0⟩ := q0
    have f0 : a0 = 1 := Nat.eq_of_beq_eq_true e0
    subst f0
    exact ⟨Nat.le_of_ble_eq_true rfl, snd_X9_shared b0 hk⟩
theorem cr_RX10_633 : CR RX10 (kIns 633) (1, 2, 47, 0, 0, .inl T_X9_shared) := crV_i (t := 1) (M := M_X9_shared) (by decide) rfl (by decide) rfl (inG (i := 693) (w := Cond.methodLink RX10 211 yX9_shared) (by decide +kernel) rfl) (inG (i := 694) (w := Cond.instanceMethod yX9_shared) (by decide +kernel) rfl) (inG (i := 38) (w := Cond.initialized RX9) (by decide +kernel) rfl) (inG (i := 695) (w := Cond.selects RX9 yX9_shared yX9_shared) (by decide +kernel) rfl) (inG (i := 696) (w := Cond.code yX9_shared cX9_shared 5 (some .int)) (by decide +kernel) rfl) ⟨by decide +kernel, by decide +kernel, by decide +kernel⟩ tr_X9_shared tw_X9_shared


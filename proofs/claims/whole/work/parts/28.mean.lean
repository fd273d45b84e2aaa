/-! ===== the reference: means ===== -/
theorem L_to {n : Nat} (h : n < 4294967296) : (Int64.ofNat n).toInt = n := lg_ofNat_toInt (by omega)
theorem L_eq {a b : Nat} (ha : a < 4294967296) (hb : b < 4294967296) : Int64.ofNat a = Int64.ofNat b ↔ a = b := by
  rw [← Int64.toInt_inj, L_to ha, L_to hb]; omega
theorem L_eq0 {a : Nat} (ha : a < 4294967296) : Int64.ofNat a = 0 ↔ a = 0 := L_eq (b := 0) ha (by omega)
theorem L_cmp {a : Nat} (ha : a < 4294967296) : lg_cmp (Int64.ofNat a) (Int64.ofNat 0) = 0 ↔ a = 0 := by rw [lg_cmp_eq]; exact L_eq ha (by omega)
theorem L_div {a d : Nat} (ha : a < 4294967296) (h0 : 0 < d) (hd : d < 4294967296) : Int64.ofNat a / Int64.ofNat d = Int64.ofNat (a / d) := by
  have hq : a / d ≤ a := Nat.div_le_self a d
  rw [← Int64.toInt_inj, lg_ldiv_nonneg (by rw [L_to ha]; omega) (by rw [L_to hd]; omega), L_to ha, L_to hd, L_to (by omega)]
  exact (Int.natCast_ediv a d).symm
theorem L_rem {a d : Nat} (ha : a < 4294967296) (h0 : 0 < d) (hd : d < 4294967296) : Int64.ofNat a - Int64.ofNat a / Int64.ofNat d * Int64.ofNat d = Int64.ofNat (a % d) := by
  rw [L_div ha h0 hd, ← Int64.ofNat_mul, ← Int64.ofNat_sub]
  · congr 1
    have := Nat.mod_add_div a d
    rw [Nat.mul_comm] at this
    omega
  · exact Nat.div_mul_le_self a d
theorem L_n {a : Nat} (ha : a < 2147483648) : (nI a).toInt64 = Int64.ofNat a := by
  rw [← Int64.toInt_inj, Int32.toInt_toInt64, L_to (by omega)]
  exact n_toInt ha
def S_X11_gcd (p q : Int64) (h : AH) (K : Int64 → AH → Prop) : Prop := ∃ a b, a < 4294967296 ∧ b < 4294967296 ∧ p = Int64.ofNat a ∧ q = Int64.ofNat b ∧ K (Int64.ofNat (Nat.gcd a b)) h
def T_X11_gcd : List AV → AH → (Int64 → AH → Prop) → Prop := fun as h K => match as with
  | [.inr (.inl q0), .inr (.inl q1)] => S_X11_gcd q0 q1 h K
  | _ => False

def M_X11_gcd : MI := (RX11, cX11_gcd, 10, [(0, .lload_n 0, []), (1, .lstore 4, []), (3, .lload_n 2, []), (4, .lstore 6, []), (6, .lload 6, []), (8, .lconst 0, []), (9, .lcmp, []), (10, .ifCond .eq 21, [31]), (13, .lload 4, []), (15, .lload 6, []), (17, .lrem, []), (18, .lstore 8, []), (20, .lload 6, []), (22, .lstore 4, []), (24, .lload 8, []), (26, .lstore 6, []), (28, .goto (-22), [6]), (31, .lload 4, []), (33, .lreturn, [])], [], [], [], [], 0, 0, 0, 0)
theorem ok_X11_gcd : MOK M_X11_gcd := ⟨by decide +kernel, fun _ h => absurd h List.not_mem_nil, fun _ h => absurd h List.not_mem_nil, fun _ h => absurd h List.not_mem_nil, fun _ h => absurd h List.not_mem_nil⟩
set_option maxRecDepth 100000 in
theorem vc_X11_gcd {K : Int64 → AH → Prop} {h : AH} (p0 : Int64) (p1 : Int64) (H : AW M_X11_gcd (.inr (.inr (.inl K))) 6 [none, none, none, none, some (aL p0), none, some (aL p1), none, none, none] [] h 0 0) : AW M_X11_gcd (.inr (.inr (.inl K))) 0 [some (aL p0), none, some (aL p1), none, none, none, none, none, none, none] [] h 0 0 := AW_go (cuts := [(6, [false, false, false, false, true, false, true, false, false, false])]) ok_X11_gcd 400 H
set_option maxRecDepth 100000 in
theorem vc_X11_gcd_6 {K : Int64 → AH → Prop} {h : AH}  (l4 : Int64) (l6 : Int64) (H : (((lg_cmp l6 (Int64.ofNat 0)) = 0) → K l4 h) ∧ (¬ ((lg_cmp l6 (Int64.ofNat 0)) = 0) → (¬ l6 = 0) ∧ AW M_X11_gcd (.inr (.inr (.inl K))) 6 [none, none, none, none, some (aL l6), none, some (aL (l4 - l4 / l6 * l6)), none, none, none] [] h 0 0)) : AW M_X11_gcd (.inr (.inr (.inl K))) 6 [none, none, none, none, some (aL l4), none, some (aL l6), none, none, none] [] h 0 0 := AW_go (cuts := [(6, [false, false, false, false, true, false, true, false, false, false])]) ok_X11_gcd 400 H

theorem lp_X11_gcd {h : AH} {K : Int64 → AH → Prop} : ∀ f b a, b ≤ f → a < 4294967296 → b < 4294967296 → K (Int64.ofNat (Nat.gcd a b)) h → AW M_X11_gcd (.inr (.inr (.inl K))) 6 [none, none, none, none, some (aL (Int64.ofNat a)), none, some (aL (Int64.ofNat b)), none, none, none] [] h 0 0 := by
  intro f
  induction f with
  | zero =>
    intro b a hb ha hb2 k
    have : b = 0 := Nat.eq_zero_of_le_zero hb
    subst this
    refine vc_X11_gcd_6 _ _ ⟨fun _ => ?_, fun q => absurd (by decide) q⟩
    rw [Nat.gcd_zero_right] at k
    exact k
  | succ f ih =>
    intro b a hb ha hb2 k
    refine vc_X11_gcd_6 _ _ ?_
    rw [L_cmp hb2, L_eq0 hb2]
    refine ⟨fun q => ?_, fun q => ⟨q, ?_⟩⟩
    · subst q
      rw [Nat.gcd_zero_right] at k
      exact k
    · rw [L_rem ha (by omega) hb2]
      have hm := Nat.mod_lt a (show b > 0 by omega)
      refine ih (a % b) b (by omega) hb2 (by omega) ?_
      rw [Nat.gcd_comm, ← Nat.gcd_rec, Nat.gcd_comm]
      exact k
theorem snd_X11_gcd (p q : Int64) {h : AH} {K : Int64 → AH → Prop} (k : S_X11_gcd p q h K) : AW M_X11_gcd (.inr (.inr (.inl K))) 0 [some (aL p), none, some (aL q), none, none, none, none, none, none, none] [] h 0 0 := by
  obtain ⟨a, b, ha, hb, rfl, rfl, k⟩ := k
  exact vc_X11_gcd _ _ (lp_X11_gcd b b a (Nat.le_refl _) ha hb k)
theorem tw_X11_gcd : ∀ (as : List AV) (h : AH) (K : Int64 → AH → Prop), T_X11_gcd as h K → (ini as).length ≤ mNL M_X11_gcd ∧ AW M_X11_gcd (.inr (.inr (.inl K))) 0 (initL (mNL M_X11_gcd) as) [] h 0 0 := by
  intro as h K hk
  match as, hk with
  | [.inr (.inl q0), .inr (.inl q1)], hk =>
    exact ⟨Nat.le_of_ble_eq_true rfl, snd_X11_gcd q0 q1 hk⟩
theorem cr_RX11_610 : CR RX11 (kIns 610) (2, 1, 29, 0, 0, .inr (.inr (.inl T_X11_gcd))) := crS_l (M := M_X11_gcd) (by decide) rfl (inG (i := 1235) (w := Cond.methodLink RX11 203 yX11_gcd) (by decide +kernel) rfl) (inG (i := 1236) (w := Cond.static yX11_gcd) (by decide +kernel) rfl) (inG (i := 40) (w := Cond.initialized RX11) (by decide +kernel) rfl) (inG (i := 1237) (w := Cond.code yX11_gcd cX11_gcd 10 (some .long)) (by decide +kernel) rfl) ⟨by decide +kernel, by decide +kernel, by decide +kernel⟩ tw_X11_gcd

/-- one part of a fraction in lowest terms -/
def pOf (a b : Nat) (w : Int32) : Int64 := if a = 0 then w.toInt64 else if w = 0 then Int64.ofNat (a / Nat.gcd a b) else Int64.ofNat (b / Nat.gcd a b)
def S_X11_partOf (p q : Int64) (w : Int32) (h : AH) (K : Int64 → AH → Prop) : Prop := ∃ a b, a < 4294967296 ∧ 0 < b ∧ b < 4294967296 ∧ p = Int64.ofNat a ∧ q = Int64.ofNat b ∧ K (pOf a b w) h
def T_X11_partOf : List AV → AH → (Int64 → AH → Prop) → Prop := fun as h K => match as with
  | [.inr (.inl q0), .inr (.inl q1), .inl q2] => S_X11_partOf q0 q1 q2 h K
  | _ => False

def M_X11_partOf : MI := (RX11, cX11_partOf, 5, [(0, .lload_n 0, []), (1, .lconst 0, []), (2, .lcmp, []), (3, .ifCond .ne 7, [10]), (6, .iload 4, []), (8, .i2l, []), (9, .lreturn, []), (10, .iload 4, []), (12, .ifCond .ne 7, [19]), (15, .lload_n 0, []), (16, .goto 4, [20]), (19, .lload_n 2, []), (20, .lload_n 0, []), (21, .lload_n 2, []), (22, .invokestatic 203, []), (25, .ldiv, []), (26, .lreturn, [])], [], [], [], [(610, (2, 1, 29, 0, 0, .inr (.inr (.inl T_X11_gcd))))], 1, 29, 0, 0)
theorem ok_X11_partOf : MOK M_X11_partOf := ⟨by decide +kernel, fun _ h => absurd h List.not_mem_nil, fun _ h => absurd h List.not_mem_nil, fun _ h => absurd h List.not_mem_nil, List.forall_mem_cons.mpr ⟨⟨Nat.le_of_ble_eq_true rfl, Nat.le_of_ble_eq_true rfl, cr_RX11_610⟩, fun _ h => absurd h List.not_mem_nil⟩⟩
set_option maxRecDepth 100000 in
theorem vc_X11_partOf {K : Int64 → AH → Prop} {h : AH} (p0 : Int64) (p1 : Int64) (p2 : Int32) (H : ((¬ (lg_cmp p0 (Int64.ofNat 0)) = 0) → ((¬ p2 = 0) → S_X11_gcd p0 p1 h (fun x2 h1 => (¬ x2 = 0) ∧ K (p1 / x2) h1)) ∧ (¬ (¬ p2 = 0) → S_X11_gcd p0 p1 h (fun x4 h3 => (¬ x4 = 0) ∧ K (p0 / x4) h3))) ∧ (¬ (¬ (lg_cmp p0 (Int64.ofNat 0)) = 0) → K p2.toInt64 h)) : AW M_X11_partOf (.inr (.inr (.inl K))) 0 [some (aL p0), none, some (aL p1), none, some (aI p2)] [] h 0 0 := AW_go (cuts := []) ok_X11_partOf 400 H

theorem snd_X11_partOf (p q : Int64) (w : Int32) {h : AH} {K : Int64 → AH → Prop} (k : S_X11_partOf p q w h K) : AW M_X11_partOf (.inr (.inr (.inl K))) 0 [some (aL p), none, some (aL q), none, some (aI w)] [] h 0 0 := by
  obtain ⟨a, b, ha, hb0, hb, rfl, rfl, k⟩ := k
  refine vc_X11_partOf _ _ w ?_
  rw [L_cmp ha]
  have hg : 0 < Nat.gcd a b := Nat.gcd_pos_of_pos_right a hb0
  have hg2 : Nat.gcd a b ≤ b := Nat.gcd_le_right a hb0
  unfold pOf at k
  refine ⟨fun q => ⟨fun q2 => ⟨a, b, ha, hb, rfl, rfl, ?_⟩, fun q2 => ⟨a, b, ha, hb, rfl, rfl, ?_⟩⟩, fun q => ?_⟩
  · rw [if_neg q, if_neg q2] at k
    rw [L_eq0 (by omega), L_div hb hg (by omega)]
    exact ⟨by omega, k⟩
  · rw [if_neg q, if_pos (Decidable.not_not.mp q2)] at k
    rw [L_eq0 (by omega), L_div ha hg (by omega)]
    exact ⟨by omega, k⟩
  · rw [if_pos (Decidable.not_not.mp q)] at k
    exact k
theorem tw_X11_partOf : ∀ (as : List AV) (h : AH) (K : Int64 → AH → Prop), T_X11_partOf as h K → (ini as).length ≤ mNL M_X11_partOf ∧ AW M_X11_partOf (.inr (.inr (.inl K))) 0 (initL (mNL M_X11_partOf) as) [] h 0 0 := by
  intro as h K hk
  match as, hk with
  | [.inr (.inl q0), .inr (.inl q1), .inl q2], hk =>
    exact ⟨Nat.le_of_ble_eq_true rfl, snd_X11_partOf q0 q1 q2 hk⟩
theorem cr_RX11_628 : CR RX11 (kIns 628) (3, 2, 53, 0, 0, .inr (.inr (.inl T_X11_partOf))) := crS_l (M := M_X11_partOf) (by decide) rfl (inG (i := 1232) (w := Cond.methodLink RX11 209 yX11_partOf) (by decide +kernel) rfl) (inG (i := 1233) (w := Cond.static yX11_partOf) (by decide +kernel) rfl) (inG (i := 40) (w := Cond.initialized RX11) (by decide +kernel) rfl) (inG (i := 1234) (w := Cond.code yX11_partOf cX11_partOf 5 (some .long)) (by decide +kernel) rfl) ⟨by decide +kernel, by decide +kernel, by decide +kernel⟩ tw_X11_partOf

theorem brs_le {V : Vm} {s : Nat} (hv : WF V) (hs : s < V 10 1) : ∀ i, i ≤ 8 → sm (fun c => brg V s c) i ≤ 54 * i
  | 0, _ => Nat.le_refl _
  | i + 1, hi => by
    have := brs_le hv hs i (by omega)
    have h1 : brg V s i ≤ 54 := brg_le hv hs (by omega)
    unfold sm
    omega
def R_mean (V : Vm) (a w : Int32) : Int64 := if ¬ shp V a then 1000000001 else if ¬ (nI 0 ≤ w ∧ w ≤ nI 1) then 1000000001 else pOf (sm (fun c => brg V (nN a) c) (vFl V (nN a) + 1)) (vFl V (nN a) + 1) w
def S_X11_mean (a w : Int32) (h : AH) (K : Int64 → AH → Prop) : Prop := ∃ V, RV (h.1 16 0) V ∧ WF V ∧ ∀ h', keepM h h' → K (R_mean V a w) h'
def T_X11_mean : List AV → AH → (Int64 → AH → Prop) → Prop := fun as h K => match as with
  | [.inr (.inr (.inl q0)), .inl q1, .inl q2] => tif (Nat.beq q0.1 15 && Nat.beq q0.2 0) (S_X11_mean q1 q2 h K)
  | _ => False

def M_X11_mean : MI := (RX11, cX11_mean, 6, [(0, .aload_n 0, []), (1, .iload_n 1, []), (2, .invokevirtual 132, []), (5, .ifCond .eq 12, [17]), (8, .iload_n 2, []), (9, .iconst 0, []), (10, .iconst 1, []), (11, .invokestatic 53, []), (14, .ifCond .ne 7, [21]), (17, .ldc2_w 207, []), (20, .lreturn, []), (21, .lconst 0, []), (22, .lstore_n 3, []), (23, .iconst 0, []), (24, .istore 5, []), (26, .iload 5, []), (28, .aload_n 0, []), (29, .getfield 9, []), (32, .iload_n 1, []), (33, .invokestatic 135, []), (36, .if_icmp .gt 24, [60]), (39, .lload_n 3, []), (40, .aload_n 0, []), (41, .aload_n 0, []), (42, .getfield 9, []), (45, .iload_n 1, []), (46, .iload 5, []), (48, .invokevirtual 168, []), (51, .i2l, []), (52, .ladd, []), (53, .lstore_n 3, []), (54, .iinc 5 1, []), (57, .goto (-31), [26]), (60, .lload_n 3, []), (61, .aload_n 0, []), (62, .getfield 9, []), (65, .iload_n 1, []), (66, .invokestatic 135, []), (69, .iconst 1, []), (70, .iadd, []), (71, .i2l, []), (72, .iload_n 2, []), (73, .invokestatic 209, []), (76, .lreturn, [])], [(9, (15, 0, 1, 16, 0))], [], [(207, 1000000001)], [(396, (2, 2, 43, 0, 0, .inl T_X11_isSheep)), (160, (3, 1, 22, 0, 0, .inl T_X11_isIn)), (406, (2, 2, 42, 0, 0, .inl T_X11_flies)), (504, (4, 6, 139, 0, 0, .inl T_X11_broughtBy)), (628, (3, 2, 53, 0, 0, .inr (.inr (.inl T_X11_partOf))))], 6, 139, 0, 0)
theorem ok_X11_mean : MOK M_X11_mean := ⟨by decide +kernel, List.forall_mem_cons.mpr ⟨fl_RX11_9, fun _ h => absurd h List.not_mem_nil⟩, fun _ h => absurd h List.not_mem_nil, List.forall_mem_cons.mpr ⟨(inG (i := 1231) (w := Cond.constantLong RX11 207 1000000001) (by decide +kernel) rfl), fun _ h => absurd h List.not_mem_nil⟩, List.forall_mem_cons.mpr ⟨⟨Nat.le_of_ble_eq_true rfl, Nat.le_of_ble_eq_true rfl, cr_RX11_396⟩, List.forall_mem_cons.mpr ⟨⟨Nat.le_of_ble_eq_true rfl, Nat.le_of_ble_eq_true rfl, cr_RX11_160⟩, List.forall_mem_cons.mpr ⟨⟨Nat.le_of_ble_eq_true rfl, Nat.le_of_ble_eq_true rfl, cr_RX11_406⟩, List.forall_mem_cons.mpr ⟨⟨Nat.le_of_ble_eq_true rfl, Nat.le_of_ble_eq_true rfl, cr_RX11_504⟩, List.forall_mem_cons.mpr ⟨⟨Nat.le_of_ble_eq_true rfl, Nat.le_of_ble_eq_true rfl, cr_RX11_628⟩, fun _ h => absurd h List.not_mem_nil⟩⟩⟩⟩⟩⟩
set_option maxRecDepth 100000 in
theorem vc_X11_mean {K : Int64 → AH → Prop} {h : AH} (p1 : Int32) (p2 : Int32) (H : S_X11_isSheep p1 h (fun x2 h1 => ((x2 = 0) → K (1000000001 : Int64) h1) ∧ (¬ (x2 = 0) → S_X11_isIn p2 (nI 0) (nI 1) h1 (fun x4 h3 => ((¬ x4 = 0) → AW M_X11_mean (.inr (.inr (.inl K))) 26 [some (aR 15 0), some (aI p1), some (aI p2), some (aL (Int64.ofNat 0)), none, some (aI (nI 0))] [] h3 0 0) ∧ (¬ (¬ x4 = 0) → K (1000000001 : Int64) h3))))) : AW M_X11_mean (.inr (.inr (.inl K))) 0 [some (aR 15 0), some (aI p1), some (aI p2), none, none, none] [] h 0 0 := AW_go (cuts := [(26, [true, true, true, true, false, true])]) ok_X11_mean 400 H
set_option maxRecDepth 100000 in
theorem vc_X11_mean_26 {K : Int64 → AH → Prop} {h : AH}  (l1 : Int32) (l2 : Int32) (l3 : Int64) (l5 : Int32) (H : S_X11_flies 0 l1 h (fun x2 h1 => ((x2 < l5) → S_X11_flies 0 l1 h1 (fun x4 h3 => S_X11_partOf l3 ((x4 + (nI 1)).toInt64) l2 h3 (fun x6 h5 => K x6 h5))) ∧ (¬ (x2 < l5) → S_X11_broughtBy 0 l1 l5 h1 (fun x8 h7 => AW M_X11_mean (.inr (.inr (.inl K))) 26 [some (aR 15 0), some (aI l1), some (aI l2), some (aL (l3 + x8.toInt64)), none, some (aI (l5 + (nI 1)))] [] h7 0 0)))) : AW M_X11_mean (.inr (.inr (.inl K))) 26 [some (aR 15 0), some (aI l1), some (aI l2), some (aL l3), none, some (aI l5)] [] h 0 0 := AW_go (cuts := [(26, [true, true, true, true, false, true])]) ok_X11_mean 400 H

theorem lp_X11_mean {V : Vm} {n : Nat} {w : Int32} {h0 : AH} {K : Int64 → AH → Prop} (hr : RV (h0.1 16 0) V) (hv : WF V) (hn : n < V 10 1) (k : ∀ h', keepM h0 h' → K (pOf (sm (fun c => brg V n c) (vFl V n + 1)) (vFl V n + 1) w) h') : ∀ r c h, c + r = vFl V n + 1 → keepM h0 h → AW M_X11_mean (.inr (.inr (.inl K))) 26 [some (aR 15 0), some (aI (nI n)), some (aI w), some (aL (Int64.ofNat (sm (fun c => brg V n c) c))), none, some (aI (nI c))] [] h 0 0 := by
  have h7 := hv.2.1
  have hf : vFl V n ≤ 7 := fly_le _
  intro r
  induction r with
  | zero =>
    intro c h hc hk
    have : c = vFl V n + 1 := by omega
    subst this
    have hr1 : RV (h.1 16 0) V := by rw [keepM_r0 hk]; exact hr
    have hs := brs_le hv hn (vFl V n + 1) (by omega)
    refine vc_X11_mean_26 (nI n) w _ _ ⟨V, n, ⟨hr1, hv, hn, rfl⟩, ?_⟩
    dsimp only
    simp (disch := omega) only [n_lt]
    refine ⟨fun _ => ⟨V, n, ⟨hr1, hv, hn, rfl⟩, ?_⟩, fun q => absurd (by omega) q⟩
    dsimp only
    rw [nI_add, L_n (by omega)]
    exact ⟨_, _, by omega, by omega, by omega, rfl, rfl, k h hk⟩
  | succ r ih =>
    intro c h hc hk
    have hr1 : RV (h.1 16 0) V := by rw [keepM_r0 hk]; exact hr
    refine vc_X11_mean_26 (nI n) w _ _ ⟨V, n, ⟨hr1, hv, hn, rfl⟩, ?_⟩
    dsimp only
    simp (disch := omega) only [n_lt]
    refine ⟨fun q => by omega, fun _ => ⟨V, n, c, ⟨hr1, hv, hn, rfl⟩, by omega, rfl, by omega, fun h1 o1 => ?_⟩⟩
    have h1 : brg V n c ≤ 54 := brg_le hv hn (by omega)
    have ih := ih (c + 1) _ (by omega) (keepM_tr hk (keepM_o (by omega) (by omega) o1))
    dsimp only
    rw [L_n (show brg V n c < 2147483648 by omega), ← Int64.ofNat_add, nI_add]
    exact ih
theorem snd_X11_mean (a w : Int32) {h : AH} {K : Int64 → AH → Prop} (k : S_X11_mean a w h K) : AW M_X11_mean (.inr (.inr (.inl K))) 0 [some (aR 15 0), some (aI a), some (aI w), none, none, none] [] h 0 0 := by
  obtain ⟨V, hr, hv, k⟩ := k
  refine vc_X11_mean a w ?_
  have h7 := hv.2.1
  have e1 := (RVs hr).2.2.2.2.2.2.2.2.2.2.2.1
  unfold S_X11_isSheep
  rw [e1]
  unfold S_X11_isIn
  simp only [if10_eq]
  unfold R_mean at k
  refine ⟨fun q => ?_, fun q => ⟨fun q2 => ?_, fun q2 => ?_⟩⟩
  · rw [if_pos q] at k; exact k h (keepM_rfl h)
  · obtain ⟨n, hn, rfl⟩ := (in_iff (by omega)).mp (Decidable.not_not.mp q)
    rw [if_neg (fun z => z ((in_iff (by omega)).mpr ⟨n, hn, rfl⟩)), if_neg q2] at k
    unfold nN at k
    rw [n_cl (show n < 2147483648 by omega)] at k
    exact lp_X11_mean hr hv hn k (vFl V n + 1) 0 h (by omega) (keepM_rfl h)
  · rw [if_neg q, if_pos (fun z => q2 (fun z2 => z2 z))] at k
    exact k h (keepM_rfl h)
theorem tr_X11_mean : ∀ (as : List AV) (h : AH) (K : Int64 → AH → Prop), T_X11_mean as h K → ∃ (q : Nat) (r : List AV), as = aR 15 q :: r := by
  intro as h K hk
  match as, hk with
  | [.inr (.inr (.inl q0)), .inl q1, .inl q2], hk =>
    obtain ⟨hb, hk⟩ := tif_inv hk
    simp only [Bool.and_eq_true] at hb
    obtain ⟨e0, e1⟩ := hb
    obtain ⟨a0, b0⟩ := q0
    have f0 : a0 = 15 := Nat.eq_of_beq_eq_true e0
    subst f0
    have f1 : b0 = 0 := Nat.eq_of_beq_eq_true e1
    subst f1
    exact ⟨_, _, rfl⟩
theorem tw_X11_mean : ∀ (as : List AV) (h : AH) (K : Int64 → AH → Prop), T_X11_mean as h K → (ini as).length ≤ mNL M_X11_mean ∧ AW M_X11_mean (.inr (.inr (.inl K))) 0 (initL (mNL M_X11_mean) as) [] h 0 0 := by
  intro as h K hk
  match as, hk with
  | [.inr (.inr (.inl q0)), .inl q1, .inl q2], hk =>
    obtain ⟨hb, hk⟩ := tif_inv hk
    simp only [Bool.and_eq_true] at hb
    obtain ⟨e0, e1⟩ := hb
    obtain ⟨a0, b0⟩ := q0
    have f0 : a0 = 15 := Nat.eq_of_beq_eq_true e0
    subst f0
    have f1 : b0 = 0 := Nat.eq_of_beq_eq_true e1
    subst f1
    exact ⟨Nat.le_of_ble_eq_true rfl, snd_X11_mean q1 q2 hk⟩


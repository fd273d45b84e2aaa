/-! ===== the bits of a long counted ===== -/
theorem land_s {a b p q : Nat} (ha : a < 256) (hp : p < 256) : (a + 256 * b) &&& (p + 256 * q) = (a &&& p) + 256 * (b &&& q) := by
  have hap : a &&& p < 256 := Nat.lt_of_le_of_lt Nat.and_le_left ha
  apply Nat.eq_of_testBit_eq
  intro j
  rw [Nat.testBit_and, show a + 256 * b = 2 ^ 8 * b + a by omega, show p + 256 * q = 2 ^ 8 * q + p by omega, show (a &&& p) + 256 * (b &&& q) = 2 ^ 8 * (b &&& q) + (a &&& p) by omega, Nat.testBit_two_pow_mul_add _ (by omega), Nat.testBit_two_pow_mul_add _ (by omega), Nat.testBit_two_pow_mul_add _ (by omega)]
  split
  · rw [Nat.testBit_and]
  · rw [Nat.testBit_and]
def bM (p : Nat) : Nat → Nat
  | 0 => 0
  | n + 1 => p + 256 * bM p n
def bY1 (n x : Nat) : Nat := x - ((x / 2) &&& bM 85 n)
def bY2 (n x : Nat) : Nat := (bY1 n x &&& bM 51 n) + ((bY1 n x / 4) &&& bM 51 n)
def bY3 (n x : Nat) : Nat := (bY2 n x + bY2 n x / 16) &&& bM 15 n
def b1 (a : Nat) : Nat := a - ((a / 2) &&& 85)
def b2 (a : Nat) : Nat := (b1 a &&& 51) + ((b1 a / 4) &&& 51)
def b3 (a : Nat) : Nat := (b2 a + b2 a / 16) &&& 15
theorem b_c : ∀ a, a < 256 → (∀ e, e < 2 → (a / 2 + 128 * e) &&& 85 = (a / 2) &&& 85) ∧ (a / 2) &&& 85 ≤ a ∧ b1 a < 256 ∧ b2 a % 16 ≤ 4 ∧ b2 a / 16 ≤ 4 ∧ b3 a = cn a.testBit 8 := by decide +kernel
theorem b_c2 : ∀ a, a < 256 → ∀ e, e < 4 → (a / 4 + 64 * e) &&& 51 = (a / 4) &&& 51 := by decide +kernel
theorem b_c3 : ∀ a, a < 80 → ∀ e, e < 5 → a / 16 ≤ 4 → a % 16 ≤ 4 → (a + a / 16 + 16 * e) &&& 15 = (a + a / 16) &&& 15 := by decide +kernel
theorem bY1_s (n x : Nat) : bY1 (n + 1) x = b1 (x % 256) + 256 * bY1 n (x / 256) := by
  have ha : x % 256 < 256 := Nat.mod_lt _ (by decide)
  obtain ⟨h1, h2, -⟩ := b_c (x % 256) ha
  have h1 := h1 (x / 256 % 2) (Nat.mod_lt _ (by decide))
  have h3 : (x / 256 / 2) &&& bM 85 n ≤ x / 256 / 2 := Nat.and_le_left
  have e : x / 2 = (x % 256 / 2 + 128 * (x / 256 % 2)) + 256 * (x / 256 / 2) := by omega
  unfold bY1 b1
  rw [bM, e, land_s (by omega) (by decide), h1]
  omega
theorem bY2_s (n x : Nat) : bY2 (n + 1) x = b2 (x % 256) + 256 * bY2 n (x / 256) := by
  have ha : x % 256 < 256 := Nat.mod_lt _ (by decide)
  obtain ⟨-, -, h3, -⟩ := b_c (x % 256) ha
  have hs := bY1_s n x
  unfold bY2 b2
  generalize bY1 (n + 1) x = z at hs ⊢
  generalize b1 (x % 256) = a at h3 hs ⊢
  generalize bY1 n (x / 256) = r at hs ⊢
  have e : z / 4 = (a / 4 + 64 * (r % 4)) + 256 * (r / 4) := by omega
  have h4 := b_c2 a h3 (r % 4) (Nat.mod_lt _ (by decide))
  rw [bM, e, hs, land_s h3 (by decide), land_s (by omega) (by decide), h4]
  omega
theorem bY2_16 : ∀ n x, bY2 n x % 16 ≤ 4
  | 0, x => by
    have e : bY2 0 x = 0 := by unfold bY2; rw [bM, Nat.and_zero, Nat.and_zero]
    rw [e]; decide
  | n + 1, x => by
    have ha : x % 256 < 256 := Nat.mod_lt _ (by decide)
    obtain ⟨-, -, -, h4, -⟩ := b_c (x % 256) ha
    rw [bY2_s]
    omega
theorem bY3_s (n x : Nat) : bY3 (n + 1) x = b3 (x % 256) + 256 * bY3 n (x / 256) := by
  have ha : x % 256 < 256 := Nat.mod_lt _ (by decide)
  obtain ⟨-, -, -, h4, h5, -⟩ := b_c (x % 256) ha
  have hs := bY2_s n x
  have h6 := bY2_16 n (x / 256)
  unfold bY3 b3
  generalize bY2 (n + 1) x = z at hs ⊢
  generalize b2 (x % 256) = a at h4 h5 hs ⊢
  generalize bY2 n (x / 256) = r at h6 hs ⊢
  have e : z + z / 16 = (a + a / 16 + 16 * (r % 16)) + 256 * (r + r / 16) := by omega
  have h7 := b_c3 a (by omega) (r % 16) (by omega) h5 h4
  rw [bM, e, land_s (by omega) (by decide), h7]
theorem bY2_le : ∀ n x, bY2 n x ≤ 68 * bM 1 n
  | 0, x => by
    have e : bY2 0 x = 0 := by unfold bY2; rw [bM, Nat.and_zero, Nat.and_zero]
    rw [e]; exact Nat.zero_le _
  | n + 1, x => by
    have ha : x % 256 < 256 := Nat.mod_lt _ (by decide)
    obtain ⟨-, -, -, h4, h5, -⟩ := b_c (x % 256) ha
    have := bY2_le n (x / 256)
    rw [bY2_s, bM]
    omega
def bS : Nat → Nat → Nat
  | 0, _ => 0
  | n + 1, x => b3 (x % 256) + bS n (x / 256)
theorem cn_add (p : Nat → Bool) (a : Nat) : ∀ b, cn p (a + b) = cn p a + cn (fun i => p (a + i)) b
  | 0 => rfl
  | b + 1 => by
    have := cn_add p a b
    show cn p (a + b) + (if p (a + b) = true then 1 else 0) = cn p a + (cn (fun i => p (a + i)) b + (if p (a + b) = true then 1 else 0))
    omega
theorem cn_c {p q : Nat → Bool} : ∀ n, (∀ i, i < n → p i = q i) → cn p n = cn q n
  | 0, _ => rfl
  | n + 1, h => by
    unfold cn
    rw [cn_c n (fun i hi => h i (by omega)), h n (by omega)]
theorem bS_cn : ∀ n x, bS n x = cn x.testBit (8 * n)
  | 0, x => rfl
  | n + 1, x => by
    have ha : x % 256 < 256 := Nat.mod_lt _ (by decide)
    obtain ⟨-, -, -, -, -, h6⟩ := b_c (x % 256) ha
    rw [bS, h6, bS_cn n (x / 256), show 8 * (n + 1) = 8 + 8 * n by omega, cn_add]
    congr 1
    · exact cn_c 8 (fun i hi => by
        have := Nat.testBit_mod_two_pow x 8 i
        rw [show 2 ^ 8 = 256 from rfl] at this
        rw [this, decide_eq_true hi, Bool.true_and])
    · exact cn_c _ (fun i hi => by
        have := Nat.testBit_div_two_pow (n := 8) x i
        rw [show 2 ^ 8 = 256 from rfl] at this
        rw [this, Nat.add_comm])
theorem bS_b3 (a : Nat) : b3 (a % 256) ≤ 8 := by
  obtain ⟨-, -, -, -, -, h6⟩ := b_c (a % 256) (Nat.mod_lt _ (by decide))
  rw [h6]
  exact cn_le _ 8
theorem dv2 (a b t : Nat) (ha : a < 256) (hb : b < 256) : (a + 256 * (b + 256 * t)) / 65536 = t := by omega
theorem dv4 (a b c d t : Nat) (ha : a < 256) (hb : b < 256) (hc : c < 256) (hd : d < 256) : (a + 256 * (b + 256 * (c + 256 * (d + 256 * t)))) / 4294967296 = t := by omega
theorem bA {c0 c1 c2 r0 r1 r2 y3 : Nat} (h0 : c0 ≤ 8) (e3 : y3 = c0 + 256 * r0) (e0 : r0 = c1 + 256 * r1) (e1 : r1 = c2 + 256 * r2) : y3 + y3 / 256 = (c0 + c1) + 256 * ((c1 + c2) + 256 * (r1 + r2)) := by
  have : y3 / 256 = r0 := by omega
  rw [this]
  omega
theorem bB {c2 c3 c4 r1 r2 r3 r4 : Nat} (e1 : r1 = c2 + 256 * r2) (e2 : r2 = c3 + 256 * r3) (e3 : r3 = c4 + 256 * r4) : r1 + r2 = (c2 + c3) + 256 * ((c3 + c4) + 256 * (r3 + r4)) := by omega
theorem bC {p0 p1 p2 p3 t u y4 : Nat} (h0 : p0 ≤ 16) (h1 : p1 ≤ 16) (e4 : y4 = p0 + 256 * (p1 + 256 * t)) (et : t = p2 + 256 * (p3 + 256 * u)) : y4 + y4 / 65536 = (p0 + p2) + 256 * ((p1 + p3) + 256 * (t + u)) := by
  have : y4 / 65536 = t := by rw [e4]; exact dv2 _ _ _ (by omega) (by omega)
  rw [this]
  omega
theorem bD {q0 q1 q2 q3 u y5 s : Nat} (h0 : q0 ≤ 32) (h1 : q1 ≤ 32) (h2 : q2 ≤ 32) (h3 : q3 ≤ 32) (e5 : y5 = q0 + 256 * (q1 + 256 * (q2 + 256 * (q3 + 256 * u)))) (hs : s ≤ 32) (hu : u % 256 = s) : (y5 + y5 / 4294967296) % 256 = q0 + s := by
  have : y5 / 4294967296 = u := by rw [e5]; exact dv4 _ _ _ _ _ (by omega) (by omega) (by omega) (by omega)
  rw [this, e5]
  omega
theorem bEnd {c0 c1 c2 c3 c4 c5 c6 c7 y3 y4 y5 y6 : Nat} (h0 : c0 ≤ 8) (h1 : c1 ≤ 8) (h2 : c2 ≤ 8) (h3 : c3 ≤ 8) (h4 : c4 ≤ 8) (h5 : c5 ≤ 8) (h6 : c6 ≤ 8) (h7 : c7 ≤ 8) (e3 : y3 = c0 + 256 * (c1 + 256 * (c2 + 256 * (c3 + 256 * (c4 + 256 * (c5 + 256 * (c6 + 256 * (c7 + 256 * 0)))))))) (e4 : y4 = y3 + y3 / 256) (e5 : y5 = y4 + y4 / 65536) (e6 : y6 = y5 + y5 / 4294967296) : y6 % 256 = c0 + (c1 + (c2 + (c3 + (c4 + (c5 + (c6 + (c7 + 0))))))) := by
  obtain ⟨r6, k6⟩ : ∃ r, r = c7 + 256 * 0 := ⟨_, rfl⟩
  obtain ⟨r5, k5⟩ : ∃ r, r = c6 + 256 * r6 := ⟨_, rfl⟩
  obtain ⟨r4, k4⟩ : ∃ r, r = c5 + 256 * r5 := ⟨_, rfl⟩
  obtain ⟨r3, k3⟩ : ∃ r, r = c4 + 256 * r4 := ⟨_, rfl⟩
  obtain ⟨r2, k2⟩ : ∃ r, r = c3 + 256 * r3 := ⟨_, rfl⟩
  obtain ⟨r1, k1⟩ : ∃ r, r = c2 + 256 * r2 := ⟨_, rfl⟩
  obtain ⟨r0, k0⟩ : ∃ r, r = c1 + 256 * r1 := ⟨_, rfl⟩
  rw [← k6, ← k5, ← k4, ← k3, ← k2, ← k1, ← k0] at e3
  have f4 := bA h0 e3 k0 k1
  rw [← e4] at f4
  have g1 := bB k1 k2 k3
  have g3 := bB k3 k4 k5
  have f5 := bC (by omega) (by omega) f4 g1
  rw [← e5] at f5
  have f6 : r1 + r2 + (r3 + r4) = (c2 + c3 + (c4 + c5)) + 256 * ((c3 + c4 + (c5 + c6)) + 256 * (r3 + r4 + (r5 + r6))) := by
    clear e3 e4 e5 e6 f4 f5 k0 k1 k2 k3 k4 k5 k6
    omega
  rw [f6] at f5
  have f7 : (r3 + r4 + (r5 + r6)) % 256 = c4 + c5 + c6 + c7 := by
    clear e3 e4 e5 e6 f4 f5 f6 g1 g3 k0 k1 k2
    omega
  have := bD (s := c4 + c5 + c6 + c7) (by omega) (by omega) (by omega) (by omega) f5 (by omega) f7
  rw [e6, this]
  clear e3 e4 e5 e6 f4 f5 f6 f7 g1 g3 k0 k1 k2 k3 k4 k5 k6 this
  omega
theorem bLt {y3 y4 y5 y6 : Nat} (h : y3 ≤ 15 * 72340172838076673) (e4 : y4 = y3 + y3 / 256) (e5 : y5 = y4 + y4 / 65536) (e6 : y6 = y5 + y5 / 4294967296) : y4 < 18446744073709551616 ∧ y5 < 18446744073709551616 ∧ y6 < 18446744073709551616 := by
  have h4 : y4 ≤ 15 * 72340172838076673 + 15 * 72340172838076673 / 256 := by
    clear e5 e6
    have : y3 / 256 ≤ 15 * 72340172838076673 / 256 := Nat.div_le_div_right h
    omega
  have h5 : y5 ≤ 15 * 72340172838076673 + 15 * 72340172838076673 / 256 + (15 * 72340172838076673 + 15 * 72340172838076673 / 256) / 65536 := by
    clear e4 e6 h
    have : y4 / 65536 ≤ (15 * 72340172838076673 + 15 * 72340172838076673 / 256) / 65536 := Nat.div_le_div_right h4
    omega
  clear e4 e5 h
  refine ⟨Nat.lt_of_le_of_lt h4 (by decide), Nat.lt_of_le_of_lt h5 (by decide), ?_⟩
  have : y5 / 4294967296 ≤ (15 * 72340172838076673 + 15 * 72340172838076673 / 256 + (15 * 72340172838076673 + 15 * 72340172838076673 / 256) / 65536) / 4294967296 := Nat.div_le_div_right h5
  rw [e6]
  exact Nat.lt_of_le_of_lt (Nat.add_le_add h5 this) (by decide)
theorem bFin {y s : Nat} (h : y % 256 = s) (hs : s ≤ 64) : y % 4294967296 % 2 ^ 7 = s := by omega
theorem bY3_le : ∀ n x, bY3 n x ≤ 15 * bM 1 n
  | 0, x => by
    have e : bY3 0 x = 0 := by unfold bY3; rw [bM, Nat.and_zero]
    rw [e]; exact Nat.zero_le _
  | n + 1, x => by
    have := bY3_le n (x / 256)
    have h3 : b3 (x % 256) ≤ 8 := bS_b3 x
    rw [bY3_s, bM]
    omega
abbrev uL (x : Int64) : Nat := x.toBitVec.toNat
theorem uL_lt (x : Int64) : uL x < 18446744073709551616 := x.toBitVec.isLt
theorem uL_and (a b : Int64) : uL (a &&& b) = uL a &&& uL b := BitVec.toNat_and ..
theorem uL_add {a b : Int64} (h : uL a + uL b < 18446744073709551616) : uL (a + b) = uL a + uL b := by
  have : uL (a + b) = (uL a + uL b) % 2 ^ 64 := BitVec.toNat_add ..
  rw [this]
  exact Nat.mod_eq_of_lt h
theorem uL_sub {a b : Int64} (h : uL b ≤ uL a) : uL (a - b) = uL a - uL b := by
  have : uL (a - b) = (2 ^ 64 - uL b + uL a) % 2 ^ 64 := BitVec.toNat_sub ..
  have h1 := uL_lt a
  rw [this]
  omega
theorem uL_shr (x : Int64) (s : UInt64) {k : Nat} (h : s.toNat % 64 = k) : uL ((x.toUInt64 >>> s).toInt64) = uL x / 2 ^ k := by
  have : uL ((x.toUInt64 >>> s).toInt64) = x.toUInt64.toNat >>> (s.toNat % 64) := UInt64.toNat_shiftRight ..
  rw [this, h, Nat.shiftRight_eq_div_pow]
  rfl
theorem bStep (x : Int64) (s : UInt64) {k : Nat} (hs : s.toNat % 64 = k) (h : uL x + uL x / 2 ^ k < 18446744073709551616) : uL (x + (x.toUInt64 >>> s).toInt64) = uL x + uL x / 2 ^ k := by
  have h1 := uL_shr x s hs
  rw [uL_add (by rw [h1]; exact h), h1]
theorem bY3_8 (x : Nat) : bY3 8 x = b3 (x % 256) + 256 * (b3 (x / 256 % 256) + 256 * (b3 (x / 256 / 256 % 256) + 256 * (b3 (x / 256 / 256 / 256 % 256) + 256 * (b3 (x / 256 / 256 / 256 / 256 % 256) + 256 * (b3 (x / 256 / 256 / 256 / 256 / 256 % 256) + 256 * (b3 (x / 256 / 256 / 256 / 256 / 256 / 256 % 256) + 256 * (b3 (x / 256 / 256 / 256 / 256 / 256 / 256 / 256 % 256) + 256 * 0))))))) := by
  rw [bY3_s, bY3_s, bY3_s, bY3_s, bY3_s, bY3_s, bY3_s, bY3_s, show ∀ z, bY3 0 z = 0 from fun z => by unfold bY3; rw [bM, Nat.and_zero]]
theorem bS_8 (x : Nat) : cn x.testBit 64 = b3 (x % 256) + (b3 (x / 256 % 256) + (b3 (x / 256 / 256 % 256) + (b3 (x / 256 / 256 / 256 % 256) + (b3 (x / 256 / 256 / 256 / 256 % 256) + (b3 (x / 256 / 256 / 256 / 256 / 256 % 256) + (b3 (x / 256 / 256 / 256 / 256 / 256 / 256 % 256) + (b3 (x / 256 / 256 / 256 / 256 / 256 / 256 / 256 % 256) + 0))))))) := by
  rw [show 64 = 8 * 8 from rfl, ← bS_cn, bS, bS, bS, bS, bS, bS, bS, bS, bS]
def S_J13_bitCount_95d88 (x : Int64) (h : AH) (K : Int32 → AH → Prop) : Prop := K (nI (cn (uL x).testBit 64)) h
def T_J13_bitCount_95d88 : List AV → AH → (Int32 → AH → Prop) → Prop := fun as h K => match as with
  | [.inr (.inl q0)] => S_J13_bitCount_95d88 q0 h K
  | _ => False

def M_J13_bitCount_95d88 : MI := (RJ13, cJ13_bitCount_95d88, 2, [(0, .lload_n 0, []), (1, .lload_n 0, []), (2, .iconst 1, []), (3, .lushr, []), (4, .ldc2_w 314, []), (7, .land, []), (8, .lsub, []), (9, .lstore_n 0, []), (10, .lload_n 0, []), (11, .ldc2_w 316, []), (14, .land, []), (15, .lload_n 0, []), (16, .iconst 2, []), (17, .lushr, []), (18, .ldc2_w 316, []), (21, .land, []), (22, .ladd, []), (23, .lstore_n 0, []), (24, .lload_n 0, []), (25, .lload_n 0, []), (26, .iconst 4, []), (27, .lushr, []), (28, .ladd, []), (29, .ldc2_w 318, []), (32, .land, []), (33, .lstore_n 0, []), (34, .lload_n 0, []), (35, .lload_n 0, []), (36, .bipush 8, []), (38, .lushr, []), (39, .ladd, []), (40, .lstore_n 0, []), (41, .lload_n 0, []), (42, .lload_n 0, []), (43, .bipush 16, []), (45, .lushr, []), (46, .ladd, []), (47, .lstore_n 0, []), (48, .lload_n 0, []), (49, .lload_n 0, []), (50, .bipush 32, []), (52, .lushr, []), (53, .ladd, []), (54, .lstore_n 0, []), (55, .lload_n 0, []), (56, .l2i, []), (57, .bipush 127, []), (59, .iand, []), (60, .ireturn, [])], [], [], [(314, 6148914691236517205), (316, 3689348814741910323), (318, 1085102592571150095)], [], 0, 0, 0, 0)
theorem ok_J13_bitCount_95d88 : MOK M_J13_bitCount_95d88 := ⟨by decide +kernel, fun _ h => absurd h List.not_mem_nil, fun _ h => absurd h List.not_mem_nil, List.forall_mem_cons.mpr ⟨(inG (i := 669) (w := Cond.constantLong RJ13 314 6148914691236517205) (by decide +kernel) rfl), List.forall_mem_cons.mpr ⟨(inG (i := 670) (w := Cond.constantLong RJ13 316 3689348814741910323) (by decide +kernel) rfl), List.forall_mem_cons.mpr ⟨(inG (i := 671) (w := Cond.constantLong RJ13 318 1085102592571150095) (by decide +kernel) rfl), fun _ h => absurd h List.not_mem_nil⟩⟩⟩, fun _ h => absurd h List.not_mem_nil⟩
set_option maxRecDepth 100000 in
theorem vc_J13_bitCount_95d88 {K : Int32 → AH → Prop} {h : AH} (p0 : Int64) (H : AW M_J13_bitCount_95d88 (.inl K) 10 [some (aL (p0 - (((p0.toUInt64 >>> ((nI 1).toInt64.toUInt64 &&& Int64.toUInt64 63)).toInt64) &&& (6148914691236517205 : Int64)))), none] [] h 0 0) : AW M_J13_bitCount_95d88 (.inl K) 0 [some (aL p0), none] [] h 0 0 := AW_go (cuts := [(10, [true, false]), (24, [true, false]), (34, [true, false]), (41, [true, false]), (48, [true, false]), (55, [true, false])]) ok_J13_bitCount_95d88 400 H
set_option maxRecDepth 100000 in
theorem vc_J13_bitCount_95d88_10 {K : Int32 → AH → Prop} {h : AH}  (l0 : Int64) (H : AW M_J13_bitCount_95d88 (.inl K) 24 [some (aL ((l0 &&& (3689348814741910323 : Int64)) + (((l0.toUInt64 >>> ((nI 2).toInt64.toUInt64 &&& Int64.toUInt64 63)).toInt64) &&& (3689348814741910323 : Int64)))), none] [] h 0 0) : AW M_J13_bitCount_95d88 (.inl K) 10 [some (aL l0), none] [] h 0 0 := AW_go (cuts := [(10, [true, false]), (24, [true, false]), (34, [true, false]), (41, [true, false]), (48, [true, false]), (55, [true, false])]) ok_J13_bitCount_95d88 400 H
set_option maxRecDepth 100000 in
theorem vc_J13_bitCount_95d88_24 {K : Int32 → AH → Prop} {h : AH}  (l0 : Int64) (H : AW M_J13_bitCount_95d88 (.inl K) 34 [some (aL ((l0 + ((l0.toUInt64 >>> ((nI 4).toInt64.toUInt64 &&& Int64.toUInt64 63)).toInt64)) &&& (1085102592571150095 : Int64))), none] [] h 0 0) : AW M_J13_bitCount_95d88 (.inl K) 24 [some (aL l0), none] [] h 0 0 := AW_go (cuts := [(10, [true, false]), (24, [true, false]), (34, [true, false]), (41, [true, false]), (48, [true, false]), (55, [true, false])]) ok_J13_bitCount_95d88 400 H
set_option maxRecDepth 100000 in
theorem vc_J13_bitCount_95d88_34 {K : Int32 → AH → Prop} {h : AH}  (l0 : Int64) (H : AW M_J13_bitCount_95d88 (.inl K) 41 [some (aL (l0 + ((l0.toUInt64 >>> ((nI 8).toInt64.toUInt64 &&& Int64.toUInt64 63)).toInt64))), none] [] h 0 0) : AW M_J13_bitCount_95d88 (.inl K) 34 [some (aL l0), none] [] h 0 0 := AW_go (cuts := [(10, [true, false]), (24, [true, false]), (34, [true, false]), (41, [true, false]), (48, [true, false]), (55, [true, false])]) ok_J13_bitCount_95d88 400 H
set_option maxRecDepth 100000 in
theorem vc_J13_bitCount_95d88_41 {K : Int32 → AH → Prop} {h : AH}  (l0 : Int64) (H : AW M_J13_bitCount_95d88 (.inl K) 48 [some (aL (l0 + ((l0.toUInt64 >>> ((nI 16).toInt64.toUInt64 &&& Int64.toUInt64 63)).toInt64))), none] [] h 0 0) : AW M_J13_bitCount_95d88 (.inl K) 41 [some (aL l0), none] [] h 0 0 := AW_go (cuts := [(10, [true, false]), (24, [true, false]), (34, [true, false]), (41, [true, false]), (48, [true, false]), (55, [true, false])]) ok_J13_bitCount_95d88 400 H
set_option maxRecDepth 100000 in
theorem vc_J13_bitCount_95d88_48 {K : Int32 → AH → Prop} {h : AH}  (l0 : Int64) (H : AW M_J13_bitCount_95d88 (.inl K) 55 [some (aL (l0 + ((l0.toUInt64 >>> ((nI 32).toInt64.toUInt64 &&& Int64.toUInt64 63)).toInt64))), none] [] h 0 0) : AW M_J13_bitCount_95d88 (.inl K) 48 [some (aL l0), none] [] h 0 0 := AW_go (cuts := [(10, [true, false]), (24, [true, false]), (34, [true, false]), (41, [true, false]), (48, [true, false]), (55, [true, false])]) ok_J13_bitCount_95d88 400 H
set_option maxRecDepth 100000 in
theorem vc_J13_bitCount_95d88_55 {K : Int32 → AH → Prop} {h : AH}  (l0 : Int64) (H : K (l0.toInt32 &&& (nI 127)) h) : AW M_J13_bitCount_95d88 (.inl K) 55 [some (aL l0), none] [] h 0 0 := AW_go (cuts := [(10, [true, false]), (24, [true, false]), (34, [true, false]), (41, [true, false]), (48, [true, false]), (55, [true, false])]) ok_J13_bitCount_95d88 400 H

theorem snd_J13_bitCount_95d88 (x : Int64) {h : AH} {K : Int32 → AH → Prop} (k : S_J13_bitCount_95d88 x h K) : AW M_J13_bitCount_95d88 (.inl K) 0 [some (aL x), none] [] h 0 0 := by
  unfold S_J13_bitCount_95d88 at k
  have e1 : uL (x - ((x.toUInt64 >>> ((nI 1).toInt64.toUInt64 &&& Int64.toUInt64 63)).toInt64 &&& (6148914691236517205 : Int64))) = bY1 8 (uL x) := by
    have hs := uL_shr x ((nI 1).toInt64.toUInt64 &&& Int64.toUInt64 63) (k := 1) (by decide)
    have hm : uL (6148914691236517205 : Int64) = bM 85 8 := by decide +kernel
    have ha : uL (((x.toUInt64 >>> ((nI 1).toInt64.toUInt64 &&& Int64.toUInt64 63)).toInt64 &&& (6148914691236517205 : Int64))) = (uL x / 2) &&& bM 85 8 := by rw [uL_and, hs, hm]
    have hl : (uL x / 2) &&& bM 85 8 ≤ uL x / 2 := Nat.and_le_left
    rw [uL_sub (by omega), ha]
    rfl
  refine vc_J13_bitCount_95d88 x ?_
  generalize x - ((x.toUInt64 >>> ((nI 1).toInt64.toUInt64 &&& Int64.toUInt64 63)).toInt64 &&& (6148914691236517205 : Int64)) = x1 at e1 ⊢
  have b2l := bY2_le 8 (uL x)
  have b18 : bM 1 8 = 72340172838076673 := by decide +kernel
  rw [b18] at b2l
  have e2 : uL ((x1 &&& (3689348814741910323 : Int64)) + ((x1.toUInt64 >>> ((nI 2).toInt64.toUInt64 &&& Int64.toUInt64 63)).toInt64 &&& (3689348814741910323 : Int64))) = bY2 8 (uL x) := by
    have hs := uL_shr x1 ((nI 2).toInt64.toUInt64 &&& Int64.toUInt64 63) (k := 2) (by decide)
    have hm : uL (3689348814741910323 : Int64) = bM 51 8 := by decide +kernel
    have h1 : uL (x1 &&& (3689348814741910323 : Int64)) = bY1 8 (uL x) &&& bM 51 8 := by rw [uL_and, e1, hm]
    have h2 : uL ((x1.toUInt64 >>> ((nI 2).toInt64.toUInt64 &&& Int64.toUInt64 63)).toInt64 &&& (3689348814741910323 : Int64)) = (bY1 8 (uL x) / 4) &&& bM 51 8 := by rw [uL_and, hs, hm, e1]
    have h3 : bY2 8 (uL x) = (bY1 8 (uL x) &&& bM 51 8) + ((bY1 8 (uL x) / 4) &&& bM 51 8) := rfl
    rw [uL_add (by omega), h1, h2]
    rfl
  refine vc_J13_bitCount_95d88_10 x1 ?_
  generalize (x1 &&& (3689348814741910323 : Int64)) + ((x1.toUInt64 >>> ((nI 2).toInt64.toUInt64 &&& Int64.toUInt64 63)).toInt64 &&& (3689348814741910323 : Int64)) = x2 at e2 ⊢
  have e3 : uL ((x2 + (x2.toUInt64 >>> ((nI 4).toInt64.toUInt64 &&& Int64.toUInt64 63)).toInt64) &&& (1085102592571150095 : Int64)) = bY3 8 (uL x) := by
    have hs := uL_shr x2 ((nI 4).toInt64.toUInt64 &&& Int64.toUInt64 63) (k := 4) (by decide)
    have hm : uL (1085102592571150095 : Int64) = bM 15 8 := by decide +kernel
    rw [uL_and, uL_add (by rw [hs, e2]; omega), hs, hm, e2]
    rfl
  refine vc_J13_bitCount_95d88_24 x2 ?_
  generalize (x2 + (x2.toUInt64 >>> ((nI 4).toInt64.toUInt64 &&& Int64.toUInt64 63)).toInt64) &&& (1085102592571150095 : Int64) = x3 at e3 ⊢
  have b3l := bY3_le 8 (uL x)
  rw [b18, ← e3] at b3l
  have lt := bLt b3l rfl rfl rfl
  have fin := bEnd (bS_b3 (uL x)) (bS_b3 (uL x / 256)) (bS_b3 (uL x / 256 / 256)) (bS_b3 (uL x / 256 / 256 / 256)) (bS_b3 (uL x / 256 / 256 / 256 / 256)) (bS_b3 (uL x / 256 / 256 / 256 / 256 / 256)) (bS_b3 (uL x / 256 / 256 / 256 / 256 / 256 / 256)) (bS_b3 (uL x / 256 / 256 / 256 / 256 / 256 / 256 / 256)) (e3.trans (bY3_8 (uL x))) rfl rfl rfl
  rw [← bS_8] at fin
  have hle := cn_le (uL x).testBit 64
  generalize cn (uL x).testBit 64 = R at k fin hle
  clear b3l b2l e1 e2 b18 e3
  have e4 := bStep x3 ((nI 8).toInt64.toUInt64 &&& Int64.toUInt64 63) (k := 8) (by decide) lt.1
  refine vc_J13_bitCount_95d88_34 x3 ?_
  generalize x3 + (x3.toUInt64 >>> ((nI 8).toInt64.toUInt64 &&& Int64.toUInt64 63)).toInt64 = x4 at e4 ⊢
  rw [show uL x3 + uL x3 / 256 = uL x4 from e4.symm] at lt fin
  have e5 := bStep x4 ((nI 16).toInt64.toUInt64 &&& Int64.toUInt64 63) (k := 16) (by decide) lt.2.1
  refine vc_J13_bitCount_95d88_41 x4 ?_
  generalize x4 + (x4.toUInt64 >>> ((nI 16).toInt64.toUInt64 &&& Int64.toUInt64 63)).toInt64 = x5 at e5 ⊢
  rw [show uL x4 + uL x4 / 65536 = uL x5 from e5.symm] at lt fin
  have e6 := bStep x5 ((nI 32).toInt64.toUInt64 &&& Int64.toUInt64 63) (k := 32) (by decide) lt.2.2
  refine vc_J13_bitCount_95d88_48 x5 ?_
  generalize x5 + (x5.toUInt64 >>> ((nI 32).toInt64.toUInt64 &&& Int64.toUInt64 63)).toInt64 = x6 at e6 ⊢
  rw [show uL x5 + uL x5 / 4294967296 = uL x6 from e6.symm] at fin
  refine vc_J13_bitCount_95d88_55 x6 ?_
  have ht : x6.toInt32.toBitVec.toNat = uL x6 % 4294967296 := by
    show (x6.toBitVec.signExtend 32).toNat = _
    rw [BitVec.signExtend_eq_setWidth_of_le _ (by decide), BitVec.toNat_setWidth]
  rw [pk_and x6.toInt32 (m := nI 127) 7 (by decide), ht, bFin fin hle]
  exact k
theorem tw_J13_bitCount_95d88 : ∀ (as : List AV) (h : AH) (K : Int32 → AH → Prop), T_J13_bitCount_95d88 as h K → (ini as).length ≤ mNL M_J13_bitCount_95d88 ∧ AW M_J13_bitCount_95d88 (.inl K) 0 (initL (mNL M_J13_bitCount_95d88) as) [] h 0 0 := by
  intro as h K hk
  match as, hk with
  | [.inr (.inl q0)], hk =>
    exact ⟨Nat.le_of_ble_eq_true rfl, snd_J13_bitCount_95d88 q0 hk⟩
theorem cr_RX10_1045 : CR RX10 (kIns 1045) (1, 1, 21, 0, 0, .inl T_J13_bitCount_95d88) := crS_i (M := M_J13_bitCount_95d88) (by decide) rfl (inG (i := 666) (w := Cond.methodLink RX10 348 yJ13_bitCount_95d88) (by decide +kernel) rfl) (inG (i := 667) (w := Cond.static yJ13_bitCount_95d88) (by decide +kernel) rfl) (inG (i := 51) (w := Cond.initialized RJ13) (by decide +kernel) rfl) (inG (i := 668) (w := Cond.code yJ13_bitCount_95d88 cJ13_bitCount_95d88 2 (some .int)) (by decide +kernel) rfl) ⟨by decide +kernel, by decide +kernel, by decide +kernel⟩ tw_J13_bitCount_95d88


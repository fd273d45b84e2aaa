/-! ===== the component's valley: what is read ===== -/
def S_X10_drawn (z b : Int32) (h : AH) (K : Int32 → AH → Prop) : Prop := ∃ k, 0 < k ∧ k < 2147483648 ∧ b = nI k ∧ K (nI (dr z k)) h
def T_X10_drawn : List AV → AH → (Int32 → AH → Prop) → Prop := fun as h K => match as with
  | [.inl q0, .inl q1] => S_X10_drawn q0 q1 h K
  | _ => False

def M_X10_drawn : MI := (RX10, cX10_drawn, 2, [(0, .iload_n 1, []), (1, .ifCond .gt 7, [8]), (4, .iconst 0, []), (5, .goto 14, [19]), (8, .iload_n 0, []), (9, .ldc_w 355, []), (12, .iand, []), (13, .ldc_w 356, []), (16, .idiv, []), (17, .iload_n 1, []), (18, .irem, []), (19, .ireturn, [])], [], [(355, 2147483647), (356, 65536)], [], [], 0, 0, 0, 0)
theorem ok_X10_drawn : MOK M_X10_drawn := ⟨by decide +kernel, fun _ h => absurd h List.not_mem_nil, List.forall_mem_cons.mpr ⟨(inG (i := 724) (w := Cond.constant RX10 355 2147483647) (by decide +kernel) rfl), List.forall_mem_cons.mpr ⟨(inG (i := 725) (w := Cond.constant RX10 356 65536) (by decide +kernel) rfl), fun _ h => absurd h List.not_mem_nil⟩⟩, fun _ h => absurd h List.not_mem_nil, fun _ h => absurd h List.not_mem_nil⟩
set_option maxRecDepth 100000 in
theorem vc_X10_drawn {K : Int32 → AH → Prop} {h : AH} (p0 : Int32) (p1 : Int32) (H : ((0 < p1) → (¬ (65536 : Int32) = 0) ∧ (¬ p1 = 0) ∧ K (((p0 &&& (2147483647 : Int32)) / (65536 : Int32)) - ((p0 &&& (2147483647 : Int32)) / (65536 : Int32)) / p1 * p1) h) ∧ (¬ (0 < p1) → K (nI 0) h)) : AW M_X10_drawn (.inl K) 0 [some (aI p0), some (aI p1)] [] h 0 0 := AW_go (cuts := []) ok_X10_drawn 400 H

theorem snd_X10_drawn (z b : Int32) {h : AH} {K : Int32 → AH → Prop} (k : S_X10_drawn z b h K) : AW M_X10_drawn (.inl K) 0 [some (aI z), some (aI b)] [] h 0 0 := by
  obtain ⟨k, h0, hk, rfl, kk⟩ := k
  refine vc_X10_drawn z (nI k) ?_
  rw [n_gt0 hk, dr_eq z h0 hk]
  exact ⟨fun _ => ⟨by decide, fun z => by rw [n_eq0 hk] at z; omega, kk⟩, fun z => absurd h0 z⟩
theorem tw_X10_drawn : ∀ (as : List AV) (h : AH) (K : Int32 → AH → Prop), T_X10_drawn as h K → (ini as).length ≤ mNL M_X10_drawn ∧ AW M_X10_drawn (.inl K) 0 (initL (mNL M_X10_drawn) as) [] h 0 0 := by
  intro as h K hk
  match as, hk with
  | [.inl q0, .inl q1], hk =>
    exact ⟨Nat.le_of_ble_eq_true rfl, snd_X10_drawn q0 q1 hk⟩
theorem cr_RX10_670 : CR RX10 (kIns 670) (2, 1, 21, 0, 0, .inl T_X10_drawn) := crS_i (M := M_X10_drawn) (by decide) rfl (inG (i := 721) (w := Cond.methodLink RX10 223 yX10_drawn) (by decide +kernel) rfl) (inG (i := 722) (w := Cond.static yX10_drawn) (by decide +kernel) rfl) (inG (i := 37) (w := Cond.initialized RX10) (by decide +kernel) rfl) (inG (i := 723) (w := Cond.code yX10_drawn cX10_drawn 2 (some .int)) (by decide +kernel) rfl) ⟨by decide +kernel, by decide +kernel, by decide +kernel⟩ tw_X10_drawn

theorem in0L {a : Int32} {n : Nat} (hn : n < 2147483648) : (nI 0 ≤ a ∧ a ≤ nI n - nI 1) ↔ ∃ k, k < n ∧ a = nI k := in_iff hn
def S_X9_sheepAt (v : Nat) (s : Int32) (h : AH) (K : Option Nat → AH → Prop) : Prop := ∃ V, CV h v V ∧ WF V ∧ (∀ n o, n < V 10 1 → s = nI n → o = h.2.1 10 v n → SHP h o (V 8 n) (V 9 n) → K o h) ∧ ((¬ ∃ n, n < V 10 1 ∧ s = nI n) → K none h)
def T_X9_sheepAt : List AV → AH → (Option Nat → AH → Prop) → Prop := fun as h K => match as with
  | [.inr (.inr (.inl q0)), .inl q1] => tif (Nat.beq q0.1 1) (S_X9_sheepAt q0.2 q1 h K)
  | _ => False

def M_X9_sheepAt : MI := (RX9, cX9_sheepAt, 2, [(0, .iload_n 1, []), (1, .iconst 0, []), (2, .aload_n 0, []), (3, .getfield 55, []), (6, .iconst 1, []), (7, .isub, []), (8, .invokestatic 61, []), (11, .ifCond .eq 12, [23]), (14, .aload_n 0, []), (15, .getfield 38, []), (18, .iload_n 1, []), (19, .aaload, []), (20, .goto 4, [24]), (23, .aconst_null, []), (24, .areturn, [])], [(55, (1, 9, 0, 0, 0)), (38, (1, 10, 1, 10, 0))], [], [], [(184, (3, 1, 22, 0, 0, .inl T_X10_within))], 1, 22, 0, 0)
theorem ok_X9_sheepAt : MOK M_X9_sheepAt := ⟨by decide +kernel, List.forall_mem_cons.mpr ⟨fl_RX9_55, List.forall_mem_cons.mpr ⟨fl_RX9_38, fun _ h => absurd h List.not_mem_nil⟩⟩, fun _ h => absurd h List.not_mem_nil, fun _ h => absurd h List.not_mem_nil, List.forall_mem_cons.mpr ⟨⟨Nat.le_of_ble_eq_true rfl, Nat.le_of_ble_eq_true rfl, cr_RX9_184⟩, fun _ h => absurd h List.not_mem_nil⟩⟩
set_option maxRecDepth 100000 in
theorem vc_X9_sheepAt {K : Option Nat → AH → Prop} {h : AH} (p0 : Nat) (p1 : Int32) (H : S_X10_within p1 (nI 0) ((h.1 1 p0 9) - (nI 1)) h (fun x2 h1 => ((x2 = 0) → K none h1) ∧ (¬ (x2 = 0) → inR p1 7 ∧ K (h1.2.1 10 p0 p1.toNatClampNeg) h1))) : AW M_X9_sheepAt (.inr (.inr (.inr K))) 0 [some (aR 1 p0), some (aI p1)] [] h 0 0 := AW_go (cuts := []) ok_X9_sheepAt 400 H

theorem snd_X9_sheepAt (v : Nat) (s : Int32) {h : AH} {K : Option Nat → AH → Prop} (k : S_X9_sheepAt v s h K) : AW M_X9_sheepAt (.inr (.inr (.inr K))) 0 [some (aR 1 v), some (aI s)] [] h 0 0 := by
  obtain ⟨V, c, hw, k1, k2⟩ := k
  have h7 := hw.2.1
  obtain ⟨-, -, -, -, -, -, -, -, -, e9, -, -, eS⟩ := CVs c
  refine vc_X9_sheepAt v s ?_
  unfold S_X10_within
  rw [e9]
  simp only [if10_eq, in_iff (x := s) (n := V 10 1) (by omega)]
  refine ⟨fun q => k2 q, fun q => ?_⟩
  obtain ⟨n, hn, rfl⟩ := Decidable.not_not.mp q
  simp (disch := omega) only [n_inT, n_cl, true_and]
  exact k1 n _ hn rfl rfl (eS n hn)
theorem tr_X9_sheepAt : ∀ (as : List AV) (h : AH) (K : Option Nat → AH → Prop), T_X9_sheepAt as h K → ∃ (q : Nat) (r : List AV), as = aR 1 q :: r := by
  intro as h K hk
  match as, hk with
  | [.inr (.inr (.inl q0)), .inl q1], hk =>
    obtain ⟨hb, hk⟩ := tif_inv hk
    have e0 := hb
    obtain ⟨a0, b0⟩ := q0
    have f0 : a0 = 1 := Nat.eq_of_beq_eq_true e0
    subst f0
    exact ⟨_, _, rfl⟩
theorem tw_X9_sheepAt : ∀ (as : List AV) (h : AH) (K : Option Nat → AH → Prop), T_X9_sheepAt as h K → (ini as).length ≤ mNL M_X9_sheepAt ∧ AW M_X9_sheepAt (.inr (.inr (.inr K))) 0 (initL (mNL M_X9_sheepAt) as) [] h 0 0 := by
  intro as h K hk
  match as, hk with
  | [.inr (.inr (.inl q0)), .inl q1], hk =>
    obtain ⟨hb, hk⟩ := tif_inv hk
    have e0 := hb
    obtain ⟨a0, b0⟩ := q0
    have f0 : a0 = 1 := Nat.eq_of_beq_eq_true e0
    subst f0
    exact ⟨Nat.le_of_ble_eq_true rfl, snd_X9_sheepAt b0 q1 hk⟩
theorem cr_RX9_195 : CR RX9 (kIns 195) (2, 2, 43, 0, 0, .inr (.inr (.inr T_X9_sheepAt))) := crV_q (t := 1) (M := M_X9_sheepAt) (by decide) rfl (by decide) rfl (inG (i := 467) (w := Cond.methodLink RX9 65 yX9_sheepAt) (by decide +kernel) rfl) (inG (i := 468) (w := Cond.instanceMethod yX9_sheepAt) (by decide +kernel) rfl) (inG (i := 38) (w := Cond.initialized RX9) (by decide +kernel) rfl) (inG (i := 469) (w := Cond.selects RX9 yX9_sheepAt yX9_sheepAt) (by decide +kernel) rfl) (inG (i := 470) (w := Cond.code yX9_sheepAt cX9_sheepAt 2 (some (.object RX4))) (by decide +kernel) rfl) ⟨by decide +kernel, by decide +kernel, by decide +kernel⟩ tr_X9_sheepAt tw_X9_sheepAt
theorem cr_RX10_261 : CR RX10 (kIns 261) (2, 2, 43, 0, 0, .inr (.inr (.inr T_X9_sheepAt))) := crV_q (t := 1) (M := M_X9_sheepAt) (by decide) rfl (by decide) rfl (inG (i := 522) (w := Cond.methodLink RX10 87 yX9_sheepAt) (by decide +kernel) rfl) (inG (i := 468) (w := Cond.instanceMethod yX9_sheepAt) (by decide +kernel) rfl) (inG (i := 38) (w := Cond.initialized RX9) (by decide +kernel) rfl) (inG (i := 469) (w := Cond.selects RX9 yX9_sheepAt yX9_sheepAt) (by decide +kernel) rfl) (inG (i := 470) (w := Cond.code yX9_sheepAt cX9_sheepAt 2 (some (.object RX4))) (by decide +kernel) rfl) ⟨by decide +kernel, by decide +kernel, by decide +kernel⟩ tr_X9_sheepAt tw_X9_sheepAt

def S_X9_worthIn (v : Nat) (c : Int32) (h : AH) (K : Int32 → AH → Prop) : Prop := ∃ V m, CV h v V ∧ WF V ∧ m < 8 ∧ c = nI m ∧ K (nI (5 * V 0 m + V 1 m)) h
def T_X9_worthIn : List AV → AH → (Int32 → AH → Prop) → Prop := fun as h K => match as with
  | [.inr (.inr (.inl q0)), .inl q1] => tif (Nat.beq q0.1 1) (S_X9_worthIn q0.2 q1 h K)
  | _ => False

def M_X9_worthIn : MI := (RX9, cX9_worthIn, 2, [(0, .iconst 5, []), (1, .aload_n 0, []), (2, .getfield 9, []), (5, .iload_n 1, []), (6, .iaload, []), (7, .imul, []), (8, .aload_n 0, []), (9, .getfield 15, []), (12, .iload_n 1, []), (13, .iaload, []), (14, .iadd, []), (15, .ireturn, [])], [(9, (1, 0, 1, 2, 0)), (15, (1, 1, 1, 3, 0))], [], [], [], 0, 0, 0, 0)
theorem ok_X9_worthIn : MOK M_X9_worthIn := ⟨by decide +kernel, List.forall_mem_cons.mpr ⟨fl_RX9_9, List.forall_mem_cons.mpr ⟨fl_RX9_15, fun _ h => absurd h List.not_mem_nil⟩⟩, fun _ h => absurd h List.not_mem_nil, fun _ h => absurd h List.not_mem_nil, fun _ h => absurd h List.not_mem_nil⟩
set_option maxRecDepth 100000 in
theorem vc_X9_worthIn {K : Int32 → AH → Prop} {h : AH} (p0 : Nat) (p1 : Int32) (H : inR p1 8 ∧ inR p1 8 ∧ K (((nI 5) * (h.1 2 p0 p1.toNatClampNeg)) + (h.1 3 p0 p1.toNatClampNeg)) h) : AW M_X9_worthIn (.inl K) 0 [some (aR 1 p0), some (aI p1)] [] h 0 0 := AW_go (cuts := []) ok_X9_worthIn 400 H

theorem snd_X9_worthIn (v : Nat) (c : Int32) {h : AH} {K : Int32 → AH → Prop} (k : S_X9_worthIn v c h K) : AW M_X9_worthIn (.inl K) 0 [some (aR 1 v), some (aI c)] [] h 0 0 := by
  obtain ⟨V, m, cv, hw, hm, rfl, k⟩ := k
  obtain ⟨e0, e1, -⟩ := CVs cv
  refine vc_X9_worthIn v (nI m) ?_
  simp (disch := omega) only [pk_mul, nI_add, n_inT, n_cl, true_and, e0, e1]
  exact k
theorem tr_X9_worthIn : ∀ (as : List AV) (h : AH) (K : Int32 → AH → Prop), T_X9_worthIn as h K → ∃ (q : Nat) (r : List AV), as = aR 1 q :: r := by
  intro as h K hk
  match as, hk with
  | [.inr (.inr (.inl q0)), .inl q1], hk =>
    obtain ⟨hb, hk⟩ := tif_inv hk
    have e0 := hb
    obtain ⟨a0, b0⟩ := q0
    have f0 : a0 = 1 := Nat.eq_of_beq_eq_true e0
    subst f0
    exact ⟨_, _, rfl⟩
theorem tw_X9_worthIn : ∀ (as : List AV) (h : AH) (K : Int32 → AH → Prop), T_X9_worthIn as h K → (ini as).length ≤ mNL M_X9_worthIn ∧ AW M_X9_worthIn (.inl K) 0 (initL (mNL M_X9_worthIn) as) [] h 0 0 := by
  intro as h K hk
  match as, hk with
  | [.inr (.inr (.inl q0)), .inl q1], hk =>
    obtain ⟨hb, hk⟩ := tif_inv hk
    have e0 := hb
    obtain ⟨a0, b0⟩ := q0
    have f0 : a0 = 1 := Nat.eq_of_beq_eq_true e0
    subst f0
    exact ⟨Nat.le_of_ble_eq_true rfl, snd_X9_worthIn b0 q1 hk⟩
theorem cr_RX10_570 : CR RX10 (kIns 570) (2, 1, 21, 0, 0, .inl T_X9_worthIn) := crV_i (t := 1) (M := M_X9_worthIn) (by decide) rfl (by decide) rfl (inG (i := 637) (w := Cond.methodLink RX10 190 yX9_worthIn) (by decide +kernel) rfl) (inG (i := 638) (w := Cond.instanceMethod yX9_worthIn) (by decide +kernel) rfl) (inG (i := 38) (w := Cond.initialized RX9) (by decide +kernel) rfl) (inG (i := 639) (w := Cond.selects RX9 yX9_worthIn yX9_worthIn) (by decide +kernel) rfl) (inG (i := 640) (w := Cond.code yX9_worthIn cX9_worthIn 2 (some .int)) (by decide +kernel) rfl) ⟨by decide +kernel, by decide +kernel, by decide +kernel⟩ tr_X9_worthIn tw_X9_worthIn

def S_X9_refusedThrow (v : Nat) (s c : Int32) (h : AH) (K : Int32 → AH → Prop) : Prop := ∃ V, CV h v V ∧ WF V ∧ K (rfT V s c) h
def T_X9_refusedThrow : List AV → AH → (Int32 → AH → Prop) → Prop := fun as h K => match as with
  | [.inr (.inr (.inl q0)), .inl q1, .inl q2] => tif (Nat.beq q0.1 1) (S_X9_refusedThrow q0.2 q1 q2 h K)
  | _ => False

def M_X9_refusedThrow : MI := (RX9, cX9_refusedThrow, 4, [(0, .aload_n 0, []), (1, .iload_n 1, []), (2, .invokevirtual 65, []), (5, .astore_n 3, []), (6, .aload_n 3, []), (7, .ifnull 13, [20]), (10, .iload_n 2, []), (11, .iconst 0, []), (12, .bipush 7, []), (14, .invokestatic 61, []), (17, .ifCond .ne 5, [22]), (20, .iconst (-1), []), (21, .ireturn, []), (22, .iload_n 2, []), (23, .aload_n 3, []), (24, .getfield 69, []), (27, .if_icmp .le 8, [35]), (30, .bipush (-3), []), (32, .goto 4, [36]), (35, .iconst 0, []), (36, .ireturn, [])], [(69, (18, 4, 0, 0, 0))], [], [], [(195, (2, 2, 43, 0, 0, .inr (.inr (.inr T_X9_sheepAt)))), (184, (3, 1, 22, 0, 0, .inl T_X10_within))], 2, 43, 0, 0)
theorem ok_X9_refusedThrow : MOK M_X9_refusedThrow := ⟨by decide +kernel, List.forall_mem_cons.mpr ⟨fl_RX9_69, fun _ h => absurd h List.not_mem_nil⟩, fun _ h => absurd h List.not_mem_nil, fun _ h => absurd h List.not_mem_nil, List.forall_mem_cons.mpr ⟨⟨Nat.le_of_ble_eq_true rfl, Nat.le_of_ble_eq_true rfl, cr_RX9_195⟩, List.forall_mem_cons.mpr ⟨⟨Nat.le_of_ble_eq_true rfl, Nat.le_of_ble_eq_true rfl, cr_RX9_184⟩, fun _ h => absurd h List.not_mem_nil⟩⟩⟩
set_option maxRecDepth 100000 in
theorem vc_X9_refusedThrow {K : Int32 → AH → Prop} {h : AH} (p0 : Nat) (p1 : Int32) (p2 : Int32) (H : S_X9_sheepAt p0 p1 h (fun x2 h1 => (((x2 : Option Nat) = none) → K (iI (-1)) h1) ∧ (¬ ((x2 : Option Nat) = none) → S_X10_within p2 (nI 0) (nI 7) h1 (fun x4 h3 => ((¬ x4 = 0) → oE x2 fun a5 => ((p2 ≤ (h3.1 18 a5 4)) → K (nI 0) h3) ∧ (¬ (p2 ≤ (h3.1 18 a5 4)) → K (iI (-3)) h3)) ∧ (¬ (¬ x4 = 0) → K (iI (-1)) h3))))) : AW M_X9_refusedThrow (.inl K) 0 [some (aR 1 p0), some (aI p1), some (aI p2), none] [] h 0 0 := AW_go (cuts := []) ok_X9_refusedThrow 400 H

theorem snd_X9_refusedThrow (v : Nat) (s c : Int32) {h : AH} {K : Int32 → AH → Prop} (k : S_X9_refusedThrow v s c h K) : AW M_X9_refusedThrow (.inl K) 0 [some (aR 1 v), some (aI s), some (aI c), none] [] h 0 0 := by
  obtain ⟨V, cv, hw, k⟩ := k
  have h7 := hw.2.1
  refine vc_X9_refusedThrow v s c ⟨V, cv, hw, fun n o hn e1 e2 sp => ?_, fun q => ?_⟩
  · subst e1
    obtain ⟨a, rfl, -, -, -, -, s5, -⟩ := sp
    have hs : shp V (nI n) := (in_iff (by omega)).mpr ⟨n, hn, rfl⟩
    refine ⟨fun z => (by cases z), fun _ => ?_⟩
    unfold S_X10_within
    (try dsimp only)
    simp only [if10_eq]
    unfold rfT at k
    refine ⟨fun q => ?_, fun q => ?_⟩
    · have q := Decidable.not_not.mp q
      rw [if_pos ⟨hs, q⟩] at k
      obtain ⟨m, hm, rfl⟩ := in8_iff.mp q
      unfold nN at k
      rw [n_cl (show m < 2147483648 by omega), n_cl (show n < 2147483648 by omega)] at k
      show (nI m ≤ h.1 18 a 4 → K (nI 0) h) ∧ (¬ nI m ≤ h.1 18 a 4 → K (iI (-3)) h)
      have hf : fly (V 8 n) ≤ 7 := fly_le _
      rw [s5, n_le (by omega) (by omega)]
      refine ⟨fun z => ?_, fun z => ?_⟩
      · rw [if_neg (by show ¬ fly (V 8 n) < m; omega)] at k; exact k
      · rw [if_pos (by show fly (V 8 n) < m; omega)] at k; exact k
    · rw [if_neg (fun z => q (fun z2 => z2 z.2))] at k; exact k
  · refine ⟨fun _ => ?_, fun z => absurd rfl z⟩
    unfold rfT at k
    rw [if_neg (fun z => q ((in_iff (by omega)).mp z.1))] at k
    exact k
theorem tr_X9_refusedThrow : ∀ (as : List AV) (h : AH) (K : Int32 → AH → Prop), T_X9_refusedThrow as h K → ∃ (q : Nat) (r : List AV), as = aR 1 q :: r := by
  intro as h K hk
  match as, hk with
  | [.inr (.inr (.inl q0)), .inl q1, .inl q2], hk =>
    obtain ⟨hb, hk⟩ := tif_inv hk
    have e0 := hb
    obtain ⟨a0, b0⟩ := q0
    have f0 : a0 = 1 := Nat.eq_of_beq_eq_true e0
    subst f0
    exact ⟨_, _, rfl⟩
theorem tw_X9_refusedThrow : ∀ (as : List AV) (h : AH) (K : Int32 → AH → Prop), T_X9_refusedThrow as h K → (ini as).length ≤ mNL M_X9_refusedThrow ∧ AW M_X9_refusedThrow (.inl K) 0 (initL (mNL M_X9_refusedThrow) as) [] h 0 0 := by
  intro as h K hk
  match as, hk with
  | [.inr (.inr (.inl q0)), .inl q1, .inl q2], hk =>
    obtain ⟨hb, hk⟩ := tif_inv hk
    have e0 := hb
    obtain ⟨a0, b0⟩ := q0
    have f0 : a0 = 1 := Nat.eq_of_beq_eq_true e0
    subst f0
    exact ⟨Nat.le_of_ble_eq_true rfl, snd_X9_refusedThrow b0 q1 q2 hk⟩
theorem cr_RX10_414 : CR RX10 (kIns 414) (3, 3, 66, 0, 0, .inl T_X9_refusedThrow) := crV_i (t := 1) (M := M_X9_refusedThrow) (by decide) rfl (by decide) rfl (inG (i := 463) (w := Cond.methodLink RX10 138 yX9_refusedThrow) (by decide +kernel) rfl) (inG (i := 464) (w := Cond.instanceMethod yX9_refusedThrow) (by decide +kernel) rfl) (inG (i := 38) (w := Cond.initialized RX9) (by decide +kernel) rfl) (inG (i := 465) (w := Cond.selects RX9 yX9_refusedThrow yX9_refusedThrow) (by decide +kernel) rfl) (inG (i := 466) (w := Cond.code yX9_refusedThrow cX9_refusedThrow 4 (some .int)) (by decide +kernel) rfl) ⟨by decide +kernel, by decide +kernel, by decide +kernel⟩ tr_X9_refusedThrow tw_X9_refusedThrow

def S_X9_snakesSleep (v : Nat) (h : AH) (K : Int32 → AH → Prop) : Prop := ∃ V, CV h v V ∧ WF V ∧ K (if noonV V then nI 1 else nI 0) h
def T_X9_snakesSleep : List AV → AH → (Int32 → AH → Prop) → Prop := fun as h K => match as with
  | [.inr (.inr (.inl q0))] => tif (Nat.beq q0.1 1) (S_X9_snakesSleep q0.2 h K)
  | _ => False

def M_X9_snakesSleep : MI := (RX9, cX9_snakesSleep, 1, [(0, .aload_n 0, []), (1, .getfield 42, []), (4, .bipush 11, []), (6, .if_icmp .lt 16, [22]), (9, .aload_n 0, []), (10, .getfield 42, []), (13, .bipush 13, []), (15, .if_icmp .gt 7, [22]), (18, .iconst 1, []), (19, .goto 4, [23]), (22, .iconst 0, []), (23, .ireturn, [])], [(42, (1, 11, 0, 0, 0))], [], [], [], 0, 0, 0, 0)
theorem ok_X9_snakesSleep : MOK M_X9_snakesSleep := ⟨by decide +kernel, List.forall_mem_cons.mpr ⟨fl_RX9_42, fun _ h => absurd h List.not_mem_nil⟩, fun _ h => absurd h List.not_mem_nil, fun _ h => absurd h List.not_mem_nil, fun _ h => absurd h List.not_mem_nil⟩
set_option maxRecDepth 100000 in
theorem vc_X9_snakesSleep {K : Int32 → AH → Prop} {h : AH} (p0 : Nat) (H : (((h.1 1 p0 11) < (nI 11)) → (((nI 0) = 0 ∨ (nI 0) = 1) ∧ K (nI 0) h)) ∧ (¬ ((h.1 1 p0 11) < (nI 11)) → (((nI 13) < (h.1 1 p0 11)) → (((nI 0) = 0 ∨ (nI 0) = 1) ∧ K (nI 0) h)) ∧ (¬ ((nI 13) < (h.1 1 p0 11)) → (((nI 1) = 0 ∨ (nI 1) = 1) ∧ K (nI 1) h)))) : AW M_X9_snakesSleep (.inl (fun x u => (x = 0 ∨ x = 1) ∧ K x u)) 0 [some (aR 1 p0)] [] h 0 0 := AW_go (cuts := []) ok_X9_snakesSleep 400 H

theorem snd_X9_snakesSleep (v : Nat) {h : AH} {K : Int32 → AH → Prop} (k : S_X9_snakesSleep v h K) : AW M_X9_snakesSleep (.inl (fun x u => (x = 0 ∨ x = 1) ∧ K x u)) 0 [some (aR 1 v)] [] h 0 0 := by
  obtain ⟨V, cv, hw, k⟩ := k
  obtain ⟨-, -, -, -, -, -, -, -, -, -, e2, -⟩ := CVs cv
  have hh := hw.2.2.1
  refine vc_X9_snakesSleep v ?_
  rw [e2]
  simp (disch := omega) only [n_lt]
  refine ⟨fun q => ⟨Or.inl (by decide), ?_⟩, fun q => ⟨fun q2 => ⟨Or.inl (by decide), ?_⟩, fun q2 => ⟨Or.inr (by decide), ?_⟩⟩⟩
  · rw [if_neg (by omega)] at k; exact k
  · rw [if_neg (by omega)] at k; exact k
  · rw [if_pos (by omega)] at k; exact k
theorem tr_X9_snakesSleep : ∀ (as : List AV) (h : AH) (K : Int32 → AH → Prop), T_X9_snakesSleep as h K → ∃ (q : Nat) (r : List AV), as = aR 1 q :: r := by
  intro as h K hk
  match as, hk with
  | [.inr (.inr (.inl q0))], hk =>
    obtain ⟨hb, hk⟩ := tif_inv hk
    have e0 := hb
    obtain ⟨a0, b0⟩ := q0
    have f0 : a0 = 1 := Nat.eq_of_beq_eq_true e0
    subst f0
    exact ⟨_, _, rfl⟩
theorem tw_X9_snakesSleep : ∀ (as : List AV) (h : AH) (K : Int32 → AH → Prop), T_X9_snakesSleep as h K → (ini as).length ≤ mNL M_X9_snakesSleep ∧ AW M_X9_snakesSleep (.inl (fun x u => (x = 0 ∨ x = 1) ∧ K x u)) 0 (initL (mNL M_X9_snakesSleep) as) [] h 0 0 := by
  intro as h K hk
  match as, hk with
  | [.inr (.inr (.inl q0))], hk =>
    obtain ⟨hb, hk⟩ := tif_inv hk
    have e0 := hb
    obtain ⟨a0, b0⟩ := q0
    have f0 : a0 = 1 := Nat.eq_of_beq_eq_true e0
    subst f0
    exact ⟨Nat.le_of_ble_eq_true rfl, snd_X9_snakesSleep b0 hk⟩
theorem cr_RX9_225 : CR RX9 (kIns 225) (1, 1, 20, 0, 0, .inl T_X9_snakesSleep) := crV_z (t := 1) (M := M_X9_snakesSleep) (by decide) rfl (by decide) rfl (inG (i := 484) (w := Cond.methodLink RX9 75 yX9_snakesSleep) (by decide +kernel) rfl) (inG (i := 485) (w := Cond.instanceMethod yX9_snakesSleep) (by decide +kernel) rfl) (inG (i := 38) (w := Cond.initialized RX9) (by decide +kernel) rfl) (inG (i := 486) (w := Cond.selects RX9 yX9_snakesSleep yX9_snakesSleep) (by decide +kernel) rfl) (inG (i := 487) (w := Cond.code yX9_snakesSleep cX9_snakesSleep 1 (some .boolean)) (by decide +kernel) rfl) ⟨by decide +kernel, by decide +kernel, by decide +kernel⟩ tr_X9_snakesSleep tw_X9_snakesSleep
theorem cr_RX10_558 : CR RX10 (kIns 558) (1, 1, 20, 0, 0, .inl T_X9_snakesSleep) := crV_z (t := 1) (M := M_X9_snakesSleep) (by decide) rfl (by decide) rfl (inG (i := 632) (w := Cond.methodLink RX10 186 yX9_snakesSleep) (by decide +kernel) rfl) (inG (i := 485) (w := Cond.instanceMethod yX9_snakesSleep) (by decide +kernel) rfl) (inG (i := 38) (w := Cond.initialized RX9) (by decide +kernel) rfl) (inG (i := 486) (w := Cond.selects RX9 yX9_snakesSleep yX9_snakesSleep) (by decide +kernel) rfl) (inG (i := 487) (w := Cond.code yX9_snakesSleep cX9_snakesSleep 1 (some .boolean)) (by decide +kernel) rfl) ⟨by decide +kernel, by decide +kernel, by decide +kernel⟩ tr_X9_snakesSleep tw_X9_snakesSleep

abbrev vPre (v : Nat) (o : Option Nat) (h : AH) (V : Vm) (n : Nat) : Prop := CV h v V ∧ WF V ∧ n < V 10 1 ∧ SHP h o (V 8 n) (V 9 n)
def S_X9_isEaten (v : Nat) (o : Option Nat) (c : Int32) (h : AH) (K : Int32 → AH → Prop) : Prop := ∃ V n m, vPre v o h V n ∧ m < 8 ∧ c = nI m ∧ K (if eat V n m then nI 1 else nI 0) h
def T_X9_isEaten : List AV → AH → (Int32 → AH → Prop) → Prop := fun as h K => match as with
  | [.inr (.inr (.inl q0)), .inr (.inr (.inr q1)), .inl q2] => tif (Nat.beq q0.1 1) (S_X9_isEaten q0.2 q1 q2 h K)
  | _ => False

def M_X9_isEaten : MI := (RX9, cX9_isEaten, 3, [(0, .aload_n 0, []), (1, .getfield 18, []), (4, .iload_n 2, []), (5, .iaload, []), (6, .aload_n 1, []), (7, .getfield 72, []), (10, .iconst 2, []), (11, .idiv, []), (12, .if_icmp .le 14, [26]), (15, .aload_n 0, []), (16, .invokevirtual 75, []), (19, .ifCond .ne 7, [26]), (22, .iconst 1, []), (23, .goto 4, [27]), (26, .iconst 0, []), (27, .ireturn, [])], [(18, (1, 2, 1, 4, 0)), (72, (18, 2, 0, 0, 0))], [], [], [(225, (1, 1, 20, 0, 0, .inl T_X9_snakesSleep))], 1, 20, 0, 0)
theorem ok_X9_isEaten : MOK M_X9_isEaten := ⟨by decide +kernel, List.forall_mem_cons.mpr ⟨fl_RX9_18, List.forall_mem_cons.mpr ⟨fl_RX9_72, fun _ h => absurd h List.not_mem_nil⟩⟩, fun _ h => absurd h List.not_mem_nil, fun _ h => absurd h List.not_mem_nil, List.forall_mem_cons.mpr ⟨⟨Nat.le_of_ble_eq_true rfl, Nat.le_of_ble_eq_true rfl, cr_RX9_225⟩, fun _ h => absurd h List.not_mem_nil⟩⟩
set_option maxRecDepth 100000 in
theorem vc_X9_isEaten {K : Int32 → AH → Prop} {h : AH} (p0 : Nat) (p1 : Option Nat) (p2 : Int32) (H : inR p2 8 ∧ oE p1 fun a1 => (¬ (nI 2) = 0) ∧ (((h.1 4 p0 p2.toNatClampNeg) ≤ ((h.1 18 a1 2) / (nI 2))) → (((nI 0) = 0 ∨ (nI 0) = 1) ∧ K (nI 0) h)) ∧ (¬ ((h.1 4 p0 p2.toNatClampNeg) ≤ ((h.1 18 a1 2) / (nI 2))) → S_X9_snakesSleep p0 h (fun x3 h2 => ((¬ x3 = 0) → (((nI 0) = 0 ∨ (nI 0) = 1) ∧ K (nI 0) h2)) ∧ (¬ (¬ x3 = 0) → (((nI 1) = 0 ∨ (nI 1) = 1) ∧ K (nI 1) h2))))) : AW M_X9_isEaten (.inl (fun x u => (x = 0 ∨ x = 1) ∧ K x u)) 0 [some (aR 1 p0), some (aS p1), some (aI p2)] [] h 0 0 := AW_go (cuts := []) ok_X9_isEaten 400 H

theorem snd_X9_isEaten (v : Nat) (o : Option Nat) (c : Int32) {h : AH} {K : Int32 → AH → Prop} (k : S_X9_isEaten v o c h K) : AW M_X9_isEaten (.inl (fun x u => (x = 0 ∨ x = 1) ∧ K x u)) 0 [some (aR 1 v), some (aS o), some (aI c)] [] h 0 0 := by
  obtain ⟨V, n, m, ⟨cv, hw, hn, a, rfl, -, -, s3, -⟩, hm, rfl, k⟩ := k
  obtain ⟨-, -, e2, -⟩ := CVs cv
  have hc := hw.2.2.2.2.1 m hm
  have hb := hw.2.2.2.2.2.2 n hn
  have hwt : wt (V 8 n) (V 9 n) ≤ 38 := wt_le hb.2
  refine vc_X9_isEaten v (some a) (nI m) ⟨n_in hm (by omega), by decide, ?_⟩
  rw [s3, n_cl (show m < 2147483648 by omega), e2 m hm, n_div (by omega) (by omega) (by omega), n_le (by omega) (by omega)]
  refine ⟨fun q => ⟨Or.inl (by decide), ?_⟩, fun q => ⟨V, cv, hw, ?_⟩⟩
  · rw [if_neg (fun z => by have := z.1; simp only [vWt] at this; omega)] at k; exact k
  · by_cases hq : noonV V
    · rw [if_neg (fun z => z.2 hq)] at k
      rw [if_pos hq]
      exact ⟨fun _ => ⟨Or.inl (by decide), k⟩, fun z => absurd (show ¬ nI 1 = 0 by decide) z⟩
    · rw [if_pos ⟨by simp only [vWt]; omega, hq⟩] at k
      rw [if_neg hq]
      exact ⟨fun z => absurd (show nI 0 = 0 by decide) z, fun _ => ⟨Or.inr (by decide), k⟩⟩
theorem tr_X9_isEaten : ∀ (as : List AV) (h : AH) (K : Int32 → AH → Prop), T_X9_isEaten as h K → ∃ (q : Nat) (r : List AV), as = aR 1 q :: r := by
  intro as h K hk
  match as, hk with
  | [.inr (.inr (.inl q0)), .inr (.inr (.inr q1)), .inl q2], hk =>
    obtain ⟨hb, hk⟩ := tif_inv hk
    have e0 := hb
    obtain ⟨a0, b0⟩ := q0
    have f0 : a0 = 1 := Nat.eq_of_beq_eq_true e0
    subst f0
    exact ⟨_, _, rfl⟩
theorem tw_X9_isEaten : ∀ (as : List AV) (h : AH) (K : Int32 → AH → Prop), T_X9_isEaten as h K → (ini as).length ≤ mNL M_X9_isEaten ∧ AW M_X9_isEaten (.inl (fun x u => (x = 0 ∨ x = 1) ∧ K x u)) 0 (initL (mNL M_X9_isEaten) as) [] h 0 0 := by
  intro as h K hk
  match as, hk with
  | [.inr (.inr (.inl q0)), .inr (.inr (.inr q1)), .inl q2], hk =>
    obtain ⟨hb, hk⟩ := tif_inv hk
    have e0 := hb
    obtain ⟨a0, b0⟩ := q0
    have f0 : a0 = 1 := Nat.eq_of_beq_eq_true e0
    subst f0
    exact ⟨Nat.le_of_ble_eq_true rfl, snd_X9_isEaten b0 q1 q2 hk⟩
theorem cr_RX9_237 : CR RX9 (kIns 237) (3, 2, 42, 0, 0, .inl T_X9_isEaten) := crV_z (t := 1) (M := M_X9_isEaten) (by decide) rfl (by decide) rfl (inG (i := 480) (w := Cond.methodLink RX9 79 yX9_isEaten) (by decide +kernel) rfl) (inG (i := 481) (w := Cond.instanceMethod yX9_isEaten) (by decide +kernel) rfl) (inG (i := 38) (w := Cond.initialized RX9) (by decide +kernel) rfl) (inG (i := 482) (w := Cond.selects RX9 yX9_isEaten yX9_isEaten) (by decide +kernel) rfl) (inG (i := 483) (w := Cond.code yX9_isEaten cX9_isEaten 3 (some .boolean)) (by decide +kernel) rfl) ⟨by decide +kernel, by decide +kernel, by decide +kernel⟩ tr_X9_isEaten tw_X9_isEaten
theorem cr_RX10_471 : CR RX10 (kIns 471) (3, 2, 42, 0, 0, .inl T_X9_isEaten) := crV_z (t := 1) (M := M_X9_isEaten) (by decide) rfl (by decide) rfl (inG (i := 559) (w := Cond.methodLink RX10 157 yX9_isEaten) (by decide +kernel) rfl) (inG (i := 481) (w := Cond.instanceMethod yX9_isEaten) (by decide +kernel) rfl) (inG (i := 38) (w := Cond.initialized RX9) (by decide +kernel) rfl) (inG (i := 482) (w := Cond.selects RX9 yX9_isEaten yX9_isEaten) (by decide +kernel) rfl) (inG (i := 483) (w := Cond.code yX9_isEaten cX9_isEaten 3 (some .boolean)) (by decide +kernel) rfl) ⟨by decide +kernel, by decide +kernel, by decide +kernel⟩ tr_X9_isEaten tw_X9_isEaten

def S_X9_carrierOf (v : Nat) (w : Int32) (h : AH) (K : Int32 → AH → Prop) : Prop := ∃ V x, CV h v V ∧ WF V ∧ x ≤ 100 ∧ w = nI x ∧ K (oI (car V x (V 10 0))) h
def T_X9_carrierOf : List AV → AH → (Int32 → AH → Prop) → Prop := fun as h K => match as with
  | [.inr (.inr (.inl q0)), .inl q1] => tif (Nat.beq q0.1 1) (S_X9_carrierOf q0.2 q1 h K)
  | _ => False

def M_X9_carrierOf : MI := (RX9, cX9_carrierOf, 5, [(0, .bipush (-4), []), (2, .istore_n 2, []), (3, .iconst 0, []), (4, .istore_n 3, []), (5, .iload_n 3, []), (6, .aload_n 0, []), (7, .getfield 52, []), (10, .if_icmp .ge 71, [81]), (13, .aload_n 0, []), (14, .getfield 24, []), (17, .iload_n 3, []), (18, .iaload, []), (19, .aload_n 0, []), (20, .getfield 27, []), (23, .iload_n 3, []), (24, .iaload, []), (25, .iadd, []), (26, .iload_n 1, []), (27, .if_icmp .lt 17, [44]), (30, .aload_n 0, []), (31, .getfield 33, []), (34, .iload_n 3, []), (35, .iaload, []), (36, .iconst 5, []), (37, .if_icmp .ge 7, [44]), (40, .iconst 1, []), (41, .goto 4, [45]), (44, .iconst 0, []), (45, .istore 4, []), (47, .iload 4, []), (49, .ifCond .eq 26, [75]), (52, .iload_n 2, []), (53, .bipush (-4), []), (55, .if_icmp .eq 18, [73]), (58, .aload_n 0, []), (59, .getfield 27, []), (62, .iload_n 3, []), (63, .iaload, []), (64, .aload_n 0, []), (65, .getfield 27, []), (68, .iload_n 2, []), (69, .iaload, []), (70, .if_icmp .le 5, [75]), (73, .iload_n 3, []), (74, .istore_n 2, []), (75, .iinc 3 1, []), (78, .goto (-73), [5]), (81, .iload_n 2, []), (82, .ireturn, [])], [(52, (1, 4, 0, 0, 0)), (24, (1, 5, 1, 6, 0)), (27, (1, 6, 1, 7, 0)), (33, (1, 8, 1, 9, 0))], [], [], [], 0, 0, 0, 0)
theorem ok_X9_carrierOf : MOK M_X9_carrierOf := ⟨by decide +kernel, List.forall_mem_cons.mpr ⟨fl_RX9_52, List.forall_mem_cons.mpr ⟨fl_RX9_24, List.forall_mem_cons.mpr ⟨fl_RX9_27, List.forall_mem_cons.mpr ⟨fl_RX9_33, fun _ h => absurd h List.not_mem_nil⟩⟩⟩⟩, fun _ h => absurd h List.not_mem_nil, fun _ h => absurd h List.not_mem_nil, fun _ h => absurd h List.not_mem_nil⟩
set_option maxRecDepth 100000 in
theorem vc_X9_carrierOf {K : Int32 → AH → Prop} {h : AH} (p0 : Nat) (p1 : Int32) (H : AW M_X9_carrierOf (.inl K) 5 [some (aR 1 p0), some (aI p1), some (aI (iI (-4))), some (aI (nI 0)), none] [] h 0 0) : AW M_X9_carrierOf (.inl K) 0 [some (aR 1 p0), some (aI p1), none, none, none] [] h 0 0 := AW_go (cuts := [(5, [true, true, true, true, false]), (47, [true, true, true, true, true])]) ok_X9_carrierOf 400 H
set_option maxRecDepth 100000 in
theorem vc_X9_carrierOf_5 {K : Int32 → AH → Prop} {h : AH}  (l0 : Nat) (l1 : Int32) (l2 : Int32) (l3 : Int32) (H : (((h.1 1 l0 4) ≤ l3) → K l2 h) ∧ (¬ ((h.1 1 l0 4) ≤ l3) → inR l3 4 ∧ inR l3 4 ∧ ((((h.1 6 l0 l3.toNatClampNeg) + (h.1 7 l0 l3.toNatClampNeg)) < l1) → AW M_X9_carrierOf (.inl K) 47 [some (aR 1 l0), some (aI l1), some (aI l2), some (aI l3), some (aI (nI 0))] [] h 0 0) ∧ (¬ (((h.1 6 l0 l3.toNatClampNeg) + (h.1 7 l0 l3.toNatClampNeg)) < l1) → inR l3 4 ∧ (((nI 5) ≤ (h.1 9 l0 l3.toNatClampNeg)) → AW M_X9_carrierOf (.inl K) 47 [some (aR 1 l0), some (aI l1), some (aI l2), some (aI l3), some (aI (nI 0))] [] h 0 0) ∧ (¬ ((nI 5) ≤ (h.1 9 l0 l3.toNatClampNeg)) → AW M_X9_carrierOf (.inl K) 47 [some (aR 1 l0), some (aI l1), some (aI l2), some (aI l3), some (aI (nI 1))] [] h 0 0)))) : AW M_X9_carrierOf (.inl K) 5 [some (aR 1 l0), some (aI l1), some (aI l2), some (aI l3), none] [] h 0 0 := AW_go (cuts := [(5, [true, true, true, true, false]), (47, [true, true, true, true, true])]) ok_X9_carrierOf 400 H
set_option maxRecDepth 100000 in
theorem vc_X9_carrierOf_47 {K : Int32 → AH → Prop} {h : AH}  (l0 : Nat) (l1 : Int32) (l2 : Int32) (l3 : Int32) (l4 : Int32) (H : ((l4 = 0) → AW M_X9_carrierOf (.inl K) 5 [some (aR 1 l0), some (aI l1), some (aI l2), some (aI (l3 + (nI 1))), none] [] h 0 0) ∧ (¬ (l4 = 0) → ((l2 = (iI (-4))) → AW M_X9_carrierOf (.inl K) 5 [some (aR 1 l0), some (aI l1), some (aI l3), some (aI (l3 + (nI 1))), none] [] h 0 0) ∧ (¬ (l2 = (iI (-4))) → inR l3 4 ∧ inR l2 4 ∧ (((h.1 7 l0 l3.toNatClampNeg) ≤ (h.1 7 l0 l2.toNatClampNeg)) → AW M_X9_carrierOf (.inl K) 5 [some (aR 1 l0), some (aI l1), some (aI l2), some (aI (l3 + (nI 1))), none] [] h 0 0) ∧ (¬ ((h.1 7 l0 l3.toNatClampNeg) ≤ (h.1 7 l0 l2.toNatClampNeg)) → AW M_X9_carrierOf (.inl K) 5 [some (aR 1 l0), some (aI l1), some (aI l3), some (aI (l3 + (nI 1))), none] [] h 0 0)))) : AW M_X9_carrierOf (.inl K) 47 [some (aR 1 l0), some (aI l1), some (aI l2), some (aI l3), some (aI l4)] [] h 0 0 := AW_go (cuts := [(5, [true, true, true, true, false]), (47, [true, true, true, true, true])]) ok_X9_carrierOf 400 H

theorem lp_X9_carrierOf {v x : Nat} {V : Vm} {h : AH} {K : Int32 → AH → Prop} (cv : CV h v V) (hw : WF V) (hx : x ≤ 100) (k : K (oI (car V x (V 10 0))) h) : ∀ r e, e + r = V 10 0 → AW M_X9_carrierOf (.inl K) 5 [some (aR 1 v), some (aI (nI x)), some (aI (oI (car V x e))), some (aI (nI e)), none] [] h 0 0 := by
  have h4 := hw.1
  obtain ⟨-, -, -, -, e4, e5, -, e7, e0, -⟩ := CVs cv
  intro r
  induction r with
  | zero =>
    intro e he
    refine vc_X9_carrierOf_5 v (nI x) _ (nI e) ?_
    rw [e0, n_le (by omega) (by omega)]
    have : e = V 10 0 := by omega
    subst this
    exact ⟨fun _ => k, fun q => absurd (Nat.le_refl _) q⟩
  | succ r ih =>
    intro e he
    have he0 : e < V 10 0 := by omega
    have hbe := hw.2.2.2.2.2.1 e he0
    have next := ih (e + 1) (by omega)
    have can : ∀ b, (b = 0 ↔ ¬ cap V x e) → AW M_X9_carrierOf (.inl K) 47 [some (aR 1 v), some (aI (nI x)), some (aI (oI (car V x e))), some (aI (nI e)), some (aI b)] [] h 0 0 := by
      intro b hb
      refine vc_X9_carrierOf_47 v (nI x) _ (nI e) b ?_
      rw [hb, nI_add]
      refine ⟨fun q => ?_, fun q => ?_⟩
      · rw [car_no q] at next; exact next
      · have hc := Decidable.not_not.mp q
        cases hcar : car V x e with
        | none =>
          rw [car_new hc hcar] at next
          exact ⟨fun _ => next, fun z => absurd rfl z⟩
        | some p =>
          have hp1 := (car_lt hcar).1
          have hbp := hw.2.2.2.2.2.1 p (by omega)
          show (nI p = iI (-4) → _) ∧ (¬ nI p = iI (-4) → _)
          rw [m_ne (by omega) (by omega) (by omega)]
          refine ⟨fun z => z.elim, fun _ => ?_⟩
          simp (disch := omega) only [oI, n_inT, n_cl, true_and, e5, n_le]
          refine ⟨fun q3 => ?_, fun q3 => ?_⟩
          · rw [car_le hcar (by omega)] at next; exact next
          · rw [car_gt hc hcar (by omega)] at next; exact next
    refine vc_X9_carrierOf_5 v (nI x) _ (nI e) ?_
    simp (disch := omega) only [e0, n_le, n_inT, n_cl, true_and, e4, e5, e7, nI_add, n_lt]
    refine ⟨fun q => by omega, fun _ => ⟨fun q => can _ ?_, fun q => ⟨fun q2 => can _ ?_, fun q2 => can _ ?_⟩⟩⟩
    · exact ⟨fun _ z => by have := z.1; omega, fun _ => by decide⟩
    · exact ⟨fun _ z => by have := z.2; omega, fun _ => by decide⟩
    · exact ⟨fun z => absurd z (by decide), fun z => absurd ⟨by omega, by omega⟩ z⟩
theorem snd_X9_carrierOf (v : Nat) (w : Int32) {h : AH} {K : Int32 → AH → Prop} (k : S_X9_carrierOf v w h K) : AW M_X9_carrierOf (.inl K) 0 [some (aR 1 v), some (aI w), none, none, none] [] h 0 0 := by
  obtain ⟨V, x, cv, hw, hx, rfl, k⟩ := k
  exact vc_X9_carrierOf v (nI x) (lp_X9_carrierOf cv hw hx k (V 10 0) 0 (by omega))
theorem tr_X9_carrierOf : ∀ (as : List AV) (h : AH) (K : Int32 → AH → Prop), T_X9_carrierOf as h K → ∃ (q : Nat) (r : List AV), as = aR 1 q :: r := by
  intro as h K hk
  match as, hk with
  | [.inr (.inr (.inl q0)), .inl q1], hk =>
    obtain ⟨hb, hk⟩ := tif_inv hk
    have e0 := hb
    obtain ⟨a0, b0⟩ := q0
    have f0 : a0 = 1 := Nat.eq_of_beq_eq_true e0
    subst f0
    exact ⟨_, _, rfl⟩
theorem tw_X9_carrierOf : ∀ (as : List AV) (h : AH) (K : Int32 → AH → Prop), T_X9_carrierOf as h K → (ini as).length ≤ mNL M_X9_carrierOf ∧ AW M_X9_carrierOf (.inl K) 0 (initL (mNL M_X9_carrierOf) as) [] h 0 0 := by
  intro as h K hk
  match as, hk with
  | [.inr (.inr (.inl q0)), .inl q1], hk =>
    obtain ⟨hb, hk⟩ := tif_inv hk
    have e0 := hb
    obtain ⟨a0, b0⟩ := q0
    have f0 : a0 = 1 := Nat.eq_of_beq_eq_true e0
    subst f0
    exact ⟨Nat.le_of_ble_eq_true rfl, snd_X9_carrierOf b0 q1 hk⟩
theorem cr_RX9_249 : CR RX9 (kIns 249) (2, 1, 24, 0, 0, .inl T_X9_carrierOf) := crV_i (t := 1) (M := M_X9_carrierOf) (by decide) rfl (by decide) rfl (inG (i := 488) (w := Cond.methodLink RX9 83 yX9_carrierOf) (by decide +kernel) rfl) (inG (i := 489) (w := Cond.instanceMethod yX9_carrierOf) (by decide +kernel) rfl) (inG (i := 38) (w := Cond.initialized RX9) (by decide +kernel) rfl) (inG (i := 490) (w := Cond.selects RX9 yX9_carrierOf yX9_carrierOf) (by decide +kernel) rfl) (inG (i := 491) (w := Cond.code yX9_carrierOf cX9_carrierOf 5 (some .int)) (by decide +kernel) rfl) ⟨by decide +kernel, by decide +kernel, by decide +kernel⟩ tr_X9_carrierOf tw_X9_carrierOf
theorem cr_RX10_549 : CR RX10 (kIns 549) (2, 1, 24, 0, 0, .inl T_X9_carrierOf) := crV_i (t := 1) (M := M_X9_carrierOf) (by decide) rfl (by decide) rfl (inG (i := 623) (w := Cond.methodLink RX10 183 yX9_carrierOf) (by decide +kernel) rfl) (inG (i := 489) (w := Cond.instanceMethod yX9_carrierOf) (by decide +kernel) rfl) (inG (i := 38) (w := Cond.initialized RX9) (by decide +kernel) rfl) (inG (i := 490) (w := Cond.selects RX9 yX9_carrierOf yX9_carrierOf) (by decide +kernel) rfl) (inG (i := 491) (w := Cond.code yX9_carrierOf cX9_carrierOf 5 (some .int)) (by decide +kernel) rfl) ⟨by decide +kernel, by decide +kernel, by decide +kernel⟩ tr_X9_carrierOf tw_X9_carrierOf

def S_X9_takerOf (v : Nat) (o : Option Nat) (c : Int32) (h : AH) (K : Int32 → AH → Prop) : Prop := ∃ V n m, vPre v o h V n ∧ m < 8 ∧ c = nI m ∧ K (oI (tak V n m)) h
def T_X9_takerOf : List AV → AH → (Int32 → AH → Prop) → Prop := fun as h K => match as with
  | [.inr (.inr (.inl q0)), .inr (.inr (.inr q1)), .inl q2] => tif (Nat.beq q0.1 1) (S_X9_takerOf q0.2 q1 q2 h K)
  | _ => False

def M_X9_takerOf : MI := (RX9, cX9_takerOf, 3, [(0, .aload_n 0, []), (1, .aload_n 1, []), (2, .iload_n 2, []), (3, .invokevirtual 79, []), (6, .ifCond .eq 8, [14]), (9, .bipush (-4), []), (11, .goto 11, [22]), (14, .aload_n 0, []), (15, .aload_n 1, []), (16, .getfield 72, []), (19, .invokevirtual 83, []), (22, .ireturn, [])], [(72, (18, 2, 0, 0, 0))], [], [], [(237, (3, 2, 42, 0, 0, .inl T_X9_isEaten)), (249, (2, 1, 24, 0, 0, .inl T_X9_carrierOf))], 2, 42, 0, 0)
theorem ok_X9_takerOf : MOK M_X9_takerOf := ⟨by decide +kernel, List.forall_mem_cons.mpr ⟨fl_RX9_72, fun _ h => absurd h List.not_mem_nil⟩, fun _ h => absurd h List.not_mem_nil, fun _ h => absurd h List.not_mem_nil, List.forall_mem_cons.mpr ⟨⟨Nat.le_of_ble_eq_true rfl, Nat.le_of_ble_eq_true rfl, cr_RX9_237⟩, List.forall_mem_cons.mpr ⟨⟨Nat.le_of_ble_eq_true rfl, Nat.le_of_ble_eq_true rfl, cr_RX9_249⟩, fun _ h => absurd h List.not_mem_nil⟩⟩⟩
set_option maxRecDepth 100000 in
theorem vc_X9_takerOf {K : Int32 → AH → Prop} {h : AH} (p0 : Nat) (p1 : Option Nat) (p2 : Int32) (H : S_X9_isEaten p0 p1 p2 h (fun x2 h1 => ((x2 = 0) → oE p1 fun a3 => S_X9_carrierOf p0 (h1.1 18 a3 2) h1 (fun x5 h4 => K x5 h4)) ∧ (¬ (x2 = 0) → K (iI (-4)) h1))) : AW M_X9_takerOf (.inl K) 0 [some (aR 1 p0), some (aS p1), some (aI p2)] [] h 0 0 := AW_go (cuts := []) ok_X9_takerOf 400 H

theorem snd_X9_takerOf (v : Nat) (o : Option Nat) (c : Int32) {h : AH} {K : Int32 → AH → Prop} (k : S_X9_takerOf v o c h K) : AW M_X9_takerOf (.inl K) 0 [some (aR 1 v), some (aS o), some (aI c)] [] h 0 0 := by
  obtain ⟨V, n, m, hp, hm, rfl, k⟩ := k
  refine vc_X9_takerOf v o (nI m) ⟨V, n, m, hp, hm, rfl, ?_⟩
  obtain ⟨cv, hw, hn, a, rfl, -, -, s3, -⟩ := hp
  have hwt : wt (V 8 n) (V 9 n) ≤ 38 := wt_le (hw.2.2.2.2.2.2 n hn).2
  (try dsimp only)
  simp only [if10_eq]
  unfold tak at k
  refine ⟨fun q => ?_, fun q => ?_⟩
  · rw [if_neg q] at k
    exact ⟨V, wt (V 8 n) (V 9 n), cv, hw, by omega, s3, k⟩
  · rw [if_pos (Decidable.not_not.mp q)] at k; exact k
theorem tr_X9_takerOf : ∀ (as : List AV) (h : AH) (K : Int32 → AH → Prop), T_X9_takerOf as h K → ∃ (q : Nat) (r : List AV), as = aR 1 q :: r := by
  intro as h K hk
  match as, hk with
  | [.inr (.inr (.inl q0)), .inr (.inr (.inr q1)), .inl q2], hk =>
    obtain ⟨hb, hk⟩ := tif_inv hk
    have e0 := hb
    obtain ⟨a0, b0⟩ := q0
    have f0 : a0 = 1 := Nat.eq_of_beq_eq_true e0
    subst f0
    exact ⟨_, _, rfl⟩
theorem tw_X9_takerOf : ∀ (as : List AV) (h : AH) (K : Int32 → AH → Prop), T_X9_takerOf as h K → (ini as).length ≤ mNL M_X9_takerOf ∧ AW M_X9_takerOf (.inl K) 0 (initL (mNL M_X9_takerOf) as) [] h 0 0 := by
  intro as h K hk
  match as, hk with
  | [.inr (.inr (.inl q0)), .inr (.inr (.inr q1)), .inl q2], hk =>
    obtain ⟨hb, hk⟩ := tif_inv hk
    have e0 := hb
    obtain ⟨a0, b0⟩ := q0
    have f0 : a0 = 1 := Nat.eq_of_beq_eq_true e0
    subst f0
    exact ⟨Nat.le_of_ble_eq_true rfl, snd_X9_takerOf b0 q1 q2 hk⟩
theorem cr_RX9_282 : CR RX9 (kIns 282) (3, 3, 64, 0, 0, .inl T_X9_takerOf) := crV_i (t := 1) (M := M_X9_takerOf) (by decide) rfl (by decide) rfl (inG (i := 476) (w := Cond.methodLink RX9 94 yX9_takerOf) (by decide +kernel) rfl) (inG (i := 477) (w := Cond.instanceMethod yX9_takerOf) (by decide +kernel) rfl) (inG (i := 38) (w := Cond.initialized RX9) (by decide +kernel) rfl) (inG (i := 478) (w := Cond.selects RX9 yX9_takerOf yX9_takerOf) (by decide +kernel) rfl) (inG (i := 479) (w := Cond.code yX9_takerOf cX9_takerOf 3 (some .int)) (by decide +kernel) rfl) ⟨by decide +kernel, by decide +kernel, by decide +kernel⟩ tr_X9_takerOf tw_X9_takerOf
theorem cr_RX10_483 : CR RX10 (kIns 483) (3, 3, 64, 0, 0, .inl T_X9_takerOf) := crV_i (t := 1) (M := M_X9_takerOf) (by decide) rfl (by decide) rfl (inG (i := 560) (w := Cond.methodLink RX10 161 yX9_takerOf) (by decide +kernel) rfl) (inG (i := 477) (w := Cond.instanceMethod yX9_takerOf) (by decide +kernel) rfl) (inG (i := 38) (w := Cond.initialized RX9) (by decide +kernel) rfl) (inG (i := 478) (w := Cond.selects RX9 yX9_takerOf yX9_takerOf) (by decide +kernel) rfl) (inG (i := 479) (w := Cond.code yX9_takerOf cX9_takerOf 3 (some .int)) (by decide +kernel) rfl) ⟨by decide +kernel, by decide +kernel, by decide +kernel⟩ tr_X9_takerOf tw_X9_takerOf

theorem sk_wor {V : Vm} {n m : Nat} (h0 : V 0 m ≤ 9) (h1 : V 1 m ≤ 9) : skP (vSt V n) (10 * V 0 m + V 1 m) / 10 = sB V n m ∧ skP (vSt V n) (10 * V 0 m + V 1 m) % 10 = sS V n m ∧ skP (vSt V n) (10 * V 0 m + V 1 m) < 100 := by
  obtain ⟨a, b, c, d⟩ := skP_ok (k := vSt V n) (P := 10 * V 0 m + V 1 m) (by omega)
  rw [a, b, show (10 * V 0 m + V 1 m) / 10 = V 0 m by omega, show (10 * V 0 m + V 1 m) % 10 = V 1 m by omega]
  exact ⟨rfl, rfl, c⟩
def S_X9_stuckIn (v : Nat) (o : Option Nat) (c : Int32) (h : AH) (K : Int32 → AH → Prop) : Prop := ∃ V n m, vPre v o h V n ∧ m < 8 ∧ c = nI m ∧ ∀ P, P < 100 → P / 10 = sB V n m → P % 10 = sS V n m → K (nI P) h
def T_X9_stuckIn : List AV → AH → (Int32 → AH → Prop) → Prop := fun as h K => match as with
  | [.inr (.inr (.inl q0)), .inr (.inr (.inr q1)), .inl q2] => tif (Nat.beq q0.1 1) (S_X9_stuckIn q0.2 q1 q2 h K)
  | _ => False

def M_X9_stuckIn : MI := (RX9, cX9_stuckIn, 3, [(0, .bipush 10, []), (2, .aload_n 0, []), (3, .getfield 9, []), (6, .iload_n 2, []), (7, .iaload, []), (8, .imul, []), (9, .aload_n 0, []), (10, .getfield 15, []), (13, .iload_n 2, []), (14, .iaload, []), (15, .iadd, []), (16, .aload_n 1, []), (17, .getfield 87, []), (20, .invokestatic 90, []), (23, .ireturn, [])], [(9, (1, 0, 1, 2, 0)), (15, (1, 1, 1, 3, 0)), (87, (18, 3, 0, 0, 0))], [], [], [(271, (2, 2, 43, 0, 0, .inl T_X10_stuckOf))], 2, 43, 0, 0)
theorem ok_X9_stuckIn : MOK M_X9_stuckIn := ⟨by decide +kernel, List.forall_mem_cons.mpr ⟨fl_RX9_9, List.forall_mem_cons.mpr ⟨fl_RX9_15, List.forall_mem_cons.mpr ⟨fl_RX9_87, fun _ h => absurd h List.not_mem_nil⟩⟩⟩, fun _ h => absurd h List.not_mem_nil, fun _ h => absurd h List.not_mem_nil, List.forall_mem_cons.mpr ⟨⟨Nat.le_of_ble_eq_true rfl, Nat.le_of_ble_eq_true rfl, cr_RX9_271⟩, fun _ h => absurd h List.not_mem_nil⟩⟩
set_option maxRecDepth 100000 in
theorem vc_X9_stuckIn {K : Int32 → AH → Prop} {h : AH} (p0 : Nat) (p1 : Option Nat) (p2 : Int32) (H : inR p2 8 ∧ inR p2 8 ∧ oE p1 fun a1 => S_X10_stuckOf (((nI 10) * (h.1 2 p0 p2.toNatClampNeg)) + (h.1 3 p0 p2.toNatClampNeg)) (h.1 18 a1 3) h (fun x3 h2 => K x3 h2)) : AW M_X9_stuckIn (.inl K) 0 [some (aR 1 p0), some (aS p1), some (aI p2)] [] h 0 0 := AW_go (cuts := []) ok_X9_stuckIn 400 H

theorem snd_X9_stuckIn (v : Nat) (o : Option Nat) (c : Int32) {h : AH} {K : Int32 → AH → Prop} (k : S_X9_stuckIn v o c h K) : AW M_X9_stuckIn (.inl K) 0 [some (aR 1 v), some (aS o), some (aI c)] [] h 0 0 := by
  obtain ⟨V, n, m, ⟨cv, hw, hn, a, rfl, -, -, -, s4, -⟩, hm, rfl, k⟩ := k
  obtain ⟨e0, e1, -⟩ := CVs cv
  have hc := hw.2.2.2.2.1 m hm
  have hst : stk (V 8 n) (V 9 n) ≤ 12 := stk_le (hw.2.2.2.2.2.2 n hn).2
  refine vc_X9_stuckIn v (some a) (nI m) ?_
  simp (disch := omega) only [n_inT, n_cl, true_and, e0, e1, pk_mul, nI_add]
  obtain ⟨k1, k2, k3⟩ := sk_wor (V := V) (n := n) (m := m) hc.1 hc.2.1
  exact ⟨10 * V 0 m + V 1 m, stk (V 8 n) (V 9 n), by omega, hst, rfl, s4, k _ k3 k1 k2⟩
theorem tr_X9_stuckIn : ∀ (as : List AV) (h : AH) (K : Int32 → AH → Prop), T_X9_stuckIn as h K → ∃ (q : Nat) (r : List AV), as = aR 1 q :: r := by
  intro as h K hk
  match as, hk with
  | [.inr (.inr (.inl q0)), .inr (.inr (.inr q1)), .inl q2], hk =>
    obtain ⟨hb, hk⟩ := tif_inv hk
    have e0 := hb
    obtain ⟨a0, b0⟩ := q0
    have f0 : a0 = 1 := Nat.eq_of_beq_eq_true e0
    subst f0
    exact ⟨_, _, rfl⟩
theorem tw_X9_stuckIn : ∀ (as : List AV) (h : AH) (K : Int32 → AH → Prop), T_X9_stuckIn as h K → (ini as).length ≤ mNL M_X9_stuckIn ∧ AW M_X9_stuckIn (.inl K) 0 (initL (mNL M_X9_stuckIn) as) [] h 0 0 := by
  intro as h K hk
  match as, hk with
  | [.inr (.inr (.inl q0)), .inr (.inr (.inr q1)), .inl q2], hk =>
    obtain ⟨hb, hk⟩ := tif_inv hk
    have e0 := hb
    obtain ⟨a0, b0⟩ := q0
    have f0 : a0 = 1 := Nat.eq_of_beq_eq_true e0
    subst f0
    exact ⟨Nat.le_of_ble_eq_true rfl, snd_X9_stuckIn b0 q1 q2 hk⟩
theorem cr_RX9_294 : CR RX9 (kIns 294) (3, 3, 65, 0, 0, .inl T_X9_stuckIn) := crV_i (t := 1) (M := M_X9_stuckIn) (by decide) rfl (by decide) rfl (inG (i := 496) (w := Cond.methodLink RX9 98 yX9_stuckIn) (by decide +kernel) rfl) (inG (i := 497) (w := Cond.instanceMethod yX9_stuckIn) (by decide +kernel) rfl) (inG (i := 38) (w := Cond.initialized RX9) (by decide +kernel) rfl) (inG (i := 498) (w := Cond.selects RX9 yX9_stuckIn yX9_stuckIn) (by decide +kernel) rfl) (inG (i := 499) (w := Cond.code yX9_stuckIn cX9_stuckIn 3 (some .int)) (by decide +kernel) rfl) ⟨by decide +kernel, by decide +kernel, by decide +kernel⟩ tr_X9_stuckIn tw_X9_stuckIn

def S_X9_broughtBy (v : Nat) (o : Option Nat) (c : Int32) (h : AH) (K : Int32 → AH → Prop) : Prop := ∃ V n m, vPre v o h V n ∧ m < 8 ∧ c = nI m ∧ K (nI (brg V n m)) h
def T_X9_broughtBy : List AV → AH → (Int32 → AH → Prop) → Prop := fun as h K => match as with
  | [.inr (.inr (.inl q0)), .inr (.inr (.inr q1)), .inl q2] => tif (Nat.beq q0.1 1) (S_X9_broughtBy q0.2 q1 q2 h K)
  | _ => False

def M_X9_broughtBy : MI := (RX9, cX9_broughtBy, 3, [(0, .aload_n 0, []), (1, .aload_n 1, []), (2, .iload_n 2, []), (3, .invokevirtual 94, []), (6, .bipush (-4), []), (8, .if_icmp .ne 7, [15]), (11, .iconst 0, []), (12, .goto 12, [24]), (15, .aload_n 0, []), (16, .aload_n 1, []), (17, .iload_n 2, []), (18, .invokevirtual 98, []), (21, .invokestatic 101, []), (24, .ireturn, [])], [], [], [], [(282, (3, 3, 64, 0, 0, .inl T_X9_takerOf)), (294, (3, 3, 65, 0, 0, .inl T_X9_stuckIn)), (304, (1, 1, 20, 0, 0, .inl T_X10_worthOfPair))], 3, 65, 0, 0)
theorem ok_X9_broughtBy : MOK M_X9_broughtBy := ⟨by decide +kernel, fun _ h => absurd h List.not_mem_nil, fun _ h => absurd h List.not_mem_nil, fun _ h => absurd h List.not_mem_nil, List.forall_mem_cons.mpr ⟨⟨Nat.le_of_ble_eq_true rfl, Nat.le_of_ble_eq_true rfl, cr_RX9_282⟩, List.forall_mem_cons.mpr ⟨⟨Nat.le_of_ble_eq_true rfl, Nat.le_of_ble_eq_true rfl, cr_RX9_294⟩, List.forall_mem_cons.mpr ⟨⟨Nat.le_of_ble_eq_true rfl, Nat.le_of_ble_eq_true rfl, cr_RX9_304⟩, fun _ h => absurd h List.not_mem_nil⟩⟩⟩⟩
set_option maxRecDepth 100000 in
theorem vc_X9_broughtBy {K : Int32 → AH → Prop} {h : AH} (p0 : Nat) (p1 : Option Nat) (p2 : Int32) (H : S_X9_takerOf p0 p1 p2 h (fun x2 h1 => ((¬ x2 = (iI (-4))) → S_X9_stuckIn p0 p1 p2 h1 (fun x4 h3 => S_X10_worthOfPair x4 h3 (fun x6 h5 => K x6 h5))) ∧ (¬ (¬ x2 = (iI (-4))) → K (nI 0) h1))) : AW M_X9_broughtBy (.inl K) 0 [some (aR 1 p0), some (aS p1), some (aI p2)] [] h 0 0 := AW_go (cuts := []) ok_X9_broughtBy 400 H

theorem oI_no {o : Option Nat} (ho : ∀ p, o = some p → p < 2147483648) : oI o = iI (-4) ↔ o = none := by
  cases o with
  | none => exact ⟨fun _ => rfl, fun _ => rfl⟩
  | some p =>
    have := ho p rfl
    show nI p = iI (-4) ↔ _
    rw [m_ne (by omega) (by omega) this]
    exact ⟨fun z => z.elim, fun z => by cases z⟩
theorem tak_4 {V : Vm} (hw : WF V) {n m : Nat} : ∀ p, tak V n m = some p → p < 2147483648 := fun p hp => by
  have := tak_lt hp
  have := hw.1
  omega
theorem snd_X9_broughtBy (v : Nat) (o : Option Nat) (c : Int32) {h : AH} {K : Int32 → AH → Prop} (k : S_X9_broughtBy v o c h K) : AW M_X9_broughtBy (.inl K) 0 [some (aR 1 v), some (aS o), some (aI c)] [] h 0 0 := by
  obtain ⟨V, n, m, hp, hm, rfl, k⟩ := k
  refine vc_X9_broughtBy v o (nI m) ⟨V, n, m, hp, hm, rfl, ?_⟩
  (try dsimp only)
  rw [oI_no (tak_4 hp.2.1)]
  unfold brg at k
  cases ht : tak V n m with
  | none =>
    rw [ht] at k
    exact ⟨fun z => absurd rfl z, fun _ => k⟩
  | some e =>
    rw [ht] at k
    refine ⟨fun _ => ⟨V, n, m, hp, hm, rfl, fun P h1 h2 h3 => ⟨P, by omega, rfl, ?_⟩⟩, fun z => absurd (fun z2 => by cases z2) z⟩
    rw [h2, h3]
    exact k
theorem tr_X9_broughtBy : ∀ (as : List AV) (h : AH) (K : Int32 → AH → Prop), T_X9_broughtBy as h K → ∃ (q : Nat) (r : List AV), as = aR 1 q :: r := by
  intro as h K hk
  match as, hk with
  | [.inr (.inr (.inl q0)), .inr (.inr (.inr q1)), .inl q2], hk =>
    obtain ⟨hb, hk⟩ := tif_inv hk
    have e0 := hb
    obtain ⟨a0, b0⟩ := q0
    have f0 : a0 = 1 := Nat.eq_of_beq_eq_true e0
    subst f0
    exact ⟨_, _, rfl⟩
theorem tw_X9_broughtBy : ∀ (as : List AV) (h : AH) (K : Int32 → AH → Prop), T_X9_broughtBy as h K → (ini as).length ≤ mNL M_X9_broughtBy ∧ AW M_X9_broughtBy (.inl K) 0 (initL (mNL M_X9_broughtBy) as) [] h 0 0 := by
  intro as h K hk
  match as, hk with
  | [.inr (.inr (.inl q0)), .inr (.inr (.inr q1)), .inl q2], hk =>
    obtain ⟨hb, hk⟩ := tif_inv hk
    have e0 := hb
    obtain ⟨a0, b0⟩ := q0
    have f0 : a0 = 1 := Nat.eq_of_beq_eq_true e0
    subst f0
    exact ⟨Nat.le_of_ble_eq_true rfl, snd_X9_broughtBy b0 q1 q2 hk⟩
theorem cr_RX10_459 : CR RX10 (kIns 459) (3, 4, 87, 0, 0, .inl T_X9_broughtBy) := crV_i (t := 1) (M := M_X9_broughtBy) (by decide) rfl (by decide) rfl (inG (i := 555) (w := Cond.methodLink RX10 153 yX9_broughtBy) (by decide +kernel) rfl) (inG (i := 556) (w := Cond.instanceMethod yX9_broughtBy) (by decide +kernel) rfl) (inG (i := 38) (w := Cond.initialized RX9) (by decide +kernel) rfl) (inG (i := 557) (w := Cond.selects RX9 yX9_broughtBy yX9_broughtBy) (by decide +kernel) rfl) (inG (i := 558) (w := Cond.code yX9_broughtBy cX9_broughtBy 3 (some .int)) (by decide +kernel) rfl) ⟨by decide +kernel, by decide +kernel, by decide +kernel⟩ tr_X9_broughtBy tw_X9_broughtBy
theorem cr_RX9_360 : CR RX9 (kIns 360) (3, 4, 87, 0, 0, .inl T_X9_broughtBy) := crV_i (t := 1) (M := M_X9_broughtBy) (by decide) rfl (by decide) rfl (inG (i := 578) (w := Cond.methodLink RX9 120 yX9_broughtBy) (by decide +kernel) rfl) (inG (i := 556) (w := Cond.instanceMethod yX9_broughtBy) (by decide +kernel) rfl) (inG (i := 38) (w := Cond.initialized RX9) (by decide +kernel) rfl) (inG (i := 557) (w := Cond.selects RX9 yX9_broughtBy yX9_broughtBy) (by decide +kernel) rfl) (inG (i := 558) (w := Cond.code yX9_broughtBy cX9_broughtBy 3 (some .int)) (by decide +kernel) rfl) ⟨by decide +kernel, by decide +kernel, by decide +kernel⟩ tr_X9_broughtBy tw_X9_broughtBy

def S_X9_gainOf (v : Nat) (s c : Int32) (h : AH) (K : Int32 → AH → Prop) : Prop := ∃ V n m, CV h v V ∧ WF V ∧ n < V 10 1 ∧ s = nI n ∧ m < 8 ∧ c = nI m ∧ K (iI (gn V n m)) h
def T_X9_gainOf : List AV → AH → (Int32 → AH → Prop) → Prop := fun as h K => match as with
  | [.inr (.inr (.inl q0)), .inl q1, .inl q2] => tif (Nat.beq q0.1 1) (S_X9_gainOf q0.2 q1 q2 h K)
  | _ => False

def M_X9_gainOf : MI := (RX9, cX9_gainOf, 3, [(0, .aload_n 0, []), (1, .aload_n 0, []), (2, .getfield 38, []), (5, .iload_n 1, []), (6, .aaload, []), (7, .iload_n 2, []), (8, .invokevirtual 120, []), (11, .aload_n 0, []), (12, .getfield 38, []), (15, .iload_n 1, []), (16, .aaload, []), (17, .getfield 123, []), (20, .isub, []), (21, .ireturn, [])], [(38, (1, 10, 1, 10, 0)), (123, (18, 5, 0, 0, 0))], [], [], [(360, (3, 4, 87, 0, 0, .inl T_X9_broughtBy))], 4, 87, 0, 0)
theorem ok_X9_gainOf : MOK M_X9_gainOf := ⟨by decide +kernel, List.forall_mem_cons.mpr ⟨fl_RX9_38, List.forall_mem_cons.mpr ⟨fl_RX9_123, fun _ h => absurd h List.not_mem_nil⟩⟩, fun _ h => absurd h List.not_mem_nil, fun _ h => absurd h List.not_mem_nil, List.forall_mem_cons.mpr ⟨⟨Nat.le_of_ble_eq_true rfl, Nat.le_of_ble_eq_true rfl, cr_RX9_360⟩, fun _ h => absurd h List.not_mem_nil⟩⟩
set_option maxRecDepth 100000 in
theorem vc_X9_gainOf {K : Int32 → AH → Prop} {h : AH} (p0 : Nat) (p1 : Int32) (p2 : Int32) (H : inR p1 7 ∧ S_X9_broughtBy p0 (h.2.1 10 p0 p1.toNatClampNeg) p2 h (fun x2 h1 => inR p1 7 ∧ oE (h1.2.1 10 p0 p1.toNatClampNeg) fun a3 => K (x2 - (h1.1 18 a3 5)) h1)) : AW M_X9_gainOf (.inl K) 0 [some (aR 1 p0), some (aI p1), some (aI p2)] [] h 0 0 := AW_go (cuts := []) ok_X9_gainOf 400 H

theorem snd_X9_gainOf (v : Nat) (s c : Int32) {h : AH} {K : Int32 → AH → Prop} (k : S_X9_gainOf v s c h K) : AW M_X9_gainOf (.inl K) 0 [some (aR 1 v), some (aI s), some (aI c)] [] h 0 0 := by
  obtain ⟨V, n, m, cv, hw, hn, rfl, hm, rfl, k⟩ := k
  have h7 := hw.2.1
  have sp := (CVs cv).2.2.2.2.2.2.2.2.2.2.2.2 n hn
  refine vc_X9_gainOf v (nI n) (nI m) ?_
  simp (disch := omega) only [n_inT, n_cl, true_and]
  refine ⟨V, n, m, ⟨cv, hw, hn, sp⟩, hm, rfl, ?_⟩
  obtain ⟨a, e, -, -, -, -, -, s6, -⟩ := sp
  rw [e]
  show K (nI (brg V n m) - h.1 18 a 5) h
  rw [s6, n_subI]
  exact k
theorem tr_X9_gainOf : ∀ (as : List AV) (h : AH) (K : Int32 → AH → Prop), T_X9_gainOf as h K → ∃ (q : Nat) (r : List AV), as = aR 1 q :: r := by
  intro as h K hk
  match as, hk with
  | [.inr (.inr (.inl q0)), .inl q1, .inl q2], hk =>
    obtain ⟨hb, hk⟩ := tif_inv hk
    have e0 := hb
    obtain ⟨a0, b0⟩ := q0
    have f0 : a0 = 1 := Nat.eq_of_beq_eq_true e0
    subst f0
    exact ⟨_, _, rfl⟩
theorem tw_X9_gainOf : ∀ (as : List AV) (h : AH) (K : Int32 → AH → Prop), T_X9_gainOf as h K → (ini as).length ≤ mNL M_X9_gainOf ∧ AW M_X9_gainOf (.inl K) 0 (initL (mNL M_X9_gainOf) as) [] h 0 0 := by
  intro as h K hk
  match as, hk with
  | [.inr (.inr (.inl q0)), .inl q1, .inl q2], hk =>
    obtain ⟨hb, hk⟩ := tif_inv hk
    have e0 := hb
    obtain ⟨a0, b0⟩ := q0
    have f0 : a0 = 1 := Nat.eq_of_beq_eq_true e0
    subst f0
    exact ⟨Nat.le_of_ble_eq_true rfl, snd_X9_gainOf b0 q1 q2 hk⟩
theorem cr_RX9_390 : CR RX9 (kIns 390) (3, 5, 109, 0, 0, .inl T_X9_gainOf) := crV_i (t := 1) (M := M_X9_gainOf) (by decide) rfl (by decide) rfl (inG (i := 589) (w := Cond.methodLink RX9 130 yX9_gainOf) (by decide +kernel) rfl) (inG (i := 590) (w := Cond.instanceMethod yX9_gainOf) (by decide +kernel) rfl) (inG (i := 38) (w := Cond.initialized RX9) (by decide +kernel) rfl) (inG (i := 591) (w := Cond.selects RX9 yX9_gainOf yX9_gainOf) (by decide +kernel) rfl) (inG (i := 592) (w := Cond.code yX9_gainOf cX9_gainOf 3 (some .int)) (by decide +kernel) rfl) ⟨by decide +kernel, by decide +kernel, by decide +kernel⟩ tr_X9_gainOf tw_X9_gainOf
theorem cr_RX10_528 : CR RX10 (kIns 528) (3, 5, 109, 0, 0, .inl T_X9_gainOf) := crV_i (t := 1) (M := M_X9_gainOf) (by decide) rfl (by decide) rfl (inG (i := 606) (w := Cond.methodLink RX10 176 yX9_gainOf) (by decide +kernel) rfl) (inG (i := 590) (w := Cond.instanceMethod yX9_gainOf) (by decide +kernel) rfl) (inG (i := 38) (w := Cond.initialized RX9) (by decide +kernel) rfl) (inG (i := 591) (w := Cond.selects RX9 yX9_gainOf yX9_gainOf) (by decide +kernel) rfl) (inG (i := 592) (w := Cond.code yX9_gainOf cX9_gainOf 3 (some .int)) (by decide +kernel) rfl) ⟨by decide +kernel, by decide +kernel, by decide +kernel⟩ tr_X9_gainOf tw_X9_gainOf


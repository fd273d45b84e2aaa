/-! ===== the reference's rows: weights, carriers, throws ===== -/
abbrev rPre (j : Nat) (a : Int32) (h : AH) (V : Vm) (n : Nat) : Prop := RV (h.1 16 j) V ∧ WF V ∧ n < V 10 1 ∧ a = nI n
def S_X11_weight (j : Nat) (a : Int32) (h : AH) (K : Int32 → AH → Prop) : Prop := ∃ V n, rPre j a h V n ∧ K (nI (vWt V n)) h
def T_X11_weight : List AV → AH → (Int32 → AH → Prop) → Prop := fun as h K => match as with
  | [.inr (.inr (.inl q0)), .inl q1] => tif (Nat.beq q0.1 16) (S_X11_weight q0.2 q1 h K)
  | _ => False

def M_X11_weight : MI := (RX11, cX11_weight, 3, [(0, .aload_n 0, []), (1, .iload_n 1, []), (2, .invokestatic 57, []), (5, .istore_n 2, []), (6, .aload_n 0, []), (7, .iload_n 1, []), (8, .invokestatic 61, []), (11, .tableswitch 64 1 7 #[41, 45, 50, 41, 55, 41, 62], [75, 52, 56, 61, 52, 66, 52, 73]), (52, .iconst 3, []), (53, .iload_n 2, []), (54, .iadd, []), (55, .ireturn, []), (56, .bipush 10, []), (58, .iload_n 2, []), (59, .iadd, []), (60, .ireturn, []), (61, .bipush 18, []), (63, .iload_n 2, []), (64, .iadd, []), (65, .ireturn, []), (66, .bipush 20, []), (68, .iconst 2, []), (69, .iload_n 2, []), (70, .imul, []), (71, .iadd, []), (72, .ireturn, []), (73, .iconst 2, []), (74, .ireturn, []), (75, .bipush 6, []), (77, .iload_n 2, []), (78, .iadd, []), (79, .ireturn, [])], [], [], [], [(172, (2, 1, 21, 0, 0, .inl T_X11_figure)), (184, (2, 1, 21, 0, 0, .inl T_X11_kind))], 1, 21, 0, 0)
theorem ok_X11_weight : MOK M_X11_weight := ⟨by decide +kernel, fun _ h => absurd h List.not_mem_nil, fun _ h => absurd h List.not_mem_nil, fun _ h => absurd h List.not_mem_nil, List.forall_mem_cons.mpr ⟨⟨Nat.le_of_ble_eq_true rfl, Nat.le_of_ble_eq_true rfl, cr_RX11_172⟩, List.forall_mem_cons.mpr ⟨⟨Nat.le_of_ble_eq_true rfl, Nat.le_of_ble_eq_true rfl, cr_RX11_184⟩, fun _ h => absurd h List.not_mem_nil⟩⟩⟩
set_option maxRecDepth 100000 in
theorem vc_X11_weight {K : Int32 → AH → Prop} {h : AH} (p0 : Nat) (p1 : Int32) (H : S_X11_figure p0 p1 h (fun x2 h1 => S_X11_kind p0 p1 h1 (fun x4 h3 => (x4.toInt < 1 ∨ 7 < x4.toInt → K ((nI 6) + x2) h3) ∧ (x4 = nI 1 → K ((nI 3) + x2) h3) ∧ (x4 = nI 2 → K ((nI 10) + x2) h3) ∧ (x4 = nI 3 → K ((nI 18) + x2) h3) ∧ (x4 = nI 4 → K ((nI 3) + x2) h3) ∧ (x4 = nI 5 → K ((nI 20) + ((nI 2) * x2)) h3) ∧ (x4 = nI 6 → K ((nI 3) + x2) h3) ∧ (x4 = nI 7 → K (nI 2) h3) ∧ True))) : AW M_X11_weight (.inl K) 0 [some (aR 16 p0), some (aI p1), none] [] h 0 0 := AW_go (cuts := []) ok_X11_weight 400 H

theorem snd_X11_weight (j : Nat) (a : Int32) {h : AH} {K : Int32 → AH → Prop} (k : S_X11_weight j a h K) : AW M_X11_weight (.inl K) 0 [some (aR 16 j), some (aI a), none] [] h 0 0 := by
  refine vc_X11_weight j a ?_
  obtain ⟨V, n, ⟨hr, hw, hn, rfl⟩, k⟩ := k
  obtain ⟨-, -, -, -, -, -, -, -, e8, e9, -⟩ := RVs hr
  have h7 := hw.2.1
  have hb := hw.2.2.2.2.2.2 n hn
  refine ⟨n, by omega, rfl, n, by omega, rfl, ?_⟩
  rw [e8 n hn, e9 n hn]
  unfold vWt wt at k
  simp (disch := omega) only [n_toInt, n_eq, nI_add, pk_mul]
  grind
theorem tw_X11_weight : ∀ (as : List AV) (h : AH) (K : Int32 → AH → Prop), T_X11_weight as h K → (ini as).length ≤ mNL M_X11_weight ∧ AW M_X11_weight (.inl K) 0 (initL (mNL M_X11_weight) as) [] h 0 0 := by
  intro as h K hk
  match as, hk with
  | [.inr (.inr (.inl q0)), .inl q1], hk =>
    obtain ⟨hb, hk⟩ := tif_inv hk
    have e0 := hb
    obtain ⟨a0, b0⟩ := q0
    have f0 : a0 = 16 := Nat.eq_of_beq_eq_true e0
    subst f0
    exact ⟨Nat.le_of_ble_eq_true rfl, snd_X11_weight b0 q1 hk⟩
theorem cr_RX11_205 : CR RX11 (kIns 205) (2, 2, 43, 0, 0, .inl T_X11_weight) := crS_i (M := M_X11_weight) (by decide) rfl (inG (i := 1067) (w := Cond.methodLink RX11 68 yX11_weight) (by decide +kernel) rfl) (inG (i := 1068) (w := Cond.static yX11_weight) (by decide +kernel) rfl) (inG (i := 40) (w := Cond.initialized RX11) (by decide +kernel) rfl) (inG (i := 1069) (w := Cond.code yX11_weight cX11_weight 3 (some .int)) (by decide +kernel) rfl) ⟨by decide +kernel, by decide +kernel, by decide +kernel⟩ tw_X11_weight

def S_X11_sticks (j : Nat) (a : Int32) (h : AH) (K : Int32 → AH → Prop) : Prop := ∃ V n, rPre j a h V n ∧ K (nI (vSt V n)) h
def T_X11_sticks : List AV → AH → (Int32 → AH → Prop) → Prop := fun as h K => match as with
  | [.inr (.inr (.inl q0)), .inl q1] => tif (Nat.beq q0.1 16) (S_X11_sticks q0.2 q1 h K)
  | _ => False

def M_X11_sticks : MI := (RX11, cX11_sticks, 3, [(0, .aload_n 0, []), (1, .iload_n 1, []), (2, .invokestatic 57, []), (5, .iconst 3, []), (6, .idiv, []), (7, .istore_n 2, []), (8, .aload_n 0, []), (9, .iload_n 1, []), (10, .invokestatic 61, []), (13, .tableswitch 58 1 7 #[43, 45, 45, 58, 49, 43, 56], [71, 56, 58, 58, 71, 62, 56, 69]), (56, .iload_n 2, []), (57, .ireturn, []), (58, .iconst 3, []), (59, .iload_n 2, []), (60, .iadd, []), (61, .ireturn, []), (62, .bipush 6, []), (64, .iconst 2, []), (65, .iload_n 2, []), (66, .imul, []), (67, .iadd, []), (68, .ireturn, []), (69, .iconst 0, []), (70, .ireturn, []), (71, .iconst 1, []), (72, .iload_n 2, []), (73, .iadd, []), (74, .ireturn, [])], [], [], [], [(172, (2, 1, 21, 0, 0, .inl T_X11_figure)), (184, (2, 1, 21, 0, 0, .inl T_X11_kind))], 1, 21, 0, 0)
theorem ok_X11_sticks : MOK M_X11_sticks := ⟨by decide +kernel, fun _ h => absurd h List.not_mem_nil, fun _ h => absurd h List.not_mem_nil, fun _ h => absurd h List.not_mem_nil, List.forall_mem_cons.mpr ⟨⟨Nat.le_of_ble_eq_true rfl, Nat.le_of_ble_eq_true rfl, cr_RX11_172⟩, List.forall_mem_cons.mpr ⟨⟨Nat.le_of_ble_eq_true rfl, Nat.le_of_ble_eq_true rfl, cr_RX11_184⟩, fun _ h => absurd h List.not_mem_nil⟩⟩⟩
set_option maxRecDepth 100000 in
theorem vc_X11_sticks {K : Int32 → AH → Prop} {h : AH} (p0 : Nat) (p1 : Int32) (H : S_X11_figure p0 p1 h (fun x2 h1 => (¬ (nI 3) = 0) ∧ S_X11_kind p0 p1 h1 (fun x4 h3 => (x4.toInt < 1 ∨ 7 < x4.toInt → K ((nI 1) + (x2 / (nI 3))) h3) ∧ (x4 = nI 1 → K (x2 / (nI 3)) h3) ∧ (x4 = nI 2 → K ((nI 3) + (x2 / (nI 3))) h3) ∧ (x4 = nI 3 → K ((nI 3) + (x2 / (nI 3))) h3) ∧ (x4 = nI 4 → K ((nI 1) + (x2 / (nI 3))) h3) ∧ (x4 = nI 5 → K ((nI 6) + ((nI 2) * (x2 / (nI 3)))) h3) ∧ (x4 = nI 6 → K (x2 / (nI 3)) h3) ∧ (x4 = nI 7 → K (nI 0) h3) ∧ True))) : AW M_X11_sticks (.inl K) 0 [some (aR 16 p0), some (aI p1), none] [] h 0 0 := AW_go (cuts := []) ok_X11_sticks 400 H

theorem snd_X11_sticks (j : Nat) (a : Int32) {h : AH} {K : Int32 → AH → Prop} (k : S_X11_sticks j a h K) : AW M_X11_sticks (.inl K) 0 [some (aR 16 j), some (aI a), none] [] h 0 0 := by
  refine vc_X11_sticks j a ?_
  obtain ⟨V, n, ⟨hr, hw, hn, rfl⟩, k⟩ := k
  obtain ⟨-, -, -, -, -, -, -, -, e8, e9, -⟩ := RVs hr
  have h7 := hw.2.1
  have hb := hw.2.2.2.2.2.2 n hn
  refine ⟨n, by omega, rfl, by decide, n, by omega, rfl, ?_⟩
  rw [e8 n hn, e9 n hn]
  unfold vSt stk at k
  simp (disch := omega) only [n_toInt, n_eq, n_div, nI_add, pk_mul]
  grind
theorem tw_X11_sticks : ∀ (as : List AV) (h : AH) (K : Int32 → AH → Prop), T_X11_sticks as h K → (ini as).length ≤ mNL M_X11_sticks ∧ AW M_X11_sticks (.inl K) 0 (initL (mNL M_X11_sticks) as) [] h 0 0 := by
  intro as h K hk
  match as, hk with
  | [.inr (.inr (.inl q0)), .inl q1], hk =>
    obtain ⟨hb, hk⟩ := tif_inv hk
    have e0 := hb
    obtain ⟨a0, b0⟩ := q0
    have f0 : a0 = 16 := Nat.eq_of_beq_eq_true e0
    subst f0
    exact ⟨Nat.le_of_ble_eq_true rfl, snd_X11_sticks b0 q1 hk⟩
theorem cr_RX11_286 : CR RX11 (kIns 286) (2, 2, 43, 0, 0, .inl T_X11_sticks) := crS_i (M := M_X11_sticks) (by decide) rfl (inG (i := 1079) (w := Cond.methodLink RX11 95 yX11_sticks) (by decide +kernel) rfl) (inG (i := 1080) (w := Cond.static yX11_sticks) (by decide +kernel) rfl) (inG (i := 40) (w := Cond.initialized RX11) (by decide +kernel) rfl) (inG (i := 1081) (w := Cond.code yX11_sticks cX11_sticks 3 (some .int)) (by decide +kernel) rfl) ⟨by decide +kernel, by decide +kernel, by decide +kernel⟩ tw_X11_sticks

def S_X11_flies (j : Nat) (a : Int32) (h : AH) (K : Int32 → AH → Prop) : Prop := ∃ V n, rPre j a h V n ∧ K (nI (vFl V n)) h
def T_X11_flies : List AV → AH → (Int32 → AH → Prop) → Prop := fun as h K => match as with
  | [.inr (.inr (.inl q0)), .inl q1] => tif (Nat.beq q0.1 16) (S_X11_flies q0.2 q1 h K)
  | _ => False

def M_X11_flies : MI := (RX11, cX11_flies, 2, [(0, .aload_n 0, []), (1, .iload_n 1, []), (2, .invokestatic 61, []), (5, .tableswitch 53 1 7 #[43, 46, 46, 43, 48, 50, 50], [58, 48, 51, 51, 48, 53, 55, 55]), (48, .bipush 6, []), (50, .ireturn, []), (51, .iconst 3, []), (52, .ireturn, []), (53, .iconst 2, []), (54, .ireturn, []), (55, .bipush 7, []), (57, .ireturn, []), (58, .iconst 4, []), (59, .ireturn, [])], [], [], [], [(184, (2, 1, 21, 0, 0, .inl T_X11_kind))], 1, 21, 0, 0)
theorem ok_X11_flies : MOK M_X11_flies := ⟨by decide +kernel, fun _ h => absurd h List.not_mem_nil, fun _ h => absurd h List.not_mem_nil, fun _ h => absurd h List.not_mem_nil, List.forall_mem_cons.mpr ⟨⟨Nat.le_of_ble_eq_true rfl, Nat.le_of_ble_eq_true rfl, cr_RX11_184⟩, fun _ h => absurd h List.not_mem_nil⟩⟩
set_option maxRecDepth 100000 in
theorem vc_X11_flies {K : Int32 → AH → Prop} {h : AH} (p0 : Nat) (p1 : Int32) (H : S_X11_kind p0 p1 h (fun x2 h1 => (x2.toInt < 1 ∨ 7 < x2.toInt → K (nI 4) h1) ∧ (x2 = nI 1 → K (nI 6) h1) ∧ (x2 = nI 2 → K (nI 3) h1) ∧ (x2 = nI 3 → K (nI 3) h1) ∧ (x2 = nI 4 → K (nI 6) h1) ∧ (x2 = nI 5 → K (nI 2) h1) ∧ (x2 = nI 6 → K (nI 7) h1) ∧ (x2 = nI 7 → K (nI 7) h1) ∧ True)) : AW M_X11_flies (.inl K) 0 [some (aR 16 p0), some (aI p1)] [] h 0 0 := AW_go (cuts := []) ok_X11_flies 400 H

theorem snd_X11_flies (j : Nat) (a : Int32) {h : AH} {K : Int32 → AH → Prop} (k : S_X11_flies j a h K) : AW M_X11_flies (.inl K) 0 [some (aR 16 j), some (aI a)] [] h 0 0 := by
  refine vc_X11_flies j a ?_
  obtain ⟨V, n, ⟨hr, hw, hn, rfl⟩, k⟩ := k
  obtain ⟨-, -, -, -, -, -, -, -, e8, e9, -⟩ := RVs hr
  have h7 := hw.2.1
  have hb := hw.2.2.2.2.2.2 n hn
  refine ⟨n, by omega, rfl, ?_⟩
  rw [e8 n hn]
  unfold vFl fly at k
  simp (disch := omega) only [n_toInt, n_eq, nI_add, pk_mul]
  grind
theorem tw_X11_flies : ∀ (as : List AV) (h : AH) (K : Int32 → AH → Prop), T_X11_flies as h K → (ini as).length ≤ mNL M_X11_flies ∧ AW M_X11_flies (.inl K) 0 (initL (mNL M_X11_flies) as) [] h 0 0 := by
  intro as h K hk
  match as, hk with
  | [.inr (.inr (.inl q0)), .inl q1], hk =>
    obtain ⟨hb, hk⟩ := tif_inv hk
    have e0 := hb
    obtain ⟨a0, b0⟩ := q0
    have f0 : a0 = 16 := Nat.eq_of_beq_eq_true e0
    subst f0
    exact ⟨Nat.le_of_ble_eq_true rfl, snd_X11_flies b0 q1 hk⟩
theorem cr_RX11_406 : CR RX11 (kIns 406) (2, 2, 42, 0, 0, .inl T_X11_flies) := crS_i (M := M_X11_flies) (by decide) rfl (inG (i := 1052) (w := Cond.methodLink RX11 135 yX11_flies) (by decide +kernel) rfl) (inG (i := 1053) (w := Cond.static yX11_flies) (by decide +kernel) rfl) (inG (i := 40) (w := Cond.initialized RX11) (by decide +kernel) rfl) (inG (i := 1054) (w := Cond.code yX11_flies cX11_flies 2 (some .int)) (by decide +kernel) rfl) ⟨by decide +kernel, by decide +kernel, by decide +kernel⟩ tw_X11_flies

def S_X11_price (j : Nat) (a : Int32) (h : AH) (K : Int32 → AH → Prop) : Prop := ∃ V n, rPre j a h V n ∧ K (nI (vPr V n)) h
def T_X11_price : List AV → AH → (Int32 → AH → Prop) → Prop := fun as h K => match as with
  | [.inr (.inr (.inl q0)), .inl q1] => tif (Nat.beq q0.1 16) (S_X11_price q0.2 q1 h K)
  | _ => False

def M_X11_price : MI := (RX11, cX11_price, 3, [(0, .aload_n 0, []), (1, .iload_n 1, []), (2, .invokestatic 57, []), (5, .istore_n 2, []), (6, .aload_n 0, []), (7, .iload_n 1, []), (8, .invokestatic 61, []), (11, .tableswitch 65 1 7 #[41, 43, 47, 52, 54, 61, 63], [76, 52, 54, 58, 63, 65, 72, 74]), (52, .iconst 3, []), (53, .ireturn, []), (54, .iconst 5, []), (55, .iload_n 2, []), (56, .iadd, []), (57, .ireturn, []), (58, .bipush 25, []), (60, .iload_n 2, []), (61, .iadd, []), (62, .ireturn, []), (63, .iconst 4, []), (64, .ireturn, []), (65, .bipush 10, []), (67, .iconst 2, []), (68, .iload_n 2, []), (69, .imul, []), (70, .iadd, []), (71, .ireturn, []), (72, .iconst 0, []), (73, .ireturn, []), (74, .iconst 1, []), (75, .ireturn, []), (76, .iconst 5, []), (77, .ireturn, [])], [], [], [], [(172, (2, 1, 21, 0, 0, .inl T_X11_figure)), (184, (2, 1, 21, 0, 0, .inl T_X11_kind))], 1, 21, 0, 0)
theorem ok_X11_price : MOK M_X11_price := ⟨by decide +kernel, fun _ h => absurd h List.not_mem_nil, fun _ h => absurd h List.not_mem_nil, fun _ h => absurd h List.not_mem_nil, List.forall_mem_cons.mpr ⟨⟨Nat.le_of_ble_eq_true rfl, Nat.le_of_ble_eq_true rfl, cr_RX11_172⟩, List.forall_mem_cons.mpr ⟨⟨Nat.le_of_ble_eq_true rfl, Nat.le_of_ble_eq_true rfl, cr_RX11_184⟩, fun _ h => absurd h List.not_mem_nil⟩⟩⟩
set_option maxRecDepth 100000 in
theorem vc_X11_price {K : Int32 → AH → Prop} {h : AH} (p0 : Nat) (p1 : Int32) (H : S_X11_figure p0 p1 h (fun x2 h1 => S_X11_kind p0 p1 h1 (fun x4 h3 => (x4.toInt < 1 ∨ 7 < x4.toInt → K (nI 5) h3) ∧ (x4 = nI 1 → K (nI 3) h3) ∧ (x4 = nI 2 → K ((nI 5) + x2) h3) ∧ (x4 = nI 3 → K ((nI 25) + x2) h3) ∧ (x4 = nI 4 → K (nI 4) h3) ∧ (x4 = nI 5 → K ((nI 10) + ((nI 2) * x2)) h3) ∧ (x4 = nI 6 → K (nI 0) h3) ∧ (x4 = nI 7 → K (nI 1) h3) ∧ True))) : AW M_X11_price (.inl K) 0 [some (aR 16 p0), some (aI p1), none] [] h 0 0 := AW_go (cuts := []) ok_X11_price 400 H

theorem snd_X11_price (j : Nat) (a : Int32) {h : AH} {K : Int32 → AH → Prop} (k : S_X11_price j a h K) : AW M_X11_price (.inl K) 0 [some (aR 16 j), some (aI a), none] [] h 0 0 := by
  refine vc_X11_price j a ?_
  obtain ⟨V, n, ⟨hr, hw, hn, rfl⟩, k⟩ := k
  obtain ⟨-, -, -, -, -, -, -, -, e8, e9, -⟩ := RVs hr
  have h7 := hw.2.1
  have hb := hw.2.2.2.2.2.2 n hn
  refine ⟨n, by omega, rfl, n, by omega, rfl, ?_⟩
  rw [e8 n hn, e9 n hn]
  unfold vPr prc at k
  simp (disch := omega) only [n_toInt, n_eq, nI_add, pk_mul]
  grind
theorem tw_X11_price : ∀ (as : List AV) (h : AH) (K : Int32 → AH → Prop), T_X11_price as h K → (ini as).length ≤ mNL M_X11_price ∧ AW M_X11_price (.inl K) 0 (initL (mNL M_X11_price) as) [] h 0 0 := by
  intro as h K hk
  match as, hk with
  | [.inr (.inr (.inl q0)), .inl q1], hk =>
    obtain ⟨hb, hk⟩ := tif_inv hk
    have e0 := hb
    obtain ⟨a0, b0⟩ := q0
    have f0 : a0 = 16 := Nat.eq_of_beq_eq_true e0
    subst f0
    exact ⟨Nat.le_of_ble_eq_true rfl, snd_X11_price b0 q1 hk⟩
theorem cr_RX11_475 : CR RX11 (kIns 475) (2, 2, 43, 0, 0, .inl T_X11_price) := crS_i (M := M_X11_price) (by decide) rfl (inG (i := 1098) (w := Cond.methodLink RX11 158 yX11_price) (by decide +kernel) rfl) (inG (i := 1099) (w := Cond.static yX11_price) (by decide +kernel) rfl) (inG (i := 40) (w := Cond.initialized RX11) (by decide +kernel) rfl) (inG (i := 1100) (w := Cond.code yX11_price cX11_price 3 (some .int)) (by decide +kernel) rfl) ⟨by decide +kernel, by decide +kernel, by decide +kernel⟩ tw_X11_price

def S_X11_isNoon (j : Nat) (h : AH) (K : Int32 → AH → Prop) : Prop := ∃ V, RV (h.1 16 j) V ∧ WF V ∧ K (if noonV V then nI 1 else nI 0) h
def T_X11_isNoon : List AV → AH → (Int32 → AH → Prop) → Prop := fun as h K => match as with
  | [.inr (.inr (.inl q0))] => tif (Nat.beq q0.1 16) (S_X11_isNoon q0.2 h K)
  | _ => False

def M_X11_isNoon : MI := (RX11, cX11_isNoon, 1, [(0, .aload_n 0, []), (1, .iconst 2, []), (2, .iaload, []), (3, .bipush 11, []), (5, .bipush 13, []), (7, .invokestatic 53, []), (10, .ireturn, [])], [], [], [], [(160, (3, 1, 22, 0, 0, .inl T_X11_isIn))], 1, 22, 0, 0)
theorem ok_X11_isNoon : MOK M_X11_isNoon := ⟨by decide +kernel, fun _ h => absurd h List.not_mem_nil, fun _ h => absurd h List.not_mem_nil, fun _ h => absurd h List.not_mem_nil, List.forall_mem_cons.mpr ⟨⟨Nat.le_of_ble_eq_true rfl, Nat.le_of_ble_eq_true rfl, cr_RX11_160⟩, fun _ h => absurd h List.not_mem_nil⟩⟩
set_option maxRecDepth 100000 in
theorem vc_X11_isNoon {K : Int32 → AH → Prop} {h : AH} (p0 : Nat) (H : inR (nI 2) 62 ∧ S_X11_isIn (h.1 16 p0 (nI 2).toNatClampNeg) (nI 11) (nI 13) h (fun x2 h1 => ((x2 = 0 ∨ x2 = 1) ∧ K x2 h1))) : AW M_X11_isNoon (.inl (fun x u => (x = 0 ∨ x = 1) ∧ K x u)) 0 [some (aR 16 p0)] [] h 0 0 := AW_go (cuts := []) ok_X11_isNoon 400 H

theorem snd_X11_isNoon (j : Nat) {h : AH} {K : Int32 → AH → Prop} (k : S_X11_isNoon j h K) : AW M_X11_isNoon (.inl (fun x u => (x = 0 ∨ x = 1) ∧ K x u)) 0 [some (aR 16 j)] [] h 0 0 := by
  refine vc_X11_isNoon j ?_
  obtain ⟨V, hr, hw, k⟩ := k
  obtain ⟨-, -, -, -, -, -, -, -, -, -, -, -, e2, -⟩ := RVs hr
  have hh := hw.2.2.1
  simp (disch := omega) only [n_inT, n_cl, true_and, S_X11_isIn, e2, n_le]
  exact ⟨z01, k⟩
theorem tw_X11_isNoon : ∀ (as : List AV) (h : AH) (K : Int32 → AH → Prop), T_X11_isNoon as h K → (ini as).length ≤ mNL M_X11_isNoon ∧ AW M_X11_isNoon (.inl (fun x u => (x = 0 ∨ x = 1) ∧ K x u)) 0 (initL (mNL M_X11_isNoon) as) [] h 0 0 := by
  intro as h K hk
  match as, hk with
  | [.inr (.inr (.inl q0))], hk =>
    obtain ⟨hb, hk⟩ := tif_inv hk
    have e0 := hb
    obtain ⟨a0, b0⟩ := q0
    have f0 : a0 = 16 := Nat.eq_of_beq_eq_true e0
    subst f0
    exact ⟨Nat.le_of_ble_eq_true rfl, snd_X11_isNoon b0 hk⟩
theorem cr_RX11_214 : CR RX11 (kIns 214) (1, 2, 42, 0, 0, .inl T_X11_isNoon) := crS_z (M := M_X11_isNoon) (by decide) rfl (inG (i := 1073) (w := Cond.methodLink RX11 71 yX11_isNoon) (by decide +kernel) rfl) (inG (i := 1074) (w := Cond.static yX11_isNoon) (by decide +kernel) rfl) (inG (i := 40) (w := Cond.initialized RX11) (by decide +kernel) rfl) (inG (i := 1075) (w := Cond.code yX11_isNoon cX11_isNoon 1 (some .boolean)) (by decide +kernel) rfl) ⟨by decide +kernel, by decide +kernel, by decide +kernel⟩ tw_X11_isNoon

def S_X11_isEaten (j : Nat) (a c : Int32) (h : AH) (K : Int32 → AH → Prop) : Prop := ∃ V n m, rPre j a h V n ∧ m < 8 ∧ c = nI m ∧ K (if eat V n m then nI 1 else nI 0) h
def T_X11_isEaten : List AV → AH → (Int32 → AH → Prop) → Prop := fun as h K => match as with
  | [.inr (.inr (.inl q0)), .inl q1, .inl q2] => tif (Nat.beq q0.1 16) (S_X11_isEaten q0.2 q1 q2 h K)
  | _ => False

def M_X11_isEaten : MI := (RX11, cX11_isEaten, 3, [(0, .aload_n 0, []), (1, .iload_n 2, []), (2, .iconst 2, []), (3, .invokestatic 64, []), (6, .iaload, []), (7, .aload_n 0, []), (8, .iload_n 1, []), (9, .invokestatic 68, []), (12, .iconst 2, []), (13, .idiv, []), (14, .if_icmp .le 14, [28]), (17, .aload_n 0, []), (18, .invokestatic 71, []), (21, .ifCond .ne 7, [28]), (24, .iconst 1, []), (25, .goto 4, [29]), (28, .iconst 0, []), (29, .ireturn, [])], [], [], [], [(193, (2, 1, 21, 0, 0, .inl T_X11_atCell)), (205, (2, 2, 43, 0, 0, .inl T_X11_weight)), (214, (1, 2, 42, 0, 0, .inl T_X11_isNoon))], 2, 43, 0, 0)
theorem ok_X11_isEaten : MOK M_X11_isEaten := ⟨by decide +kernel, fun _ h => absurd h List.not_mem_nil, fun _ h => absurd h List.not_mem_nil, fun _ h => absurd h List.not_mem_nil, List.forall_mem_cons.mpr ⟨⟨Nat.le_of_ble_eq_true rfl, Nat.le_of_ble_eq_true rfl, cr_RX11_193⟩, List.forall_mem_cons.mpr ⟨⟨Nat.le_of_ble_eq_true rfl, Nat.le_of_ble_eq_true rfl, cr_RX11_205⟩, List.forall_mem_cons.mpr ⟨⟨Nat.le_of_ble_eq_true rfl, Nat.le_of_ble_eq_true rfl, cr_RX11_214⟩, fun _ h => absurd h List.not_mem_nil⟩⟩⟩⟩
set_option maxRecDepth 100000 in
theorem vc_X11_isEaten {K : Int32 → AH → Prop} {h : AH} (p0 : Nat) (p1 : Int32) (p2 : Int32) (H : S_X11_atCell p2 (nI 2) h (fun x2 h1 => inR x2 62 ∧ S_X11_weight p0 p1 h1 (fun x4 h3 => (¬ (nI 2) = 0) ∧ (((h1.1 16 p0 x2.toNatClampNeg) ≤ (x4 / (nI 2))) → (((nI 0) = 0 ∨ (nI 0) = 1) ∧ K (nI 0) h3)) ∧ (¬ ((h1.1 16 p0 x2.toNatClampNeg) ≤ (x4 / (nI 2))) → S_X11_isNoon p0 h3 (fun x6 h5 => ((¬ x6 = 0) → (((nI 0) = 0 ∨ (nI 0) = 1) ∧ K (nI 0) h5)) ∧ (¬ (¬ x6 = 0) → (((nI 1) = 0 ∨ (nI 1) = 1) ∧ K (nI 1) h5))))))) : AW M_X11_isEaten (.inl (fun x u => (x = 0 ∨ x = 1) ∧ K x u)) 0 [some (aR 16 p0), some (aI p1), some (aI p2)] [] h 0 0 := AW_go (cuts := []) ok_X11_isEaten 400 H

theorem snd_X11_isEaten (j : Nat) (a c : Int32) {h : AH} {K : Int32 → AH → Prop} (k : S_X11_isEaten j a c h K) : AW M_X11_isEaten (.inl (fun x u => (x = 0 ∨ x = 1) ∧ K x u)) 0 [some (aR 16 j), some (aI a), some (aI c)] [] h 0 0 := by
  refine vc_X11_isEaten j a c ?_
  obtain ⟨V, n, m, hp, hm, rfl, k⟩ := k
  obtain ⟨hr, hw, hn, rfl⟩ := id hp
  obtain ⟨-, -, e2, -⟩ := RVs hr
  have hb := hw.2.2.2.2.2.2 n hn
  have hc := hw.2.2.2.2.1 m hm
  have hwt : vWt V n ≤ 38 := wt_le hb.2
  simp (disch := omega) only [S_X11_atCell, pk_mul, nI_add, n_inT, n_cl, true_and, e2]
  refine ⟨V, n, hp, ?_⟩
  simp (disch := omega) only [n_div, n_le]
  refine ⟨by decide, fun q => ⟨Or.inl rfl, ?_⟩, fun q => ⟨V, hr, hw, ?_⟩⟩
  · rw [if_neg (fun z => by omega)] at k
    exact k
  · by_cases hq : noonV V
    · rw [if_neg (fun z => z.2 hq)] at k
      rw [if_pos hq]
      exact ⟨fun _ => ⟨Or.inl rfl, k⟩, fun z => absurd (fun z2 => by cases z2) z⟩
    · rw [if_pos ⟨by omega, hq⟩] at k
      rw [if_neg hq]
      exact ⟨fun z => absurd rfl z, fun _ => ⟨Or.inr rfl, k⟩⟩
theorem tw_X11_isEaten : ∀ (as : List AV) (h : AH) (K : Int32 → AH → Prop), T_X11_isEaten as h K → (ini as).length ≤ mNL M_X11_isEaten ∧ AW M_X11_isEaten (.inl (fun x u => (x = 0 ∨ x = 1) ∧ K x u)) 0 (initL (mNL M_X11_isEaten) as) [] h 0 0 := by
  intro as h K hk
  match as, hk with
  | [.inr (.inr (.inl q0)), .inl q1, .inl q2], hk =>
    obtain ⟨hb, hk⟩ := tif_inv hk
    have e0 := hb
    obtain ⟨a0, b0⟩ := q0
    have f0 : a0 = 16 := Nat.eq_of_beq_eq_true e0
    subst f0
    exact ⟨Nat.le_of_ble_eq_true rfl, snd_X11_isEaten b0 q1 q2 hk⟩
theorem cr_RX11_235 : CR RX11 (kIns 235) (3, 3, 65, 0, 0, .inl T_X11_isEaten) := crS_z (M := M_X11_isEaten) (by decide) rfl (inG (i := 1064) (w := Cond.methodLink RX11 78 yX11_isEaten) (by decide +kernel) rfl) (inG (i := 1065) (w := Cond.static yX11_isEaten) (by decide +kernel) rfl) (inG (i := 40) (w := Cond.initialized RX11) (by decide +kernel) rfl) (inG (i := 1066) (w := Cond.code yX11_isEaten cX11_isEaten 3 (some .boolean)) (by decide +kernel) rfl) ⟨by decide +kernel, by decide +kernel, by decide +kernel⟩ tw_X11_isEaten

def S_X11_power (j : Nat) (e : Int32) (h : AH) (K : Int32 → AH → Prop) : Prop := ∃ V n, RV (h.1 16 j) V ∧ WF V ∧ n < V 10 0 ∧ e = nI n ∧ K (nI (V 4 n + V 5 n)) h
def T_X11_power : List AV → AH → (Int32 → AH → Prop) → Prop := fun as h K => match as with
  | [.inr (.inr (.inl q0)), .inl q1] => tif (Nat.beq q0.1 16) (S_X11_power q0.2 q1 h K)
  | _ => False

def M_X11_power : MI := (RX11, cX11_power, 2, [(0, .aload_n 0, []), (1, .iload_n 1, []), (2, .iconst 0, []), (3, .invokestatic 75, []), (6, .iaload, []), (7, .aload_n 0, []), (8, .iload_n 1, []), (9, .iconst 1, []), (10, .invokestatic 75, []), (13, .iaload, []), (14, .iadd, []), (15, .ireturn, [])], [], [], [], [(226, (2, 1, 21, 0, 0, .inl T_X11_atEagle))], 1, 21, 0, 0)
theorem ok_X11_power : MOK M_X11_power := ⟨by decide +kernel, fun _ h => absurd h List.not_mem_nil, fun _ h => absurd h List.not_mem_nil, fun _ h => absurd h List.not_mem_nil, List.forall_mem_cons.mpr ⟨⟨Nat.le_of_ble_eq_true rfl, Nat.le_of_ble_eq_true rfl, cr_RX11_226⟩, fun _ h => absurd h List.not_mem_nil⟩⟩
set_option maxRecDepth 100000 in
theorem vc_X11_power {K : Int32 → AH → Prop} {h : AH} (p0 : Nat) (p1 : Int32) (H : S_X11_atEagle p1 (nI 0) h (fun x2 h1 => inR x2 62 ∧ S_X11_atEagle p1 (nI 1) h1 (fun x4 h3 => inR x4 62 ∧ K ((h1.1 16 p0 x2.toNatClampNeg) + (h3.1 16 p0 x4.toNatClampNeg)) h3))) : AW M_X11_power (.inl K) 0 [some (aR 16 p0), some (aI p1)] [] h 0 0 := AW_go (cuts := []) ok_X11_power 400 H

theorem snd_X11_power (j : Nat) (e : Int32) {h : AH} {K : Int32 → AH → Prop} (k : S_X11_power j e h K) : AW M_X11_power (.inl K) 0 [some (aR 16 j), some (aI e)] [] h 0 0 := by
  refine vc_X11_power j e ?_
  obtain ⟨V, n, hr, hw, hn, rfl, k⟩ := k
  obtain ⟨-, -, -, -, e4, e5, -⟩ := RVs hr
  have h4 := hw.1
  simp (disch := omega) only [S_X11_atEagle, pk_mul, nI_add, n_inT, n_cl, true_and, e4, e5]
  exact k
theorem tw_X11_power : ∀ (as : List AV) (h : AH) (K : Int32 → AH → Prop), T_X11_power as h K → (ini as).length ≤ mNL M_X11_power ∧ AW M_X11_power (.inl K) 0 (initL (mNL M_X11_power) as) [] h 0 0 := by
  intro as h K hk
  match as, hk with
  | [.inr (.inr (.inl q0)), .inl q1], hk =>
    obtain ⟨hb, hk⟩ := tif_inv hk
    have e0 := hb
    obtain ⟨a0, b0⟩ := q0
    have f0 : a0 = 16 := Nat.eq_of_beq_eq_true e0
    subst f0
    exact ⟨Nat.le_of_ble_eq_true rfl, snd_X11_power b0 q1 hk⟩
theorem cr_RX11_247 : CR RX11 (kIns 247) (2, 2, 42, 0, 0, .inl T_X11_power) := crS_i (M := M_X11_power) (by decide) rfl (inG (i := 1076) (w := Cond.methodLink RX11 82 yX11_power) (by decide +kernel) rfl) (inG (i := 1077) (w := Cond.static yX11_power) (by decide +kernel) rfl) (inG (i := 40) (w := Cond.initialized RX11) (by decide +kernel) rfl) (inG (i := 1078) (w := Cond.code yX11_power cX11_power 2 (some .int)) (by decide +kernel) rfl) ⟨by decide +kernel, by decide +kernel, by decide +kernel⟩ tw_X11_power

def S_X11_carrier (j : Nat) (a c : Int32) (h : AH) (K : Int32 → AH → Prop) : Prop := ∃ V n m, rPre j a h V n ∧ m < 8 ∧ c = nI m ∧ K (oI (tak V n m)) h
def T_X11_carrier : List AV → AH → (Int32 → AH → Prop) → Prop := fun as h K => match as with
  | [.inr (.inr (.inl q0)), .inl q1, .inl q2] => tif (Nat.beq q0.1 16) (S_X11_carrier q0.2 q1 q2 h K)
  | _ => False

def M_X11_carrier : MI := (RX11, cX11_carrier, 5, [(0, .bipush (-4), []), (2, .istore_n 3, []), (3, .iconst 0, []), (4, .istore 4, []), (6, .iload 4, []), (8, .aload_n 0, []), (9, .iconst 0, []), (10, .iaload, []), (11, .if_icmp .ge 72, [83]), (14, .aload_n 0, []), (15, .iload_n 1, []), (16, .iload_n 2, []), (17, .invokestatic 78, []), (20, .ifCond .ne 63, [83]), (23, .aload_n 0, []), (24, .iload 4, []), (26, .invokestatic 82, []), (29, .aload_n 0, []), (30, .iload_n 1, []), (31, .invokestatic 68, []), (34, .if_icmp .lt 43, [77]), (37, .aload_n 0, []), (38, .iload 4, []), (40, .iconst 3, []), (41, .invokestatic 75, []), (44, .iaload, []), (45, .iconst 4, []), (46, .if_icmp .le 6, [52]), (49, .goto 28, [77]), (52, .iload_n 3, []), (53, .ifCond .lt 21, [74]), (56, .aload_n 0, []), (57, .iload 4, []), (59, .iconst 1, []), (60, .invokestatic 75, []), (63, .iaload, []), (64, .aload_n 0, []), (65, .iload_n 3, []), (66, .iconst 1, []), (67, .invokestatic 75, []), (70, .iaload, []), (71, .if_icmp .le 6, [77]), (74, .iload 4, []), (76, .istore_n 3, []), (77, .iinc 4 1, []), (80, .goto (-74), [6]), (83, .iload_n 3, []), (84, .ireturn, [])], [], [], [], [(235, (3, 3, 65, 0, 0, .inl T_X11_isEaten)), (247, (2, 2, 42, 0, 0, .inl T_X11_power)), (205, (2, 2, 43, 0, 0, .inl T_X11_weight)), (226, (2, 1, 21, 0, 0, .inl T_X11_atEagle))], 3, 65, 0, 0)
theorem ok_X11_carrier : MOK M_X11_carrier := ⟨by decide +kernel, fun _ h => absurd h List.not_mem_nil, fun _ h => absurd h List.not_mem_nil, fun _ h => absurd h List.not_mem_nil, List.forall_mem_cons.mpr ⟨⟨Nat.le_of_ble_eq_true rfl, Nat.le_of_ble_eq_true rfl, cr_RX11_235⟩, List.forall_mem_cons.mpr ⟨⟨Nat.le_of_ble_eq_true rfl, Nat.le_of_ble_eq_true rfl, cr_RX11_247⟩, List.forall_mem_cons.mpr ⟨⟨Nat.le_of_ble_eq_true rfl, Nat.le_of_ble_eq_true rfl, cr_RX11_205⟩, List.forall_mem_cons.mpr ⟨⟨Nat.le_of_ble_eq_true rfl, Nat.le_of_ble_eq_true rfl, cr_RX11_226⟩, fun _ h => absurd h List.not_mem_nil⟩⟩⟩⟩⟩
set_option maxRecDepth 100000 in
theorem vc_X11_carrier {K : Int32 → AH → Prop} {h : AH} (p0 : Nat) (p1 : Int32) (p2 : Int32) (H : AW M_X11_carrier (.inl K) 6 [some (aR 16 p0), some (aI p1), some (aI p2), some (aI (iI (-4))), some (aI (nI 0))] [] h 0 0) : AW M_X11_carrier (.inl K) 0 [some (aR 16 p0), some (aI p1), some (aI p2), none, none] [] h 0 0 := AW_go (cuts := [(6, [true, true, true, true, true])]) ok_X11_carrier 400 H
set_option maxRecDepth 100000 in
theorem vc_X11_carrier_6 {K : Int32 → AH → Prop} {h : AH}  (l0 : Nat) (l1 : Int32) (l2 : Int32) (l3 : Int32) (l4 : Int32) (H : inR (nI 0) 62 ∧ (((h.1 16 l0 (nI 0).toNatClampNeg) ≤ l4) → K l3 h) ∧ (¬ ((h.1 16 l0 (nI 0).toNatClampNeg) ≤ l4) → S_X11_isEaten l0 l1 l2 h (fun x2 h1 => ((¬ x2 = 0) → K l3 h1) ∧ (¬ (¬ x2 = 0) → S_X11_power l0 l4 h1 (fun x4 h3 => S_X11_weight l0 l1 h3 (fun x6 h5 => ((x4 < x6) → AW M_X11_carrier (.inl K) 6 [some (aR 16 l0), some (aI l1), some (aI l2), some (aI l3), some (aI (l4 + (nI 1)))] [] h5 0 0) ∧ (¬ (x4 < x6) → S_X11_atEagle l4 (nI 3) h5 (fun x8 h7 => inR x8 62 ∧ (((h7.1 16 l0 x8.toNatClampNeg) ≤ (nI 4)) → ((l3 < 0) → AW M_X11_carrier (.inl K) 6 [some (aR 16 l0), some (aI l1), some (aI l2), some (aI l4), some (aI (l4 + (nI 1)))] [] h7 0 0) ∧ (¬ (l3 < 0) → S_X11_atEagle l4 (nI 1) h7 (fun x10 h9 => inR x10 62 ∧ S_X11_atEagle l3 (nI 1) h9 (fun x12 h11 => inR x12 62 ∧ (((h9.1 16 l0 x10.toNatClampNeg) ≤ (h11.1 16 l0 x12.toNatClampNeg)) → AW M_X11_carrier (.inl K) 6 [some (aR 16 l0), some (aI l1), some (aI l2), some (aI l3), some (aI (l4 + (nI 1)))] [] h11 0 0) ∧ (¬ ((h9.1 16 l0 x10.toNatClampNeg) ≤ (h11.1 16 l0 x12.toNatClampNeg)) → AW M_X11_carrier (.inl K) 6 [some (aR 16 l0), some (aI l1), some (aI l2), some (aI l4), some (aI (l4 + (nI 1)))] [] h11 0 0))))) ∧ (¬ ((h7.1 16 l0 x8.toNatClampNeg) ≤ (nI 4)) → AW M_X11_carrier (.inl K) 6 [some (aR 16 l0), some (aI l1), some (aI l2), some (aI l3), some (aI (l4 + (nI 1)))] [] h7 0 0))))))))) : AW M_X11_carrier (.inl K) 6 [some (aR 16 l0), some (aI l1), some (aI l2), some (aI l3), some (aI l4)] [] h 0 0 := AW_go (cuts := [(6, [true, true, true, true, true])]) ok_X11_carrier 400 H

theorem lp_X11_carrier {j n m : Nat} {V : Vm} {h : AH} {K : Int32 → AH → Prop} (hp : rPre j (nI n) h V n) (hm : m < 8) (k : K (oI (tak V n m)) h) : ∀ r e, e + r = V 10 0 → ∀ f, ((eat V n m ∧ e = 0 ∧ f = iI (-4)) ∨ (¬ eat V n m ∧ f = oI (car V (vWt V n) e))) → AW M_X11_carrier (.inl K) 6 [some (aR 16 j), some (aI (nI n)), some (aI (nI m)), some (aI f), some (aI (nI e))] [] h 0 0 := by
  obtain ⟨hr, hw, hn, -⟩ := id hp
  obtain ⟨-, -, -, -, e4, e5, e6, e7, -, -, e0, -⟩ := RVs hr
  have h4 := hw.1
  have hb := hw.2.2.2.2.2.2 n hn
  have hwt : vWt V n ≤ 38 := wt_le hb.2
  intro r
  induction r with
  | zero =>
    intro e he f hf
    refine vc_X11_carrier_6 j (nI n) (nI m) f (nI e) ?_
    simp (disch := omega) only [n_inT, n_cl, true_and, e0, n_le]
    refine ⟨fun _ => ?_, fun q => absurd (by omega) q⟩
    rcases hf with ⟨h1, h2, rfl⟩ | ⟨h1, rfl⟩
    · unfold tak at k; rw [if_pos h1] at k; exact k
    · unfold tak at k; rw [if_neg h1] at k; rw [show e = V 10 0 by omega]; exact k
  | succ r ih =>
    intro e he f hf
    refine vc_X11_carrier_6 j (nI n) (nI m) f (nI e) ?_
    have he0 : e < V 10 0 := by omega
    have hbe := hw.2.2.2.2.2.1 e he0
    simp (disch := omega) only [n_inT, n_cl, true_and, e0, n_le]
    refine ⟨fun q => by omega, fun _ => ⟨V, n, m, hp, hm, rfl, ?_⟩⟩
    rcases hf with ⟨h1, h2, rfl⟩ | ⟨h1, rfl⟩
    · unfold tak at k
      rw [if_pos h1] at k ⊢
      exact ⟨fun _ => k, fun z => absurd (fun z2 => by cases z2) z⟩
    · rw [if_neg h1]
      refine ⟨fun z => absurd rfl z, fun _ => ⟨V, e, hr, hw, he0, rfl, V, n, hp, ?_⟩⟩
      have hnext := ih (e + 1) (by omega)
      simp (disch := omega) only [n_lt, S_X11_atEagle, pk_mul, nI_add, n_inT, n_cl, true_and, e7, e5, n_le]
      refine ⟨fun q => hnext _ (Or.inr ⟨h1, ?_⟩), fun q => ⟨fun q2 => ?_, fun q2 => hnext _ (Or.inr ⟨h1, ?_⟩)⟩⟩
      · rw [car_no (fun z => by have := z.1; omega)]
      · have hc : cap V (vWt V n) e := ⟨by omega, by omega⟩
        cases hcar : car V (vWt V n) e with
        | none =>
          refine ⟨fun _ => hnext _ (Or.inr ⟨h1, ?_⟩), fun q3 => absurd (m_lt (by omega) (by omega)) q3⟩
          rw [car_new hc hcar]
          rfl
        | some p =>
          have hp1 := (car_lt hcar).1
          have hbp := hw.2.2.2.2.2.1 p (by omega)
          simp only [show oI (some p) = nI p from rfl]
          rw [n_lt0 (by omega)]
          refine ⟨fun z => z.elim, fun _ => ?_⟩
          simp (disch := omega) only [pk_mul, nI_add, n_inT, n_cl, true_and, e5, n_le]
          refine ⟨fun q3 => hnext _ (Or.inr ⟨h1, ?_⟩), fun q3 => hnext _ (Or.inr ⟨h1, ?_⟩)⟩
          · rw [car_le hcar (by omega)]
            rfl
          · rw [car_gt hc hcar (by omega)]
            rfl
      · rw [car_no (fun z => by have := z.2; omega)]
theorem snd_X11_carrier (j : Nat) (a c : Int32) {h : AH} {K : Int32 → AH → Prop} (k : S_X11_carrier j a c h K) : AW M_X11_carrier (.inl K) 0 [some (aR 16 j), some (aI a), some (aI c), none, none] [] h 0 0 := by
  obtain ⟨V, n, m, hp, hm, rfl, k⟩ := k
  obtain ⟨hr, hw, hn, rfl⟩ := id hp
  refine vc_X11_carrier j (nI n) (nI m) (lp_X11_carrier hp hm k (V 10 0) 0 (by omega) _ ?_)
  by_cases he : eat V n m
  · exact Or.inl ⟨he, rfl, rfl⟩
  · exact Or.inr ⟨he, rfl⟩
theorem tw_X11_carrier : ∀ (as : List AV) (h : AH) (K : Int32 → AH → Prop), T_X11_carrier as h K → (ini as).length ≤ mNL M_X11_carrier ∧ AW M_X11_carrier (.inl K) 0 (initL (mNL M_X11_carrier) as) [] h 0 0 := by
  intro as h K hk
  match as, hk with
  | [.inr (.inr (.inl q0)), .inl q1, .inl q2], hk =>
    obtain ⟨hb, hk⟩ := tif_inv hk
    have e0 := hb
    obtain ⟨a0, b0⟩ := q0
    have f0 : a0 = 16 := Nat.eq_of_beq_eq_true e0
    subst f0
    exact ⟨Nat.le_of_ble_eq_true rfl, snd_X11_carrier b0 q1 q2 hk⟩
theorem cr_RX11_274 : CR RX11 (kIns 274) (3, 4, 89, 0, 0, .inl T_X11_carrier) := crS_i (M := M_X11_carrier) (by decide) rfl (inG (i := 1061) (w := Cond.methodLink RX11 91 yX11_carrier) (by decide +kernel) rfl) (inG (i := 1062) (w := Cond.static yX11_carrier) (by decide +kernel) rfl) (inG (i := 40) (w := Cond.initialized RX11) (by decide +kernel) rfl) (inG (i := 1063) (w := Cond.code yX11_carrier cX11_carrier 5 (some .int)) (by decide +kernel) rfl) ⟨by decide +kernel, by decide +kernel, by decide +kernel⟩ tw_X11_carrier

/-- the least of 9 and the most of 0 -/
def clp (y : Int32) : Int32 := if (if nI 9 < y then nI 9 else y) < nI 0 then nI 0 else (if nI 9 < y then nI 9 else y)
theorem clp_n {a : Nat} (h : a < 2147483648) : clp (nI a) = nI (min 9 a) := by
  unfold clp
  by_cases h9 : 9 < a
  · simp only [if_pos ((n_lt (by omega) h).mpr h9), if_neg (fun q => by have := (n_lt (by omega) (by omega)).mp q; omega : ¬ nI 9 < nI 0), Nat.min_eq_left (show 9 ≤ a by omega)]
  · simp only [if_neg (fun q => h9 ((n_lt (by omega) h).mp q) : ¬ nI 9 < nI a), if_neg (fun q => by have := (n_lt (by omega) (by omega)).mp q; omega : ¬ nI a < nI 0), Nat.min_eq_right (show a ≤ 9 by omega)]
theorem clp_m {a b : Nat} (ha : a ≤ 9) (hb : b ≤ 100) : clp (nI a + -nI b) = nI (a - b) := by
  have e : (nI a + -nI b).toInt = (a : Int) - b := by
    rw [← Int32.sub_eq_add_neg]
    exact pk_sub_toInt (by omega) (by omega)
  have h9 : ¬ nI 9 < nI a + -nI b := by
    rw [Int32.lt_iff_toInt_lt, e, n_toInt (by omega)]
    omega
  unfold clp
  rw [if_neg h9]
  split
  · rename_i q
    rw [Int32.lt_iff_toInt_lt, e, n_toInt (by omega)] at q
    rw [show a - b = 0 by omega]
  · rename_i q
    rw [Int32.lt_iff_toInt_lt, e, n_toInt (by omega)] at q
    rw [← Int32.sub_eq_add_neg, n_sub (by omega)]
theorem iI_m1 : iI (-1) = -nI 1 := by decide
def S_X11_hungers (j : Nat) (e y : Int32) (h : AH) (K : AH → Prop) : Prop := ∃ n, n < 4 ∧ e = nI n ∧ K (wI h 16 j (28 + 4 * n + 1) (clp (h.1 16 j (28 + 4 * n + 1) + y)))
def T_X11_hungers : List AV → AH → (AH → Prop) → Prop := fun as h K => match as with
  | [.inr (.inr (.inl q0)), .inl q1, .inl q2] => tif (Nat.beq q0.1 16) (S_X11_hungers q0.2 q1 q2 h K)
  | _ => False

def M_X11_hungers : MI := (RX11, cX11_hungers, 3, [(0, .aload_n 0, []), (1, .iload_n 1, []), (2, .iconst 1, []), (3, .invokestatic 75, []), (6, .iconst 0, []), (7, .bipush 9, []), (9, .aload_n 0, []), (10, .iload_n 1, []), (11, .iconst 1, []), (12, .invokestatic 75, []), (15, .iaload, []), (16, .iload_n 2, []), (17, .iadd, []), (18, .invokestatic 85, []), (21, .invokestatic 88, []), (24, .iastore, []), (25, .return_, [])], [], [], [], [(226, (2, 1, 21, 0, 0, .inl T_X11_atEagle)), (256, (2, 1, 21, 0, 0, .inl T_X11_least)), (265, (2, 1, 21, 0, 0, .inl T_X11_most))], 1, 21, 0, 0)
theorem ok_X11_hungers : MOK M_X11_hungers := ⟨by decide +kernel, fun _ h => absurd h List.not_mem_nil, fun _ h => absurd h List.not_mem_nil, fun _ h => absurd h List.not_mem_nil, List.forall_mem_cons.mpr ⟨⟨Nat.le_of_ble_eq_true rfl, Nat.le_of_ble_eq_true rfl, cr_RX11_226⟩, List.forall_mem_cons.mpr ⟨⟨Nat.le_of_ble_eq_true rfl, Nat.le_of_ble_eq_true rfl, cr_RX11_256⟩, List.forall_mem_cons.mpr ⟨⟨Nat.le_of_ble_eq_true rfl, Nat.le_of_ble_eq_true rfl, cr_RX11_265⟩, fun _ h => absurd h List.not_mem_nil⟩⟩⟩⟩
set_option maxRecDepth 100000 in
theorem vc_X11_hungers {K : AH → Prop} {h : AH} (p0 : Nat) (p1 : Int32) (p2 : Int32) (H : S_X11_atEagle p1 (nI 1) h (fun x2 h1 => S_X11_atEagle p1 (nI 1) h1 (fun x4 h3 => inR x4 62 ∧ S_X11_least (nI 9) ((h3.1 16 p0 x4.toNatClampNeg) + p2) h3 (fun x6 h5 => S_X11_most (nI 0) x6 h5 (fun x8 h7 => inR x2 62 ∧ K (wI h7 16 p0 x2.toNatClampNeg x8)))))) : AW M_X11_hungers (.inr (.inl K)) 0 [some (aR 16 p0), some (aI p1), some (aI p2)] [] h 0 0 := AW_go (cuts := []) ok_X11_hungers 400 H

theorem snd_X11_hungers (j : Nat) (e y : Int32) {h : AH} {K : AH → Prop} (k : S_X11_hungers j e y h K) : AW M_X11_hungers (.inr (.inl K)) 0 [some (aR 16 j), some (aI e), some (aI y)] [] h 0 0 := by
  refine vc_X11_hungers j e y ?_
  obtain ⟨n, hn, rfl, k⟩ := k
  simp (disch := omega) only [S_X11_atEagle, S_X11_least, S_X11_most, pk_mul, nI_add, n_inT, n_cl, true_and]
  exact k
theorem tw_X11_hungers : ∀ (as : List AV) (h : AH) (K : AH → Prop), T_X11_hungers as h K → (ini as).length ≤ mNL M_X11_hungers ∧ AW M_X11_hungers (.inr (.inl K)) 0 (initL (mNL M_X11_hungers) as) [] h 0 0 := by
  intro as h K hk
  match as, hk with
  | [.inr (.inr (.inl q0)), .inl q1, .inl q2], hk =>
    obtain ⟨hb, hk⟩ := tif_inv hk
    have e0 := hb
    obtain ⟨a0, b0⟩ := q0
    have f0 : a0 = 16 := Nat.eq_of_beq_eq_true e0
    subst f0
    exact ⟨Nat.le_of_ble_eq_true rfl, snd_X11_hungers b0 q1 q2 hk⟩
theorem cr_RX11_295 : CR RX11 (kIns 295) (3, 2, 43, 0, 0, .inr (.inl T_X11_hungers)) := crS_v (M := M_X11_hungers) (by decide) rfl (inG (i := 1039) (w := Cond.methodLink RX11 98 yX11_hungers) (by decide +kernel) rfl) (inG (i := 1040) (w := Cond.static yX11_hungers) (by decide +kernel) rfl) (inG (i := 40) (w := Cond.initialized RX11) (by decide +kernel) rfl) (inG (i := 1041) (w := Cond.code yX11_hungers cX11_hungers 3 (none)) (by decide +kernel) rfl) ⟨by decide +kernel, by decide +kernel, by decide +kernel⟩ tw_X11_hungers


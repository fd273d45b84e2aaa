/-! ===== the reference's small methods ===== -/
def S_X11_isIn (v a b : Int32) (h : AH) (K : Int32 → AH → Prop) : Prop := K (if a ≤ v ∧ v ≤ b then nI 1 else nI 0) h
def T_X11_isIn : List AV → AH → (Int32 → AH → Prop) → Prop := fun as h K => match as with
  | [.inl q0, .inl q1, .inl q2] => S_X11_isIn q0 q1 q2 h K
  | _ => False

def M_X11_isIn : MI := (RX11, cX11_isIn, 3, [(0, .iload_n 0, []), (1, .iload_n 1, []), (2, .if_icmp .lt 12, [14]), (5, .iload_n 0, []), (6, .iload_n 2, []), (7, .if_icmp .gt 7, [14]), (10, .iconst 1, []), (11, .goto 4, [15]), (14, .iconst 0, []), (15, .ireturn, [])], [], [], [], [], 0, 0, 0, 0)
theorem ok_X11_isIn : MOK M_X11_isIn := ⟨by decide +kernel, fun _ h => absurd h List.not_mem_nil, fun _ h => absurd h List.not_mem_nil, fun _ h => absurd h List.not_mem_nil, fun _ h => absurd h List.not_mem_nil⟩
set_option maxRecDepth 100000 in
theorem vc_X11_isIn {K : Int32 → AH → Prop} {h : AH} (p0 : Int32) (p1 : Int32) (p2 : Int32) (H : ((p0 < p1) → (((nI 0) = 0 ∨ (nI 0) = 1) ∧ K (nI 0) h)) ∧ (¬ (p0 < p1) → ((p2 < p0) → (((nI 0) = 0 ∨ (nI 0) = 1) ∧ K (nI 0) h)) ∧ (¬ (p2 < p0) → (((nI 1) = 0 ∨ (nI 1) = 1) ∧ K (nI 1) h)))) : AW M_X11_isIn (.inl (fun x u => (x = 0 ∨ x = 1) ∧ K x u)) 0 [some (aI p0), some (aI p1), some (aI p2)] [] h 0 0 := AW_go (cuts := []) ok_X11_isIn 400 H

theorem snd_X11_isIn (v a b : Int32) {h : AH} {K : Int32 → AH → Prop} (k : S_X11_isIn v a b h K) : AW M_X11_isIn (.inl (fun x u => (x = 0 ∨ x = 1) ∧ K x u)) 0 [some (aI v), some (aI a), some (aI b)] [] h 0 0 := by
  refine vc_X11_isIn v a b ?_
  unfold S_X11_isIn at k
  grind [n00, n11]
theorem tw_X11_isIn : ∀ (as : List AV) (h : AH) (K : Int32 → AH → Prop), T_X11_isIn as h K → (ini as).length ≤ mNL M_X11_isIn ∧ AW M_X11_isIn (.inl (fun x u => (x = 0 ∨ x = 1) ∧ K x u)) 0 (initL (mNL M_X11_isIn) as) [] h 0 0 := by
  intro as h K hk
  match as, hk with
  | [.inl q0, .inl q1, .inl q2], hk =>
    exact ⟨Nat.le_of_ble_eq_true rfl, snd_X11_isIn q0 q1 q2 hk⟩
theorem cr_RX11_160 : CR RX11 (kIns 160) (3, 1, 22, 0, 0, .inl T_X11_isIn) := crS_z (M := M_X11_isIn) (by decide) rfl (inG (i := 1001) (w := Cond.methodLink RX11 53 yX11_isIn) (by decide +kernel) rfl) (inG (i := 1002) (w := Cond.static yX11_isIn) (by decide +kernel) rfl) (inG (i := 40) (w := Cond.initialized RX11) (by decide +kernel) rfl) (inG (i := 1003) (w := Cond.code yX11_isIn cX11_isIn 3 (some .boolean)) (by decide +kernel) rfl) ⟨by decide +kernel, by decide +kernel, by decide +kernel⟩ tw_X11_isIn

def S_X11_least (a b : Int32) (h : AH) (K : Int32 → AH → Prop) : Prop := K (if a < b then a else b) h
def T_X11_least : List AV → AH → (Int32 → AH → Prop) → Prop := fun as h K => match as with
  | [.inl q0, .inl q1] => S_X11_least q0 q1 h K
  | _ => False

def M_X11_least : MI := (RX11, cX11_least, 2, [(0, .iload_n 0, []), (1, .iload_n 1, []), (2, .if_icmp .ge 7, [9]), (5, .iload_n 0, []), (6, .goto 4, [10]), (9, .iload_n 1, []), (10, .ireturn, [])], [], [], [], [], 0, 0, 0, 0)
theorem ok_X11_least : MOK M_X11_least := ⟨by decide +kernel, fun _ h => absurd h List.not_mem_nil, fun _ h => absurd h List.not_mem_nil, fun _ h => absurd h List.not_mem_nil, fun _ h => absurd h List.not_mem_nil⟩
set_option maxRecDepth 100000 in
theorem vc_X11_least {K : Int32 → AH → Prop} {h : AH} (p0 : Int32) (p1 : Int32) (H : ((p1 ≤ p0) → K p1 h) ∧ (¬ (p1 ≤ p0) → K p0 h)) : AW M_X11_least (.inl K) 0 [some (aI p0), some (aI p1)] [] h 0 0 := AW_go (cuts := []) ok_X11_least 400 H

theorem snd_X11_least (a b : Int32) {h : AH} {K : Int32 → AH → Prop} (k : S_X11_least a b h K) : AW M_X11_least (.inl K) 0 [some (aI a), some (aI b)] [] h 0 0 := by
  refine vc_X11_least a b ?_
  unfold S_X11_least at k
  grind
theorem tw_X11_least : ∀ (as : List AV) (h : AH) (K : Int32 → AH → Prop), T_X11_least as h K → (ini as).length ≤ mNL M_X11_least ∧ AW M_X11_least (.inl K) 0 (initL (mNL M_X11_least) as) [] h 0 0 := by
  intro as h K hk
  match as, hk with
  | [.inl q0, .inl q1], hk =>
    exact ⟨Nat.le_of_ble_eq_true rfl, snd_X11_least q0 q1 hk⟩
theorem cr_RX11_256 : CR RX11 (kIns 256) (2, 1, 21, 0, 0, .inl T_X11_least) := crS_i (M := M_X11_least) (by decide) rfl (inG (i := 1042) (w := Cond.methodLink RX11 85 yX11_least) (by decide +kernel) rfl) (inG (i := 1043) (w := Cond.static yX11_least) (by decide +kernel) rfl) (inG (i := 40) (w := Cond.initialized RX11) (by decide +kernel) rfl) (inG (i := 1044) (w := Cond.code yX11_least cX11_least 2 (some .int)) (by decide +kernel) rfl) ⟨by decide +kernel, by decide +kernel, by decide +kernel⟩ tw_X11_least

def S_X11_most (a b : Int32) (h : AH) (K : Int32 → AH → Prop) : Prop := K (if b < a then a else b) h
def T_X11_most : List AV → AH → (Int32 → AH → Prop) → Prop := fun as h K => match as with
  | [.inl q0, .inl q1] => S_X11_most q0 q1 h K
  | _ => False

def M_X11_most : MI := (RX11, cX11_most, 2, [(0, .iload_n 0, []), (1, .iload_n 1, []), (2, .if_icmp .le 7, [9]), (5, .iload_n 0, []), (6, .goto 4, [10]), (9, .iload_n 1, []), (10, .ireturn, [])], [], [], [], [], 0, 0, 0, 0)
theorem ok_X11_most : MOK M_X11_most := ⟨by decide +kernel, fun _ h => absurd h List.not_mem_nil, fun _ h => absurd h List.not_mem_nil, fun _ h => absurd h List.not_mem_nil, fun _ h => absurd h List.not_mem_nil⟩
set_option maxRecDepth 100000 in
theorem vc_X11_most {K : Int32 → AH → Prop} {h : AH} (p0 : Int32) (p1 : Int32) (H : ((p0 ≤ p1) → K p1 h) ∧ (¬ (p0 ≤ p1) → K p0 h)) : AW M_X11_most (.inl K) 0 [some (aI p0), some (aI p1)] [] h 0 0 := AW_go (cuts := []) ok_X11_most 400 H

theorem snd_X11_most (a b : Int32) {h : AH} {K : Int32 → AH → Prop} (k : S_X11_most a b h K) : AW M_X11_most (.inl K) 0 [some (aI a), some (aI b)] [] h 0 0 := by
  refine vc_X11_most a b ?_
  unfold S_X11_most at k
  grind
theorem tw_X11_most : ∀ (as : List AV) (h : AH) (K : Int32 → AH → Prop), T_X11_most as h K → (ini as).length ≤ mNL M_X11_most ∧ AW M_X11_most (.inl K) 0 (initL (mNL M_X11_most) as) [] h 0 0 := by
  intro as h K hk
  match as, hk with
  | [.inl q0, .inl q1], hk =>
    exact ⟨Nat.le_of_ble_eq_true rfl, snd_X11_most q0 q1 hk⟩
theorem cr_RX11_265 : CR RX11 (kIns 265) (2, 1, 21, 0, 0, .inl T_X11_most) := crS_i (M := M_X11_most) (by decide) rfl (inG (i := 1045) (w := Cond.methodLink RX11 88 yX11_most) (by decide +kernel) rfl) (inG (i := 1046) (w := Cond.static yX11_most) (by decide +kernel) rfl) (inG (i := 40) (w := Cond.initialized RX11) (by decide +kernel) rfl) (inG (i := 1047) (w := Cond.code yX11_most cX11_most 2 (some .int)) (by decide +kernel) rfl) ⟨by decide +kernel, by decide +kernel, by decide +kernel⟩ tw_X11_most

def S_X11_atCell (c w : Int32) (h : AH) (K : Int32 → AH → Prop) : Prop := K (nI 4 + nI 3 * c + w) h
def T_X11_atCell : List AV → AH → (Int32 → AH → Prop) → Prop := fun as h K => match as with
  | [.inl q0, .inl q1] => S_X11_atCell q0 q1 h K
  | _ => False

def M_X11_atCell : MI := (RX11, cX11_atCell, 2, [(0, .iconst 4, []), (1, .iconst 3, []), (2, .iload_n 0, []), (3, .imul, []), (4, .iadd, []), (5, .iload_n 1, []), (6, .iadd, []), (7, .ireturn, [])], [], [], [], [], 0, 0, 0, 0)
theorem ok_X11_atCell : MOK M_X11_atCell := ⟨by decide +kernel, fun _ h => absurd h List.not_mem_nil, fun _ h => absurd h List.not_mem_nil, fun _ h => absurd h List.not_mem_nil, fun _ h => absurd h List.not_mem_nil⟩
set_option maxRecDepth 100000 in
theorem vc_X11_atCell {K : Int32 → AH → Prop} {h : AH} (p0 : Int32) (p1 : Int32) (H : K (((nI 4) + ((nI 3) * p0)) + p1) h) : AW M_X11_atCell (.inl K) 0 [some (aI p0), some (aI p1)] [] h 0 0 := AW_go (cuts := []) ok_X11_atCell 400 H

theorem snd_X11_atCell (c w : Int32) {h : AH} {K : Int32 → AH → Prop} (k : S_X11_atCell c w h K) : AW M_X11_atCell (.inl K) 0 [some (aI c), some (aI w)] [] h 0 0 := vc_X11_atCell c w k
theorem tw_X11_atCell : ∀ (as : List AV) (h : AH) (K : Int32 → AH → Prop), T_X11_atCell as h K → (ini as).length ≤ mNL M_X11_atCell ∧ AW M_X11_atCell (.inl K) 0 (initL (mNL M_X11_atCell) as) [] h 0 0 := by
  intro as h K hk
  match as, hk with
  | [.inl q0, .inl q1], hk =>
    exact ⟨Nat.le_of_ble_eq_true rfl, snd_X11_atCell q0 q1 hk⟩
theorem cr_RX11_193 : CR RX11 (kIns 193) (2, 1, 21, 0, 0, .inl T_X11_atCell) := crS_i (M := M_X11_atCell) (by decide) rfl (inG (i := 1026) (w := Cond.methodLink RX11 64 yX11_atCell) (by decide +kernel) rfl) (inG (i := 1027) (w := Cond.static yX11_atCell) (by decide +kernel) rfl) (inG (i := 40) (w := Cond.initialized RX11) (by decide +kernel) rfl) (inG (i := 1028) (w := Cond.code yX11_atCell cX11_atCell 2 (some .int)) (by decide +kernel) rfl) ⟨by decide +kernel, by decide +kernel, by decide +kernel⟩ tw_X11_atCell

def S_X11_atEagle (c w : Int32) (h : AH) (K : Int32 → AH → Prop) : Prop := K (nI 28 + nI 4 * c + w) h
def T_X11_atEagle : List AV → AH → (Int32 → AH → Prop) → Prop := fun as h K => match as with
  | [.inl q0, .inl q1] => S_X11_atEagle q0 q1 h K
  | _ => False

def M_X11_atEagle : MI := (RX11, cX11_atEagle, 2, [(0, .bipush 28, []), (2, .iconst 4, []), (3, .iload_n 0, []), (4, .imul, []), (5, .iadd, []), (6, .iload_n 1, []), (7, .iadd, []), (8, .ireturn, [])], [], [], [], [], 0, 0, 0, 0)
theorem ok_X11_atEagle : MOK M_X11_atEagle := ⟨by decide +kernel, fun _ h => absurd h List.not_mem_nil, fun _ h => absurd h List.not_mem_nil, fun _ h => absurd h List.not_mem_nil, fun _ h => absurd h List.not_mem_nil⟩
set_option maxRecDepth 100000 in
theorem vc_X11_atEagle {K : Int32 → AH → Prop} {h : AH} (p0 : Int32) (p1 : Int32) (H : K (((nI 28) + ((nI 4) * p0)) + p1) h) : AW M_X11_atEagle (.inl K) 0 [some (aI p0), some (aI p1)] [] h 0 0 := AW_go (cuts := []) ok_X11_atEagle 400 H

theorem snd_X11_atEagle (c w : Int32) {h : AH} {K : Int32 → AH → Prop} (k : S_X11_atEagle c w h K) : AW M_X11_atEagle (.inl K) 0 [some (aI c), some (aI w)] [] h 0 0 := vc_X11_atEagle c w k
theorem tw_X11_atEagle : ∀ (as : List AV) (h : AH) (K : Int32 → AH → Prop), T_X11_atEagle as h K → (ini as).length ≤ mNL M_X11_atEagle ∧ AW M_X11_atEagle (.inl K) 0 (initL (mNL M_X11_atEagle) as) [] h 0 0 := by
  intro as h K hk
  match as, hk with
  | [.inl q0, .inl q1], hk =>
    exact ⟨Nat.le_of_ble_eq_true rfl, snd_X11_atEagle q0 q1 hk⟩
theorem cr_RX11_226 : CR RX11 (kIns 226) (2, 1, 21, 0, 0, .inl T_X11_atEagle) := crS_i (M := M_X11_atEagle) (by decide) rfl (inG (i := 1029) (w := Cond.methodLink RX11 75 yX11_atEagle) (by decide +kernel) rfl) (inG (i := 1030) (w := Cond.static yX11_atEagle) (by decide +kernel) rfl) (inG (i := 40) (w := Cond.initialized RX11) (by decide +kernel) rfl) (inG (i := 1031) (w := Cond.code yX11_atEagle cX11_atEagle 2 (some .int)) (by decide +kernel) rfl) ⟨by decide +kernel, by decide +kernel, by decide +kernel⟩ tw_X11_atEagle

def S_X11_kind (j : Nat) (a : Int32) (h : AH) (K : Int32 → AH → Prop) : Prop := ∃ n, n < 7 ∧ a = nI n ∧ K (h.1 16 j (48 + 2 * n)) h
def T_X11_kind : List AV → AH → (Int32 → AH → Prop) → Prop := fun as h K => match as with
  | [.inr (.inr (.inl q0)), .inl q1] => tif (Nat.beq q0.1 16) (S_X11_kind q0.2 q1 h K)
  | _ => False

def M_X11_kind : MI := (RX11, cX11_kind, 2, [(0, .aload_n 0, []), (1, .bipush 48, []), (3, .iconst 2, []), (4, .iload_n 1, []), (5, .imul, []), (6, .iadd, []), (7, .iaload, []), (8, .ireturn, [])], [], [], [], [], 0, 0, 0, 0)
theorem ok_X11_kind : MOK M_X11_kind := ⟨by decide +kernel, fun _ h => absurd h List.not_mem_nil, fun _ h => absurd h List.not_mem_nil, fun _ h => absurd h List.not_mem_nil, fun _ h => absurd h List.not_mem_nil⟩
set_option maxRecDepth 100000 in
theorem vc_X11_kind {K : Int32 → AH → Prop} {h : AH} (p0 : Nat) (p1 : Int32) (H : inR ((nI 48) + ((nI 2) * p1)) 62 ∧ K (h.1 16 p0 ((nI 48) + ((nI 2) * p1)).toNatClampNeg) h) : AW M_X11_kind (.inl K) 0 [some (aR 16 p0), some (aI p1)] [] h 0 0 := AW_go (cuts := []) ok_X11_kind 400 H

theorem snd_X11_kind (j : Nat) (a : Int32) {h : AH} {K : Int32 → AH → Prop} (k : S_X11_kind j a h K) : AW M_X11_kind (.inl K) 0 [some (aR 16 j), some (aI a)] [] h 0 0 := by
  refine vc_X11_kind j a ?_
  obtain ⟨n, hn, rfl, k⟩ := k
  simp (disch := omega) only [pk_mul, nI_add, n_inT, n_cl, true_and]
  exact k
theorem tw_X11_kind : ∀ (as : List AV) (h : AH) (K : Int32 → AH → Prop), T_X11_kind as h K → (ini as).length ≤ mNL M_X11_kind ∧ AW M_X11_kind (.inl K) 0 (initL (mNL M_X11_kind) as) [] h 0 0 := by
  intro as h K hk
  match as, hk with
  | [.inr (.inr (.inl q0)), .inl q1], hk =>
    obtain ⟨hb, hk⟩ := tif_inv hk
    have e0 := hb
    obtain ⟨a0, b0⟩ := q0
    have f0 : a0 = 16 := Nat.eq_of_beq_eq_true e0
    subst f0
    exact ⟨Nat.le_of_ble_eq_true rfl, snd_X11_kind b0 q1 hk⟩
theorem cr_RX11_184 : CR RX11 (kIns 184) (2, 1, 21, 0, 0, .inl T_X11_kind) := crS_i (M := M_X11_kind) (by decide) rfl (inG (i := 1055) (w := Cond.methodLink RX11 61 yX11_kind) (by decide +kernel) rfl) (inG (i := 1056) (w := Cond.static yX11_kind) (by decide +kernel) rfl) (inG (i := 40) (w := Cond.initialized RX11) (by decide +kernel) rfl) (inG (i := 1057) (w := Cond.code yX11_kind cX11_kind 2 (some .int)) (by decide +kernel) rfl) ⟨by decide +kernel, by decide +kernel, by decide +kernel⟩ tw_X11_kind

def S_X11_figure (j : Nat) (a : Int32) (h : AH) (K : Int32 → AH → Prop) : Prop := ∃ n, n < 7 ∧ a = nI n ∧ K (h.1 16 j (48 + 2 * n + 1)) h
def T_X11_figure : List AV → AH → (Int32 → AH → Prop) → Prop := fun as h K => match as with
  | [.inr (.inr (.inl q0)), .inl q1] => tif (Nat.beq q0.1 16) (S_X11_figure q0.2 q1 h K)
  | _ => False

def M_X11_figure : MI := (RX11, cX11_figure, 2, [(0, .aload_n 0, []), (1, .bipush 48, []), (3, .iconst 2, []), (4, .iload_n 1, []), (5, .imul, []), (6, .iadd, []), (7, .iconst 1, []), (8, .iadd, []), (9, .iaload, []), (10, .ireturn, [])], [], [], [], [], 0, 0, 0, 0)
theorem ok_X11_figure : MOK M_X11_figure := ⟨by decide +kernel, fun _ h => absurd h List.not_mem_nil, fun _ h => absurd h List.not_mem_nil, fun _ h => absurd h List.not_mem_nil, fun _ h => absurd h List.not_mem_nil⟩
set_option maxRecDepth 100000 in
theorem vc_X11_figure {K : Int32 → AH → Prop} {h : AH} (p0 : Nat) (p1 : Int32) (H : inR (((nI 48) + ((nI 2) * p1)) + (nI 1)) 62 ∧ K (h.1 16 p0 (((nI 48) + ((nI 2) * p1)) + (nI 1)).toNatClampNeg) h) : AW M_X11_figure (.inl K) 0 [some (aR 16 p0), some (aI p1)] [] h 0 0 := AW_go (cuts := []) ok_X11_figure 400 H

theorem snd_X11_figure (j : Nat) (a : Int32) {h : AH} {K : Int32 → AH → Prop} (k : S_X11_figure j a h K) : AW M_X11_figure (.inl K) 0 [some (aR 16 j), some (aI a)] [] h 0 0 := by
  refine vc_X11_figure j a ?_
  obtain ⟨n, hn, rfl, k⟩ := k
  simp (disch := omega) only [pk_mul, nI_add, n_inT, n_cl, true_and]
  exact k
theorem tw_X11_figure : ∀ (as : List AV) (h : AH) (K : Int32 → AH → Prop), T_X11_figure as h K → (ini as).length ≤ mNL M_X11_figure ∧ AW M_X11_figure (.inl K) 0 (initL (mNL M_X11_figure) as) [] h 0 0 := by
  intro as h K hk
  match as, hk with
  | [.inr (.inr (.inl q0)), .inl q1], hk =>
    obtain ⟨hb, hk⟩ := tif_inv hk
    have e0 := hb
    obtain ⟨a0, b0⟩ := q0
    have f0 : a0 = 16 := Nat.eq_of_beq_eq_true e0
    subst f0
    exact ⟨Nat.le_of_ble_eq_true rfl, snd_X11_figure b0 q1 hk⟩
theorem cr_RX11_172 : CR RX11 (kIns 172) (2, 1, 21, 0, 0, .inl T_X11_figure) := crS_i (M := M_X11_figure) (by decide) rfl (inG (i := 1070) (w := Cond.methodLink RX11 57 yX11_figure) (by decide +kernel) rfl) (inG (i := 1071) (w := Cond.static yX11_figure) (by decide +kernel) rfl) (inG (i := 40) (w := Cond.initialized RX11) (by decide +kernel) rfl) (inG (i := 1072) (w := Cond.code yX11_figure cX11_figure 2 (some .int)) (by decide +kernel) rfl) ⟨by decide +kernel, by decide +kernel, by decide +kernel⟩ tw_X11_figure

def S_X11_isCell (c : Int32) (h : AH) (K : Int32 → AH → Prop) : Prop := K (if nI 0 ≤ c ∧ c ≤ nI 7 then nI 1 else nI 0) h
def T_X11_isCell : List AV → AH → (Int32 → AH → Prop) → Prop := fun as h K => match as with
  | [.inl q0] => S_X11_isCell q0 h K
  | _ => False

def M_X11_isCell : MI := (RX11, cX11_isCell, 1, [(0, .iload_n 0, []), (1, .iconst 0, []), (2, .bipush 7, []), (4, .invokestatic 53, []), (7, .ireturn, [])], [], [], [], [(160, (3, 1, 22, 0, 0, .inl T_X11_isIn))], 1, 22, 0, 0)
theorem ok_X11_isCell : MOK M_X11_isCell := ⟨by decide +kernel, fun _ h => absurd h List.not_mem_nil, fun _ h => absurd h List.not_mem_nil, fun _ h => absurd h List.not_mem_nil, List.forall_mem_cons.mpr ⟨⟨Nat.le_of_ble_eq_true rfl, Nat.le_of_ble_eq_true rfl, cr_RX11_160⟩, fun _ h => absurd h List.not_mem_nil⟩⟩
set_option maxRecDepth 100000 in
theorem vc_X11_isCell {K : Int32 → AH → Prop} {h : AH} (p0 : Int32) (H : S_X11_isIn p0 (nI 0) (nI 7) h (fun x2 h1 => ((x2 = 0 ∨ x2 = 1) ∧ K x2 h1))) : AW M_X11_isCell (.inl (fun x u => (x = 0 ∨ x = 1) ∧ K x u)) 0 [some (aI p0)] [] h 0 0 := AW_go (cuts := []) ok_X11_isCell 400 H

theorem z01 {p : Prop} [Decidable p] : ((if p then nI 1 else nI 0) = 0 ∨ (if p then nI 1 else nI 0) = 1) := by
  split
  · exact Or.inr rfl
  · exact Or.inl rfl
theorem snd_X11_isCell (c : Int32) {h : AH} {K : Int32 → AH → Prop} (k : S_X11_isCell c h K) : AW M_X11_isCell (.inl (fun x u => (x = 0 ∨ x = 1) ∧ K x u)) 0 [some (aI c)] [] h 0 0 := vc_X11_isCell c ⟨z01, k⟩
theorem tw_X11_isCell : ∀ (as : List AV) (h : AH) (K : Int32 → AH → Prop), T_X11_isCell as h K → (ini as).length ≤ mNL M_X11_isCell ∧ AW M_X11_isCell (.inl (fun x u => (x = 0 ∨ x = 1) ∧ K x u)) 0 (initL (mNL M_X11_isCell) as) [] h 0 0 := by
  intro as h K hk
  match as, hk with
  | [.inl q0], hk =>
    exact ⟨Nat.le_of_ble_eq_true rfl, snd_X11_isCell q0 hk⟩
theorem cr_RX11_361 : CR RX11 (kIns 361) (1, 2, 42, 0, 0, .inl T_X11_isCell) := crS_z (M := M_X11_isCell) (by decide) rfl (inG (i := 1023) (w := Cond.methodLink RX11 120 yX11_isCell) (by decide +kernel) rfl) (inG (i := 1024) (w := Cond.static yX11_isCell) (by decide +kernel) rfl) (inG (i := 40) (w := Cond.initialized RX11) (by decide +kernel) rfl) (inG (i := 1025) (w := Cond.code yX11_isCell cX11_isCell 1 (some .boolean)) (by decide +kernel) rfl) ⟨by decide +kernel, by decide +kernel, by decide +kernel⟩ tw_X11_isCell

def S_X11_isShelf (c : Int32) (h : AH) (K : Int32 → AH → Prop) : Prop := K (if nI 0 ≤ c ∧ c ≤ nI 7 then nI 1 else nI 0) h
def T_X11_isShelf : List AV → AH → (Int32 → AH → Prop) → Prop := fun as h K => match as with
  | [.inl q0] => S_X11_isShelf q0 h K
  | _ => False

def M_X11_isShelf : MI := (RX11, cX11_isShelf, 1, [(0, .iload_n 0, []), (1, .iconst 0, []), (2, .bipush 7, []), (4, .invokestatic 53, []), (7, .ireturn, [])], [], [], [], [(160, (3, 1, 22, 0, 0, .inl T_X11_isIn))], 1, 22, 0, 0)
theorem ok_X11_isShelf : MOK M_X11_isShelf := ⟨by decide +kernel, fun _ h => absurd h List.not_mem_nil, fun _ h => absurd h List.not_mem_nil, fun _ h => absurd h List.not_mem_nil, List.forall_mem_cons.mpr ⟨⟨Nat.le_of_ble_eq_true rfl, Nat.le_of_ble_eq_true rfl, cr_RX11_160⟩, fun _ h => absurd h List.not_mem_nil⟩⟩
set_option maxRecDepth 100000 in
theorem vc_X11_isShelf {K : Int32 → AH → Prop} {h : AH} (p0 : Int32) (H : S_X11_isIn p0 (nI 0) (nI 7) h (fun x2 h1 => ((x2 = 0 ∨ x2 = 1) ∧ K x2 h1))) : AW M_X11_isShelf (.inl (fun x u => (x = 0 ∨ x = 1) ∧ K x u)) 0 [some (aI p0)] [] h 0 0 := AW_go (cuts := []) ok_X11_isShelf 400 H

theorem snd_X11_isShelf (c : Int32) {h : AH} {K : Int32 → AH → Prop} (k : S_X11_isShelf c h K) : AW M_X11_isShelf (.inl (fun x u => (x = 0 ∨ x = 1) ∧ K x u)) 0 [some (aI c)] [] h 0 0 := vc_X11_isShelf c ⟨z01, k⟩
theorem tw_X11_isShelf : ∀ (as : List AV) (h : AH) (K : Int32 → AH → Prop), T_X11_isShelf as h K → (ini as).length ≤ mNL M_X11_isShelf ∧ AW M_X11_isShelf (.inl (fun x u => (x = 0 ∨ x = 1) ∧ K x u)) 0 (initL (mNL M_X11_isShelf) as) [] h 0 0 := by
  intro as h K hk
  match as, hk with
  | [.inl q0], hk =>
    exact ⟨Nat.le_of_ble_eq_true rfl, snd_X11_isShelf q0 hk⟩
theorem cr_RX11_679 : CR RX11 (kIns 679) (1, 2, 42, 0, 0, .inl T_X11_isShelf) := crS_z (M := M_X11_isShelf) (by decide) rfl (inG (i := 998) (w := Cond.methodLink RX11 226 yX11_isShelf) (by decide +kernel) rfl) (inG (i := 999) (w := Cond.static yX11_isShelf) (by decide +kernel) rfl) (inG (i := 40) (w := Cond.initialized RX11) (by decide +kernel) rfl) (inG (i := 1000) (w := Cond.code yX11_isShelf cX11_isShelf 1 (some .boolean)) (by decide +kernel) rfl) ⟨by decide +kernel, by decide +kernel, by decide +kernel⟩ tw_X11_isShelf

def S_X11_isEagle (c : Int32) (h : AH) (K : Int32 → AH → Prop) : Prop := K (if nI 0 ≤ c ∧ c ≤ h.1 16 0 0 - nI 1 then nI 1 else nI 0) h
def T_X11_isEagle : List AV → AH → (Int32 → AH → Prop) → Prop := fun as h K => match as with
  | [.inr (.inr (.inl q0)), .inl q1] => tif (Nat.beq q0.1 15 && Nat.beq q0.2 0) (S_X11_isEagle q1 h K)
  | _ => False

def M_X11_isEagle : MI := (RX11, cX11_isEagle, 2, [(0, .iload_n 1, []), (1, .iconst 0, []), (2, .aload_n 0, []), (3, .getfield 9, []), (6, .iconst 0, []), (7, .iaload, []), (8, .iconst 1, []), (9, .isub, []), (10, .invokestatic 53, []), (13, .ireturn, [])], [(9, (15, 0, 1, 16, 0))], [], [], [(160, (3, 1, 22, 0, 0, .inl T_X11_isIn))], 1, 22, 0, 0)
theorem ok_X11_isEagle : MOK M_X11_isEagle := ⟨by decide +kernel, List.forall_mem_cons.mpr ⟨fl_RX11_9, fun _ h => absurd h List.not_mem_nil⟩, fun _ h => absurd h List.not_mem_nil, fun _ h => absurd h List.not_mem_nil, List.forall_mem_cons.mpr ⟨⟨Nat.le_of_ble_eq_true rfl, Nat.le_of_ble_eq_true rfl, cr_RX11_160⟩, fun _ h => absurd h List.not_mem_nil⟩⟩
set_option maxRecDepth 100000 in
theorem vc_X11_isEagle {K : Int32 → AH → Prop} {h : AH} (p1 : Int32) (H : inR (nI 0) 62 ∧ S_X11_isIn p1 (nI 0) ((h.1 16 0 (nI 0).toNatClampNeg) - (nI 1)) h (fun x2 h1 => ((x2 = 0 ∨ x2 = 1) ∧ K x2 h1))) : AW M_X11_isEagle (.inl (fun x u => (x = 0 ∨ x = 1) ∧ K x u)) 0 [some (aR 15 0), some (aI p1)] [] h 0 0 := AW_go (cuts := []) ok_X11_isEagle 400 H

theorem snd_X11_isEagle (c : Int32) {h : AH} {K : Int32 → AH → Prop} (k : S_X11_isEagle c h K) : AW M_X11_isEagle (.inl (fun x u => (x = 0 ∨ x = 1) ∧ K x u)) 0 [some (aR 15 0), some (aI c)] [] h 0 0 := by
  refine vc_X11_isEagle c ?_
  simp (disch := omega) only [n_inT, n_cl, true_and]
  exact ⟨z01, k⟩
theorem tr_X11_isEagle : ∀ (as : List AV) (h : AH) (K : Int32 → AH → Prop), T_X11_isEagle as h K → ∃ (q : Nat) (r : List AV), as = aR 15 q :: r := by
  intro as h K hk
  match as, hk with
  | [.inr (.inr (.inl q0)), .inl q1], hk =>
    obtain ⟨hb, hk⟩ := tif_inv hk
    simp only [Bool.and_eq_true] at hb
    obtain ⟨e0, e1⟩ := hb
    obtain ⟨a0, b0⟩ := q0
    have f0 : a0 = 15 := Nat.eq_of_beq_eq_true e0
    subst f0
    have f1 : b0 = 0 := Nat.eq_of_beq_eq_true e1
    subst f1
    exact ⟨_, _, rfl⟩
theorem tw_X11_isEagle : ∀ (as : List AV) (h : AH) (K : Int32 → AH → Prop), T_X11_isEagle as h K → (ini as).length ≤ mNL M_X11_isEagle ∧ AW M_X11_isEagle (.inl (fun x u => (x = 0 ∨ x = 1) ∧ K x u)) 0 (initL (mNL M_X11_isEagle) as) [] h 0 0 := by
  intro as h K hk
  match as, hk with
  | [.inr (.inr (.inl q0)), .inl q1], hk =>
    obtain ⟨hb, hk⟩ := tif_inv hk
    simp only [Bool.and_eq_true] at hb
    obtain ⟨e0, e1⟩ := hb
    obtain ⟨a0, b0⟩ := q0
    have f0 : a0 = 15 := Nat.eq_of_beq_eq_true e0
    subst f0
    have f1 : b0 = 0 := Nat.eq_of_beq_eq_true e1
    subst f1
    exact ⟨Nat.le_of_ble_eq_true rfl, snd_X11_isEagle q1 hk⟩
theorem cr_RX11_465 : CR RX11 (kIns 465) (2, 2, 43, 0, 0, .inl T_X11_isEagle) := crV_z (t := 15) (M := M_X11_isEagle) (by decide) rfl (by decide) rfl (inG (i := 1090) (w := Cond.methodLink RX11 155 yX11_isEagle) (by decide +kernel) rfl) (inG (i := 1092) (w := Cond.instanceMethod yX11_isEagle) (by decide +kernel) rfl) (inG (i := 40) (w := Cond.initialized RX11) (by decide +kernel) rfl) (inG (i := 22) (w := Cond.selects RX11 yX11_isEagle yX11_isEagle) (by decide +kernel) rfl) (inG (i := 1093) (w := Cond.code yX11_isEagle cX11_isEagle 2 (some .boolean)) (by decide +kernel) rfl) ⟨by decide +kernel, by decide +kernel, by decide +kernel⟩ tr_X11_isEagle tw_X11_isEagle

def S_X11_isSheep (c : Int32) (h : AH) (K : Int32 → AH → Prop) : Prop := K (if nI 0 ≤ c ∧ c ≤ h.1 16 0 1 - nI 1 then nI 1 else nI 0) h
def T_X11_isSheep : List AV → AH → (Int32 → AH → Prop) → Prop := fun as h K => match as with
  | [.inr (.inr (.inl q0)), .inl q1] => tif (Nat.beq q0.1 15 && Nat.beq q0.2 0) (S_X11_isSheep q1 h K)
  | _ => False

def M_X11_isSheep : MI := (RX11, cX11_isSheep, 2, [(0, .iload_n 1, []), (1, .iconst 0, []), (2, .aload_n 0, []), (3, .getfield 9, []), (6, .iconst 1, []), (7, .iaload, []), (8, .iconst 1, []), (9, .isub, []), (10, .invokestatic 53, []), (13, .ireturn, [])], [(9, (15, 0, 1, 16, 0))], [], [], [(160, (3, 1, 22, 0, 0, .inl T_X11_isIn))], 1, 22, 0, 0)
theorem ok_X11_isSheep : MOK M_X11_isSheep := ⟨by decide +kernel, List.forall_mem_cons.mpr ⟨fl_RX11_9, fun _ h => absurd h List.not_mem_nil⟩, fun _ h => absurd h List.not_mem_nil, fun _ h => absurd h List.not_mem_nil, List.forall_mem_cons.mpr ⟨⟨Nat.le_of_ble_eq_true rfl, Nat.le_of_ble_eq_true rfl, cr_RX11_160⟩, fun _ h => absurd h List.not_mem_nil⟩⟩
set_option maxRecDepth 100000 in
theorem vc_X11_isSheep {K : Int32 → AH → Prop} {h : AH} (p1 : Int32) (H : inR (nI 1) 62 ∧ S_X11_isIn p1 (nI 0) ((h.1 16 0 (nI 1).toNatClampNeg) - (nI 1)) h (fun x2 h1 => ((x2 = 0 ∨ x2 = 1) ∧ K x2 h1))) : AW M_X11_isSheep (.inl (fun x u => (x = 0 ∨ x = 1) ∧ K x u)) 0 [some (aR 15 0), some (aI p1)] [] h 0 0 := AW_go (cuts := []) ok_X11_isSheep 400 H

theorem snd_X11_isSheep (c : Int32) {h : AH} {K : Int32 → AH → Prop} (k : S_X11_isSheep c h K) : AW M_X11_isSheep (.inl (fun x u => (x = 0 ∨ x = 1) ∧ K x u)) 0 [some (aR 15 0), some (aI c)] [] h 0 0 := by
  refine vc_X11_isSheep c ?_
  simp (disch := omega) only [n_inT, n_cl, true_and]
  exact ⟨z01, k⟩
theorem tr_X11_isSheep : ∀ (as : List AV) (h : AH) (K : Int32 → AH → Prop), T_X11_isSheep as h K → ∃ (q : Nat) (r : List AV), as = aR 15 q :: r := by
  intro as h K hk
  match as, hk with
  | [.inr (.inr (.inl q0)), .inl q1], hk =>
    obtain ⟨hb, hk⟩ := tif_inv hk
    simp only [Bool.and_eq_true] at hb
    obtain ⟨e0, e1⟩ := hb
    obtain ⟨a0, b0⟩ := q0
    have f0 : a0 = 15 := Nat.eq_of_beq_eq_true e0
    subst f0
    have f1 : b0 = 0 := Nat.eq_of_beq_eq_true e1
    subst f1
    exact ⟨_, _, rfl⟩
theorem tw_X11_isSheep : ∀ (as : List AV) (h : AH) (K : Int32 → AH → Prop), T_X11_isSheep as h K → (ini as).length ≤ mNL M_X11_isSheep ∧ AW M_X11_isSheep (.inl (fun x u => (x = 0 ∨ x = 1) ∧ K x u)) 0 (initL (mNL M_X11_isSheep) as) [] h 0 0 := by
  intro as h K hk
  match as, hk with
  | [.inr (.inr (.inl q0)), .inl q1], hk =>
    obtain ⟨hb, hk⟩ := tif_inv hk
    simp only [Bool.and_eq_true] at hb
    obtain ⟨e0, e1⟩ := hb
    obtain ⟨a0, b0⟩ := q0
    have f0 : a0 = 15 := Nat.eq_of_beq_eq_true e0
    subst f0
    have f1 : b0 = 0 := Nat.eq_of_beq_eq_true e1
    subst f1
    exact ⟨Nat.le_of_ble_eq_true rfl, snd_X11_isSheep q1 hk⟩
theorem cr_RX11_396 : CR RX11 (kIns 396) (2, 2, 43, 0, 0, .inl T_X11_isSheep) := crV_z (t := 15) (M := M_X11_isSheep) (by decide) rfl (by decide) rfl (inG (i := 1048) (w := Cond.methodLink RX11 132 yX11_isSheep) (by decide +kernel) rfl) (inG (i := 1050) (w := Cond.instanceMethod yX11_isSheep) (by decide +kernel) rfl) (inG (i := 40) (w := Cond.initialized RX11) (by decide +kernel) rfl) (inG (i := 21) (w := Cond.selects RX11 yX11_isSheep yX11_isSheep) (by decide +kernel) rfl) (inG (i := 1051) (w := Cond.code yX11_isSheep cX11_isSheep 2 (some .boolean)) (by decide +kernel) rfl) ⟨by decide +kernel, by decide +kernel, by decide +kernel⟩ tr_X11_isSheep tw_X11_isSheep


/-! ===== the reference: merchants ===== -/
abbrev cho (U : Vm) (x c : Nat) : Prop := x = U 10 1 ∨ c ≤ vFl U x
def gnB (U : Vm) (x c : Nat) : Int := if x = U 10 1 then 0 else gn U x c
def bP (U : Vm) (x c : Nat) : Prop := ∀ t, t ≤ U 10 1 → cho U t c → gnB U t c ≤ gnB U x c
def sam (V U : Vm) : Prop := U 10 1 = V 10 1 ∧ (∀ x, vPr U x = vPr V x) ∧ ∀ x, vFl U x = vFl V x
theorem sam_rfl (V : Vm) : sam V V := ⟨rfl, fun _ => rfl, fun _ => rfl⟩
theorem sam_thr (V : Vm) (n m : Nat) : sam V (thr V n m) := ⟨thr_10 (by omega), fun x => by unfold vPr; rw [thr_8 (Or.inl rfl), thr_8 (Or.inr rfl)], fun x => by unfold vFl; rw [thr_8 (Or.inl rfl)]⟩
/-- from the last sheep down: the best so far, and its gain -/
def bcR (f : Nat → Option Int) (N : Nat) : Nat → Nat × Int
  | 0 => (N, 0)
  | r + 1 => match f (N - 1 - r) with
    | none => bcR f N r
    | some g => if (bcR f N r).2 ≤ g then (N - 1 - r, g) else bcR f N r
theorem bcR_ok {f : Nat → Option Int} {N : Nat} : ∀ r, r ≤ N → ((bcR f N r).1 = N ∧ (bcR f N r).2 = 0 ∨ (N - r ≤ (bcR f N r).1 ∧ (bcR f N r).1 < N ∧ f (bcR f N r).1 = some (bcR f N r).2)) ∧ 0 ≤ (bcR f N r).2 ∧ ∀ s g, N - r ≤ s → s < N → f s = some g → g ≤ (bcR f N r).2 ∧ (s < (bcR f N r).1 → g < (bcR f N r).2)
  | 0, _ => ⟨Or.inl ⟨rfl, rfl⟩, Int.le_refl _, fun s g h1 h2 => by omega⟩
  | r + 1, hr => by
    obtain ⟨h1, h2, h3⟩ := bcR_ok (f := f) (N := N) r (by omega)
    unfold bcR
    split
    · rename_i e
      refine ⟨?_, h2, fun s g q1 q2 q3 => ?_⟩
      · rcases h1 with h | ⟨a, b⟩
        · exact Or.inl h
        · exact Or.inr ⟨by omega, b⟩
      · by_cases z : s = N - 1 - r
        · rw [z, e] at q3; exact absurd q3 (by simp)
        · exact h3 s g (by omega) q2 q3
    · rename_i g0 e
      split
      · rename_i hle
        refine ⟨Or.inr ⟨by show N - (r + 1) ≤ N - 1 - r; omega, by show N - 1 - r < N; omega, e⟩, by show 0 ≤ g0; omega, fun s g q1 q2 q3 => ?_⟩
        show g ≤ g0 ∧ (s < N - 1 - r → g < g0)
        by_cases z : s = N - 1 - r
        · rw [z, e] at q3
          have := Option.some.inj q3
          omega
        · have := (h3 s g (by omega) q2 q3).1
          omega
      · rename_i hle
        refine ⟨?_, h2, fun s g q1 q2 q3 => ?_⟩
        · rcases h1 with h | ⟨a, b⟩
          · exact Or.inl h
          · exact Or.inr ⟨by omega, b⟩
        · by_cases z : s = N - 1 - r
          · rw [z, e] at q3
            have := Option.some.inj q3
            omega
          · exact h3 s g (by omega) q2 q3
def chF (U : Vm) (m s : Nat) : Option Int := if m ≤ vFl U s then some (gn U s m) else none
def bc (U : Vm) (m : Nat) : Nat := (bcR (chF U m) (U 10 1) (U 10 1)).1
theorem bc_ok (U : Vm) (m : Nat) : bc U m ≤ U 10 1 ∧ cho U (bc U m) m ∧ bP U (bc U m) m ∧ ∀ s, s < bc U m → cho U s m → ¬ bP U s m := by
  obtain ⟨h1, h2, h3⟩ := bcR_ok (f := chF U m) (N := U 10 1) (U 10 1) (Nat.le_refl _)
  change (bc U m = _ ∧ _ ∨ (_ ∧ bc U m < _ ∧ chF U m (bc U m) = _)) at h1
  change ∀ s g, _ → _ → _ → g ≤ _ ∧ (s < bc U m → _) at h3
  have hg : gnB U (bc U m) m = (bcR (chF U m) (U 10 1) (U 10 1)).2 := by
    unfold gnB
    rcases h1 with ⟨a, b⟩ | ⟨a, b, e⟩
    · rw [if_pos a, b]
    · rw [if_neg (by omega)]
      unfold chF at e
      split at e
      · exact Option.some.inj e
      · exact absurd e (by simp)
  have hle : bc U m ≤ U 10 1 := by rcases h1 with ⟨a, _⟩ | ⟨_, b, _⟩ <;> omega
  have hco : cho U (bc U m) m := by
    rcases h1 with ⟨a, b⟩ | ⟨a, b, e⟩
    · exact Or.inl a
    · unfold chF at e
      split at e
      · rename_i z; exact Or.inr z
      · exact absurd e (by simp)
  refine ⟨hle, hco, fun t ht hc => ?_, fun s hs hc hb => ?_⟩
  · rw [hg]
    unfold gnB
    by_cases z : t = U 10 1
    · rw [if_pos z]; exact h2
    · rw [if_neg z]
      refine (h3 t (gn U t m) (by omega) (by omega) ?_).1
      unfold chF
      rw [if_pos (hc.resolve_left z)]
  · have := hb (bc U m) hle hco
    rw [hg] at this
    have z : ¬ s = U 10 1 := by omega
    unfold gnB at this
    rw [if_neg z] at this
    have := (h3 s (gn U s m) (by omega) (by omega) (by unfold chF; rw [if_pos (hc.resolve_left z)])).2 hs
    omega
def cPre (h : AH) (x c : Int32) (V : Vm) (X m : Nat) : Prop := RV (h.1 16 0) V ∧ WF V ∧ X ≤ V 10 1 ∧ x = nI X ∧ m < 8 ∧ c = nI m
def S_X11_isChoice (x c : Int32) (h : AH) (K : Int32 → AH → Prop) : Prop := ∃ V X m, cPre h x c V X m ∧ K (if cho V X m then nI 1 else nI 0) h
def T_X11_isChoice : List AV → AH → (Int32 → AH → Prop) → Prop := fun as h K => match as with
  | [.inr (.inr (.inl q0)), .inl q1, .inl q2] => tif (Nat.beq q0.1 15 && Nat.beq q0.2 0) (S_X11_isChoice q1 q2 h K)
  | _ => False

def M_X11_isChoice : MI := (RX11, cX11_isChoice, 3, [(0, .iload_n 1, []), (1, .aload_n 0, []), (2, .getfield 9, []), (5, .iconst 1, []), (6, .iaload, []), (7, .if_icmp .eq 15, [22]), (10, .iload_n 2, []), (11, .aload_n 0, []), (12, .getfield 9, []), (15, .iload_n 1, []), (16, .invokestatic 135, []), (19, .if_icmp .gt 7, [26]), (22, .iconst 1, []), (23, .goto 4, [27]), (26, .iconst 0, []), (27, .ireturn, [])], [(9, (15, 0, 1, 16, 0))], [], [], [(406, (2, 2, 42, 0, 0, .inl T_X11_flies))], 2, 42, 0, 0)
theorem ok_X11_isChoice : MOK M_X11_isChoice := ⟨by decide +kernel, List.forall_mem_cons.mpr ⟨fl_RX11_9, fun _ h => absurd h List.not_mem_nil⟩, fun _ h => absurd h List.not_mem_nil, fun _ h => absurd h List.not_mem_nil, List.forall_mem_cons.mpr ⟨⟨Nat.le_of_ble_eq_true rfl, Nat.le_of_ble_eq_true rfl, cr_RX11_406⟩, fun _ h => absurd h List.not_mem_nil⟩⟩
set_option maxRecDepth 100000 in
theorem vc_X11_isChoice {K : Int32 → AH → Prop} {h : AH} (p1 : Int32) (p2 : Int32) (H : inR (nI 1) 62 ∧ ((p1 = (h.1 16 0 (nI 1).toNatClampNeg)) → (((nI 1) = 0 ∨ (nI 1) = 1) ∧ K (nI 1) h)) ∧ (¬ (p1 = (h.1 16 0 (nI 1).toNatClampNeg)) → S_X11_flies 0 p1 h (fun x2 h1 => ((x2 < p2) → (((nI 0) = 0 ∨ (nI 0) = 1) ∧ K (nI 0) h1)) ∧ (¬ (x2 < p2) → (((nI 1) = 0 ∨ (nI 1) = 1) ∧ K (nI 1) h1))))) : AW M_X11_isChoice (.inl (fun x u => (x = 0 ∨ x = 1) ∧ K x u)) 0 [some (aR 15 0), some (aI p1), some (aI p2)] [] h 0 0 := AW_go (cuts := []) ok_X11_isChoice 400 H

theorem snd_X11_isChoice (x c : Int32) {h : AH} {K : Int32 → AH → Prop} (k : S_X11_isChoice x c h K) : AW M_X11_isChoice (.inl (fun x u => (x = 0 ∨ x = 1) ∧ K x u)) 0 [some (aR 15 0), some (aI x), some (aI c)] [] h 0 0 := by
  obtain ⟨V, X, m, ⟨hr, hv, hX, rfl, hm, rfl⟩, k⟩ := k
  refine vc_X11_isChoice (nI X) (nI m) ?_
  have h7 := hv.2.1
  have e1 := (RVs hr).2.2.2.2.2.2.2.2.2.2.2.1
  have hf : vFl V X ≤ 7 := fly_le _
  simp (disch := omega) only [n_inT, n_cl, true_and, e1, n_eq]
  refine ⟨fun q => ⟨Or.inr (by decide), ?_⟩, fun q => ⟨V, X, ⟨hr, hv, by omega, rfl⟩, ?_⟩⟩
  · rw [if_pos (Or.inl q)] at k; exact k
  · simp (disch := omega) only [n_lt]
    refine ⟨fun z => ⟨Or.inl (by decide), ?_⟩, fun z => ⟨Or.inr (by decide), ?_⟩⟩
    · rw [if_neg (by omega)] at k; exact k
    · rw [if_pos (by omega)] at k; exact k
theorem tr_X11_isChoice : ∀ (as : List AV) (h : AH) (K : Int32 → AH → Prop), T_X11_isChoice as h K → ∃ (q : Nat) (r : List AV), as = aR 15 q :: r := by
  intro as h K hk
  match as, hk with
  | [.inr (.inr (.inl q0)), .inl q1, .inl q2], hk =>
    obtain ⟨hb, hk⟩ := tif_inv hk
    simp only [Bool.and_eq_true] at hb
    obtain ⟨e0, e1⟩ := hb
    obtain ⟨a0, b0⟩ := q0
    have f0 : a0 = 15 := Nat.eq_of_beq_eq_true e0
    subst f0
    have f1 : b0 = 0 := Nat.eq_of_beq_eq_true e1
    subst f1
    exact ⟨_, _, rfl⟩
theorem tw_X11_isChoice : ∀ (as : List AV) (h : AH) (K : Int32 → AH → Prop), T_X11_isChoice as h K → (ini as).length ≤ mNL M_X11_isChoice ∧ AW M_X11_isChoice (.inl (fun x u => (x = 0 ∨ x = 1) ∧ K x u)) 0 (initL (mNL M_X11_isChoice) as) [] h 0 0 := by
  intro as h K hk
  match as, hk with
  | [.inr (.inr (.inl q0)), .inl q1, .inl q2], hk =>
    obtain ⟨hb, hk⟩ := tif_inv hk
    simp only [Bool.and_eq_true] at hb
    obtain ⟨e0, e1⟩ := hb
    obtain ⟨a0, b0⟩ := q0
    have f0 : a0 = 15 := Nat.eq_of_beq_eq_true e0
    subst f0
    have f1 : b0 = 0 := Nat.eq_of_beq_eq_true e1
    subst f1
    exact ⟨Nat.le_of_ble_eq_true rfl, snd_X11_isChoice q1 q2 hk⟩
theorem cr_RX11_639 : CR RX11 (kIns 639) (3, 3, 64, 0, 0, .inl T_X11_isChoice) := crV_z (t := 15) (M := M_X11_isChoice) (by decide) rfl (by decide) rfl (inG (i := 1242) (w := Cond.methodLink RX11 213 yX11_isChoice) (by decide +kernel) rfl) (inG (i := 1244) (w := Cond.instanceMethod yX11_isChoice) (by decide +kernel) rfl) (inG (i := 40) (w := Cond.initialized RX11) (by decide +kernel) rfl) (inG (i := 31) (w := Cond.selects RX11 yX11_isChoice yX11_isChoice) (by decide +kernel) rfl) (inG (i := 1245) (w := Cond.code yX11_isChoice cX11_isChoice 3 (some .boolean)) (by decide +kernel) rfl) ⟨by decide +kernel, by decide +kernel, by decide +kernel⟩ tr_X11_isChoice tw_X11_isChoice

def S_X11_gainBy (j : Nat) (x c : Int32) (h : AH) (K : Int32 → AH → Prop) : Prop := ∃ V U X m, cPre h x c V X m ∧ RV (h.1 16 j) U ∧ WF U ∧ sam V U ∧ j ≠ 2 ∧ ∀ h', only 16 2 h h' → K (iI (gnB U X m)) h'
def T_X11_gainBy : List AV → AH → (Int32 → AH → Prop) → Prop := fun as h K => match as with
  | [.inr (.inr (.inl q0)), .inr (.inr (.inl q1)), .inl q2, .inl q3] => tif (Nat.beq q0.1 15 && Nat.beq q0.2 0 && Nat.beq q1.1 16) (S_X11_gainBy q1.2 q2 q3 h K)
  | _ => False

def M_X11_gainBy : MI := (RX11, cX11_gainBy, 4, [(0, .iload_n 2, []), (1, .aload_n 0, []), (2, .getfield 9, []), (5, .iconst 1, []), (6, .iaload, []), (7, .if_icmp .ne 7, [14]), (10, .iconst 0, []), (11, .goto 19, [30]), (14, .aload_n 0, []), (15, .aload_n 1, []), (16, .iload_n 2, []), (17, .iload_n 3, []), (18, .invokevirtual 168, []), (21, .aload_n 0, []), (22, .getfield 9, []), (25, .iload_n 2, []), (26, .invokestatic 158, []), (29, .isub, []), (30, .ireturn, [])], [(9, (15, 0, 1, 16, 0))], [], [], [(504, (4, 6, 139, 0, 0, .inl T_X11_broughtBy)), (475, (2, 2, 43, 0, 0, .inl T_X11_price))], 6, 139, 0, 0)
theorem ok_X11_gainBy : MOK M_X11_gainBy := ⟨by decide +kernel, List.forall_mem_cons.mpr ⟨fl_RX11_9, fun _ h => absurd h List.not_mem_nil⟩, fun _ h => absurd h List.not_mem_nil, fun _ h => absurd h List.not_mem_nil, List.forall_mem_cons.mpr ⟨⟨Nat.le_of_ble_eq_true rfl, Nat.le_of_ble_eq_true rfl, cr_RX11_504⟩, List.forall_mem_cons.mpr ⟨⟨Nat.le_of_ble_eq_true rfl, Nat.le_of_ble_eq_true rfl, cr_RX11_475⟩, fun _ h => absurd h List.not_mem_nil⟩⟩⟩
set_option maxRecDepth 100000 in
theorem vc_X11_gainBy {K : Int32 → AH → Prop} {h : AH} (p1 : Nat) (p2 : Int32) (p3 : Int32) (H : inR (nI 1) 62 ∧ ((¬ p2 = (h.1 16 0 (nI 1).toNatClampNeg)) → S_X11_broughtBy p1 p2 p3 h (fun x2 h1 => S_X11_price 0 p2 h1 (fun x4 h3 => K (x2 - x4) h3))) ∧ (¬ (¬ p2 = (h.1 16 0 (nI 1).toNatClampNeg)) → K (nI 0) h)) : AW M_X11_gainBy (.inl K) 0 [some (aR 15 0), some (aR 16 p1), some (aI p2), some (aI p3)] [] h 0 0 := AW_go (cuts := []) ok_X11_gainBy 400 H

theorem snd_X11_gainBy (j : Nat) (x c : Int32) {h : AH} {K : Int32 → AH → Prop} (k : S_X11_gainBy j x c h K) : AW M_X11_gainBy (.inl K) 0 [some (aR 15 0), some (aR 16 j), some (aI x), some (aI c)] [] h 0 0 := by
  obtain ⟨V, U, X, m, ⟨hr, hv, hX, rfl, hm, rfl⟩, hu, hwu, ⟨s1, s2, s3⟩, hj, k⟩ := k
  refine vc_X11_gainBy j (nI X) (nI m) ?_
  have h7 := hv.2.1
  have e1 := (RVs hr).2.2.2.2.2.2.2.2.2.2.2.1
  simp (disch := omega) only [n_inT, n_cl, true_and, e1, n_eq]
  unfold gnB at k
  refine ⟨fun q => ⟨U, X, m, ⟨hu, hwu, by omega, rfl⟩, hm, rfl, hj, fun h1 o1 => ⟨V, X, ⟨by rw [o1.2 16 0 (by omega)]; exact hr, hv, by omega, rfl⟩, ?_⟩⟩, fun q => ?_⟩
  · have := k h1 o1
    rw [if_neg (by omega)] at this
    unfold gn at this
    rw [s2] at this
    dsimp only
    rw [n_subI]
    exact this
  · have := k h (only_rfl _ _ _)
    rw [if_pos (by omega)] at this
    exact this
theorem tr_X11_gainBy : ∀ (as : List AV) (h : AH) (K : Int32 → AH → Prop), T_X11_gainBy as h K → ∃ (q : Nat) (r : List AV), as = aR 15 q :: r := by
  intro as h K hk
  match as, hk with
  | [.inr (.inr (.inl q0)), .inr (.inr (.inl q1)), .inl q2, .inl q3], hk =>
    obtain ⟨hb, hk⟩ := tif_inv hk
    simp only [Bool.and_eq_true] at hb
    obtain ⟨⟨e0, e1⟩, e2⟩ := hb
    obtain ⟨a0, b0⟩ := q0
    obtain ⟨a1, b1⟩ := q1
    have f0 : a0 = 15 := Nat.eq_of_beq_eq_true e0
    subst f0
    have f1 : b0 = 0 := Nat.eq_of_beq_eq_true e1
    subst f1
    have f2 : a1 = 16 := Nat.eq_of_beq_eq_true e2
    subst f2
    exact ⟨_, _, rfl⟩
theorem tw_X11_gainBy : ∀ (as : List AV) (h : AH) (K : Int32 → AH → Prop), T_X11_gainBy as h K → (ini as).length ≤ mNL M_X11_gainBy ∧ AW M_X11_gainBy (.inl K) 0 (initL (mNL M_X11_gainBy) as) [] h 0 0 := by
  intro as h K hk
  match as, hk with
  | [.inr (.inr (.inl q0)), .inr (.inr (.inl q1)), .inl q2, .inl q3], hk =>
    obtain ⟨hb, hk⟩ := tif_inv hk
    simp only [Bool.and_eq_true] at hb
    obtain ⟨⟨e0, e1⟩, e2⟩ := hb
    obtain ⟨a0, b0⟩ := q0
    obtain ⟨a1, b1⟩ := q1
    have f0 : a0 = 15 := Nat.eq_of_beq_eq_true e0
    subst f0
    have f1 : b0 = 0 := Nat.eq_of_beq_eq_true e1
    subst f1
    have f2 : a1 = 16 := Nat.eq_of_beq_eq_true e2
    subst f2
    exact ⟨Nat.le_of_ble_eq_true rfl, snd_X11_gainBy b1 q2 q3 hk⟩
theorem cr_RX11_648 : CR RX11 (kIns 648) (4, 7, 162, 0, 0, .inl T_X11_gainBy) := crV_i (t := 15) (M := M_X11_gainBy) (by decide) rfl (by decide) rfl (inG (i := 1250) (w := Cond.methodLink RX11 216 yX11_gainBy) (by decide +kernel) rfl) (inG (i := 1252) (w := Cond.instanceMethod yX11_gainBy) (by decide +kernel) rfl) (inG (i := 40) (w := Cond.initialized RX11) (by decide +kernel) rfl) (inG (i := 33) (w := Cond.selects RX11 yX11_gainBy yX11_gainBy) (by decide +kernel) rfl) (inG (i := 1253) (w := Cond.code yX11_gainBy cX11_gainBy 4 (some .int)) (by decide +kernel) rfl) ⟨by decide +kernel, by decide +kernel, by decide +kernel⟩ tr_X11_gainBy tw_X11_gainBy

theorem gnB_b {U : Vm} {X m : Nat} (hw : WF U) (hX : X ≤ U 10 1) (hm : m < 8) : -34 ≤ gnB U X m ∧ gnB U X m ≤ 54 := by
  unfold gnB
  split
  · omega
  · exact gn_b hw (by omega) hm |>.symm
def S_X11_isBest (j : Nat) (x c : Int32) (h : AH) (K : Int32 → AH → Prop) : Prop := ∃ V U X m, cPre h x c V X m ∧ RV (h.1 16 j) U ∧ WF U ∧ sam V U ∧ j ≠ 2 ∧ ∀ h', only 16 2 h h' → (bP U X m → K (nI 1) h') ∧ (¬ bP U X m → K (nI 0) h')
def T_X11_isBest : List AV → AH → (Int32 → AH → Prop) → Prop := fun as h K => match as with
  | [.inr (.inr (.inl q0)), .inr (.inr (.inl q1)), .inl q2, .inl q3] => tif (Nat.beq q0.1 15 && Nat.beq q0.2 0 && Nat.beq q1.1 16) (S_X11_isBest q1.2 q2 q3 h K)
  | _ => False

def M_X11_isBest : MI := (RX11, cX11_isBest, 5, [(0, .iconst 0, []), (1, .istore 4, []), (3, .iload 4, []), (5, .aload_n 0, []), (6, .getfield 9, []), (9, .iconst 1, []), (10, .iaload, []), (11, .if_icmp .gt 39, [50]), (14, .aload_n 0, []), (15, .iload 4, []), (17, .iload_n 3, []), (18, .invokevirtual 213, []), (21, .ifCond .eq 23, [44]), (24, .aload_n 0, []), (25, .aload_n 1, []), (26, .iload 4, []), (28, .iload_n 3, []), (29, .invokevirtual 216, []), (32, .aload_n 0, []), (33, .aload_n 1, []), (34, .iload_n 2, []), (35, .iload_n 3, []), (36, .invokevirtual 216, []), (39, .if_icmp .le 5, [44]), (42, .iconst 0, []), (43, .ireturn, []), (44, .iinc 4 1, []), (47, .goto (-44), [3]), (50, .iconst 1, []), (51, .ireturn, [])], [(9, (15, 0, 1, 16, 0))], [], [], [(639, (3, 3, 64, 0, 0, .inl T_X11_isChoice)), (648, (4, 7, 162, 0, 0, .inl T_X11_gainBy))], 7, 162, 0, 0)
theorem ok_X11_isBest : MOK M_X11_isBest := ⟨by decide +kernel, List.forall_mem_cons.mpr ⟨fl_RX11_9, fun _ h => absurd h List.not_mem_nil⟩, fun _ h => absurd h List.not_mem_nil, fun _ h => absurd h List.not_mem_nil, List.forall_mem_cons.mpr ⟨⟨Nat.le_of_ble_eq_true rfl, Nat.le_of_ble_eq_true rfl, cr_RX11_639⟩, List.forall_mem_cons.mpr ⟨⟨Nat.le_of_ble_eq_true rfl, Nat.le_of_ble_eq_true rfl, cr_RX11_648⟩, fun _ h => absurd h List.not_mem_nil⟩⟩⟩
set_option maxRecDepth 100000 in
theorem vc_X11_isBest {K : Int32 → AH → Prop} {h : AH} (p1 : Nat) (p2 : Int32) (p3 : Int32) (H : AW M_X11_isBest (.inl (fun x u => (x = 0 ∨ x = 1) ∧ K x u)) 3 [some (aR 15 0), some (aR 16 p1), some (aI p2), some (aI p3), some (aI (nI 0))] [] h 0 0) : AW M_X11_isBest (.inl (fun x u => (x = 0 ∨ x = 1) ∧ K x u)) 0 [some (aR 15 0), some (aR 16 p1), some (aI p2), some (aI p3), none] [] h 0 0 := AW_go (cuts := [(3, [true, true, true, true, true])]) ok_X11_isBest 400 H
set_option maxRecDepth 100000 in
theorem vc_X11_isBest_3 {K : Int32 → AH → Prop} {h : AH}  (l1 : Nat) (l2 : Int32) (l3 : Int32) (l4 : Int32) (H : inR (nI 1) 62 ∧ (((h.1 16 0 (nI 1).toNatClampNeg) < l4) → (((nI 1) = 0 ∨ (nI 1) = 1) ∧ K (nI 1) h)) ∧ (¬ ((h.1 16 0 (nI 1).toNatClampNeg) < l4) → S_X11_isChoice l4 l3 h (fun x2 h1 => ((x2 = 0) → AW M_X11_isBest (.inl (fun x u => (x = 0 ∨ x = 1) ∧ K x u)) 3 [some (aR 15 0), some (aR 16 l1), some (aI l2), some (aI l3), some (aI (l4 + (nI 1)))] [] h1 0 0) ∧ (¬ (x2 = 0) → S_X11_gainBy l1 l4 l3 h1 (fun x4 h3 => S_X11_gainBy l1 l2 l3 h3 (fun x6 h5 => ((x4 ≤ x6) → AW M_X11_isBest (.inl (fun x u => (x = 0 ∨ x = 1) ∧ K x u)) 3 [some (aR 15 0), some (aR 16 l1), some (aI l2), some (aI l3), some (aI (l4 + (nI 1)))] [] h5 0 0) ∧ (¬ (x4 ≤ x6) → (((nI 0) = 0 ∨ (nI 0) = 1) ∧ K (nI 0) h5)))))))) : AW M_X11_isBest (.inl (fun x u => (x = 0 ∨ x = 1) ∧ K x u)) 3 [some (aR 15 0), some (aR 16 l1), some (aI l2), some (aI l3), some (aI l4)] [] h 0 0 := AW_go (cuts := [(3, [true, true, true, true, true])]) ok_X11_isBest 400 H

theorem lp_X11_isBest {j : Nat} {V U : Vm} {X m : Nat} {h0 : AH} {K : Int32 → AH → Prop} (hp : cPre h0 (nI X) (nI m) V X m) (hu : RV (h0.1 16 j) U) (hwu : WF U) (hs : sam V U) (hj : j ≠ 2) (k : ∀ h', only 16 2 h0 h' → (bP U X m → K (nI 1) h') ∧ (¬ bP U X m → K (nI 0) h')) : ∀ r t h, t + r = V 10 1 + 1 → only 16 2 h0 h → (∀ i, i < t → cho U i m → gnB U i m ≤ gnB U X m) → AW M_X11_isBest (.inl (fun x u => (x = 0 ∨ x = 1) ∧ K x u)) 3 [some (aR 15 0), some (aR 16 j), some (aI (nI X)), some (aI (nI m)), some (aI (nI t))] [] h 0 0 := by
  obtain ⟨hr, hv, hX, -, hm, -⟩ := hp
  have h7 := hv.2.1
  intro r
  induction r with
  | zero =>
    intro t h ht o hi
    refine vc_X11_isBest_3 j (nI X) (nI m) (nI t) ?_
    have hr1 := hr
    rw [← o.2 16 0 (by omega)] at hr1
    have e1 := (RVs hr1).2.2.2.2.2.2.2.2.2.2.2.1
    simp (disch := omega) only [n_inT, n_cl, true_and, e1, n_lt]
    refine ⟨fun _ => ⟨Or.inr (by decide), (k h o).1 (fun i q => hi i (by have := hs.1; omega))⟩, fun q => absurd (by omega) q⟩
  | succ r ih =>
    intro t h ht o hi
    refine vc_X11_isBest_3 j (nI X) (nI m) (nI t) ?_
    have hr1 := hr
    rw [← o.2 16 0 (by omega)] at hr1
    have hu1 := hu
    rw [← o.2 16 j (by omega)] at hu1
    have e1 := (RVs hr1).2.2.2.2.2.2.2.2.2.2.2.1
    have s1 := hs.1
    have b1 := gnB_b (X := X) hwu (by omega) hm
    have b2 := gnB_b (X := t) hwu (by omega) hm
    have hcv : cho U t m ↔ cho V t m := by unfold cho; rw [s1, hs.2.2]
    simp (disch := omega) only [n_inT, n_cl, true_and, e1, n_lt, nI_add]
    refine ⟨fun q => by omega, fun _ => ⟨V, t, m, ⟨hr1, hv, by omega, rfl, hm, rfl⟩, ?_⟩⟩
    dsimp only
    simp only [if10_eq]
    refine ⟨fun q => ih (t + 1) h (by omega) o (fun i q1 q2 => ?_), fun q => ?_⟩
    · by_cases z : i = t
      · subst z; exact absurd (hcv.mp q2) q
      · exact hi i (by omega) q2
    · have q := Decidable.not_not.mp q
      refine ⟨V, U, t, m, ⟨hr1, hv, by omega, rfl, hm, rfl⟩, hu1, hwu, hs, hj, fun h2 o2 => ?_⟩
      have hr2 := hr1
      rw [← o2.2 16 0 (by omega)] at hr2
      have hu2 := hu1
      rw [← o2.2 16 j (by omega)] at hu2
      refine ⟨V, U, X, m, ⟨hr2, hv, by omega, rfl, hm, rfl⟩, hu2, hwu, hs, hj, fun h3 o3 => ?_⟩
      have o4 := only_tr o (only_tr o2 o3)
      dsimp only
      rw [i_le (by omega) (by omega) (by omega) (by omega)]
      refine ⟨fun z => ih (t + 1) h3 (by omega) o4 (fun i q1 q2 => ?_), fun z => ⟨Or.inl (by decide), (k h3 o4).2 (fun w => z (w t (by omega) (hcv.mpr q)))⟩⟩
      by_cases y : i = t
      · subst y; exact z
      · exact hi i (by omega) q2
theorem snd_X11_isBest (j : Nat) (x c : Int32) {h : AH} {K : Int32 → AH → Prop} (k : S_X11_isBest j x c h K) : AW M_X11_isBest (.inl (fun x u => (x = 0 ∨ x = 1) ∧ K x u)) 0 [some (aR 15 0), some (aR 16 j), some (aI x), some (aI c), none] [] h 0 0 := by
  obtain ⟨V, U, X, m, hp, hu, hwu, hs, hj, k⟩ := k
  obtain ⟨-, -, -, rfl, -, rfl⟩ := id hp
  exact vc_X11_isBest j (nI X) (nI m) (lp_X11_isBest hp hu hwu hs hj k (V 10 1 + 1) 0 h (by omega) (only_rfl _ _ _) (fun i q => absurd q (by omega)))
theorem tr_X11_isBest : ∀ (as : List AV) (h : AH) (K : Int32 → AH → Prop), T_X11_isBest as h K → ∃ (q : Nat) (r : List AV), as = aR 15 q :: r := by
  intro as h K hk
  match as, hk with
  | [.inr (.inr (.inl q0)), .inr (.inr (.inl q1)), .inl q2, .inl q3], hk =>
    obtain ⟨hb, hk⟩ := tif_inv hk
    simp only [Bool.and_eq_true] at hb
    obtain ⟨⟨e0, e1⟩, e2⟩ := hb
    obtain ⟨a0, b0⟩ := q0
    obtain ⟨a1, b1⟩ := q1
    have f0 : a0 = 15 := Nat.eq_of_beq_eq_true e0
    subst f0
    have f1 : b0 = 0 := Nat.eq_of_beq_eq_true e1
    subst f1
    have f2 : a1 = 16 := Nat.eq_of_beq_eq_true e2
    subst f2
    exact ⟨_, _, rfl⟩
theorem tw_X11_isBest : ∀ (as : List AV) (h : AH) (K : Int32 → AH → Prop), T_X11_isBest as h K → (ini as).length ≤ mNL M_X11_isBest ∧ AW M_X11_isBest (.inl (fun x u => (x = 0 ∨ x = 1) ∧ K x u)) 0 (initL (mNL M_X11_isBest) as) [] h 0 0 := by
  intro as h K hk
  match as, hk with
  | [.inr (.inr (.inl q0)), .inr (.inr (.inl q1)), .inl q2, .inl q3], hk =>
    obtain ⟨hb, hk⟩ := tif_inv hk
    simp only [Bool.and_eq_true] at hb
    obtain ⟨⟨e0, e1⟩, e2⟩ := hb
    obtain ⟨a0, b0⟩ := q0
    obtain ⟨a1, b1⟩ := q1
    have f0 : a0 = 15 := Nat.eq_of_beq_eq_true e0
    subst f0
    have f1 : b0 = 0 := Nat.eq_of_beq_eq_true e1
    subst f1
    have f2 : a1 = 16 := Nat.eq_of_beq_eq_true e2
    subst f2
    exact ⟨Nat.le_of_ble_eq_true rfl, snd_X11_isBest b1 q2 q3 hk⟩
theorem cr_RX11_657 : CR RX11 (kIns 657) (4, 8, 186, 0, 0, .inl T_X11_isBest) := crV_z (t := 15) (M := M_X11_isBest) (by decide) rfl (by decide) rfl (inG (i := 1246) (w := Cond.methodLink RX11 219 yX11_isBest) (by decide +kernel) rfl) (inG (i := 1248) (w := Cond.instanceMethod yX11_isBest) (by decide +kernel) rfl) (inG (i := 40) (w := Cond.initialized RX11) (by decide +kernel) rfl) (inG (i := 32) (w := Cond.selects RX11 yX11_isBest yX11_isBest) (by decide +kernel) rfl) (inG (i := 1249) (w := Cond.code yX11_isBest cX11_isBest 5 (some .boolean)) (by decide +kernel) rfl) ⟨by decide +kernel, by decide +kernel, by decide +kernel⟩ tr_X11_isBest tw_X11_isBest


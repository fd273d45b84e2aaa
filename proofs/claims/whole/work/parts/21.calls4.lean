/-! ===== the reference: a man below, safe cells, whose throw, drums ===== -/
theorem car_some {V : Vm} {w : Nat} : ∀ {n : Nat}, car V w n ≠ none ↔ ∃ e, e < n ∧ cap V w e
  | 0 => ⟨fun h => absurd rfl h, fun ⟨e, h, _⟩ => by omega⟩
  | n + 1 => by
    by_cases hc : cap V w n
    · refine ⟨fun _ => ⟨n, by omega, hc⟩, fun _ => ?_⟩
      cases h : car V w n with
      | none => rw [car_new hc h]; exact fun z => by cases z
      | some p =>
        by_cases hg : V 5 p < V 5 n
        · rw [car_gt hc h hg]; exact fun z => by cases z
        · rw [car_le h (by omega)]; exact fun z => by cases z
    · rw [car_no hc, car_some]
      exact ⟨fun ⟨e, h1, h2⟩ => ⟨e, by omega, h2⟩, fun ⟨e, h1, h2⟩ => ⟨e, by rcases Nat.lt_or_ge e n with h | h; exact h; exact absurd (by rw [show n = e by omega]; exact h2) hc, h2⟩⟩
def mn (V : Vm) (w : Nat) : Nat → Nat → Option Nat
  | 0, _ => none
  | r + 1, h => if car (wai V h) w (V 10 0) ≠ none then some h else mn V w r (h + 1)
def R_man (V : Vm) (w : Int32) : Int32 := if ¬ (nI 1 ≤ w ∧ w ≤ nI 60) then iI (-1) else oI (mn V (nN w) 61 0)
def S_X11_man (w : Int32) (h : AH) (K : Int32 → AH → Prop) : Prop := ∃ V, RV (h.1 16 0) V ∧ WF V ∧ ∀ h', keepM h h' → K (R_man V w) h'
def T_X11_man : List AV → AH → (Int32 → AH → Prop) → Prop := fun as h K => match as with
  | [.inr (.inr (.inl q0)), .inl q1] => tif (Nat.beq q0.1 15 && Nat.beq q0.2 0) (S_X11_man q1 h K)
  | _ => False

def M_X11_man : MI := (RX11, cX11_man, 4, [(0, .iload_n 1, []), (1, .iconst 1, []), (2, .bipush 60, []), (4, .invokestatic 53, []), (7, .ifCond .ne 5, [12]), (10, .iconst (-1), []), (11, .ireturn, []), (12, .iconst 0, []), (13, .istore_n 2, []), (14, .iload_n 2, []), (15, .bipush 60, []), (17, .if_icmp .gt 74, [91]), (20, .aload_n 0, []), (21, .getfield 9, []), (24, .aload_n 0, []), (25, .getfield 13, []), (28, .invokestatic 148, []), (31, .aload_n 0, []), (32, .getfield 13, []), (35, .iload_n 2, []), (36, .invokestatic 128, []), (39, .iconst 0, []), (40, .istore_n 3, []), (41, .iload_n 3, []), (42, .aload_n 0, []), (43, .getfield 9, []), (46, .iconst 0, []), (47, .iaload, []), (48, .if_icmp .ge 37, [85]), (51, .aload_n 0, []), (52, .getfield 13, []), (55, .iload_n 3, []), (56, .invokestatic 82, []), (59, .iload_n 1, []), (60, .if_icmp .lt 19, [79]), (63, .aload_n 0, []), (64, .getfield 13, []), (67, .iload_n 3, []), (68, .iconst 3, []), (69, .invokestatic 75, []), (72, .iaload, []), (73, .iconst 5, []), (74, .if_icmp .ge 5, [79]), (77, .iload_n 2, []), (78, .ireturn, []), (79, .iinc 3 1, []), (82, .goto (-41), [41]), (85, .iinc 2 1, []), (88, .goto (-74), [14]), (91, .bipush (-4), []), (93, .ireturn, [])], [(9, (15, 0, 1, 16, 0)), (13, (15, 1, 1, 16, 1))], [], [], [(160, (3, 1, 22, 0, 0, .inl T_X11_isIn)), (445, (2, 1, 22, 0, 0, .inr (.inl T_X11_copies))), (385, (2, 3, 65, 0, 0, .inr (.inl T_X11_waitIn))), (247, (2, 2, 42, 0, 0, .inl T_X11_power)), (226, (2, 1, 21, 0, 0, .inl T_X11_atEagle))], 3, 65, 0, 0)
theorem ok_X11_man : MOK M_X11_man := ⟨by decide +kernel, List.forall_mem_cons.mpr ⟨fl_RX11_9, List.forall_mem_cons.mpr ⟨fl_RX11_13, fun _ h => absurd h List.not_mem_nil⟩⟩, fun _ h => absurd h List.not_mem_nil, fun _ h => absurd h List.not_mem_nil, List.forall_mem_cons.mpr ⟨⟨Nat.le_of_ble_eq_true rfl, Nat.le_of_ble_eq_true rfl, cr_RX11_160⟩, List.forall_mem_cons.mpr ⟨⟨Nat.le_of_ble_eq_true rfl, Nat.le_of_ble_eq_true rfl, cr_RX11_445⟩, List.forall_mem_cons.mpr ⟨⟨Nat.le_of_ble_eq_true rfl, Nat.le_of_ble_eq_true rfl, cr_RX11_385⟩, List.forall_mem_cons.mpr ⟨⟨Nat.le_of_ble_eq_true rfl, Nat.le_of_ble_eq_true rfl, cr_RX11_247⟩, List.forall_mem_cons.mpr ⟨⟨Nat.le_of_ble_eq_true rfl, Nat.le_of_ble_eq_true rfl, cr_RX11_226⟩, fun _ h => absurd h List.not_mem_nil⟩⟩⟩⟩⟩⟩
set_option maxRecDepth 100000 in
theorem vc_X11_man {K : Int32 → AH → Prop} {h : AH} (p1 : Int32) (H : S_X11_isIn p1 (nI 1) (nI 60) h (fun x2 h1 => ((¬ x2 = 0) → AW M_X11_man (.inl K) 14 [some (aR 15 0), some (aI p1), some (aI (nI 0)), none] [] h1 0 0) ∧ (¬ (¬ x2 = 0) → K (iI (-1)) h1))) : AW M_X11_man (.inl K) 0 [some (aR 15 0), some (aI p1), none, none] [] h 0 0 := AW_go (cuts := [(14, [true, true, true, false]), (41, [true, true, true, true])]) ok_X11_man 400 H
set_option maxRecDepth 100000 in
theorem vc_X11_man_14 {K : Int32 → AH → Prop} {h : AH}  (l1 : Int32) (l2 : Int32) (H : (((nI 60) < l2) → K (iI (-4)) h) ∧ (¬ ((nI 60) < l2) → S_X11_copies 0 1 h (fun h1 => S_X11_waitIn 1 l2 h1 (fun h2 => AW M_X11_man (.inl K) 41 [some (aR 15 0), some (aI l1), some (aI l2), some (aI (nI 0))] [] h2 0 0)))) : AW M_X11_man (.inl K) 14 [some (aR 15 0), some (aI l1), some (aI l2), none] [] h 0 0 := AW_go (cuts := [(14, [true, true, true, false]), (41, [true, true, true, true])]) ok_X11_man 400 H
set_option maxRecDepth 100000 in
theorem vc_X11_man_41 {K : Int32 → AH → Prop} {h : AH}  (l1 : Int32) (l2 : Int32) (l3 : Int32) (H : inR (nI 0) 62 ∧ (((h.1 16 0 (nI 0).toNatClampNeg) ≤ l3) → AW M_X11_man (.inl K) 14 [some (aR 15 0), some (aI l1), some (aI (l2 + (nI 1))), none] [] h 0 0) ∧ (¬ ((h.1 16 0 (nI 0).toNatClampNeg) ≤ l3) → S_X11_power 1 l3 h (fun x2 h1 => ((x2 < l1) → AW M_X11_man (.inl K) 41 [some (aR 15 0), some (aI l1), some (aI l2), some (aI (l3 + (nI 1)))] [] h1 0 0) ∧ (¬ (x2 < l1) → S_X11_atEagle l3 (nI 3) h1 (fun x4 h3 => inR x4 62 ∧ (((nI 5) ≤ (h3.1 16 1 x4.toNatClampNeg)) → AW M_X11_man (.inl K) 41 [some (aR 15 0), some (aI l1), some (aI l2), some (aI (l3 + (nI 1)))] [] h3 0 0) ∧ (¬ ((nI 5) ≤ (h3.1 16 1 x4.toNatClampNeg)) → K l2 h3)))))) : AW M_X11_man (.inl K) 41 [some (aR 15 0), some (aI l1), some (aI l2), some (aI l3)] [] h 0 0 := AW_go (cuts := [(14, [true, true, true, false]), (41, [true, true, true, true])]) ok_X11_man 400 H

theorem lp_X11_man {V : Vm} {w : Nat} {h0 : AH} {K : Int32 → AH → Prop} (hr : RV (h0.1 16 0) V) (hw : WF V) (hw1 : w ≤ 60) (k : ∀ h', keepM h0 h' → K (oI (mn V w 61 0)) h') : ∀ r t h, t + r = 61 → mn V w 61 0 = mn V w r t → keepM h0 h → AW M_X11_man (.inl K) 14 [some (aR 15 0), some (aI (nI w)), some (aI (nI t)), none] [] h 0 0 := by
  have h4 := hw.1
  intro r
  induction r with
  | zero =>
    intro t h ht hm h1
    refine vc_X11_man_14 (nI w) (nI t) ?_
    simp (disch := omega) only [n_lt]
    refine ⟨fun _ => ?_, fun q => absurd (by omega) q⟩
    have := k h h1
    rw [hm] at this
    exact this
  | succ r ih =>
    intro t h ht hm h1
    refine vc_X11_man_14 (nI w) (nI t) ?_
    simp (disch := omega) only [n_lt]
    refine ⟨fun q => by omega, fun _ => ⟨by decide, fun h2 o2 c2 => ?_⟩⟩
    have hr2 : RV (h2.1 16 1) V := RV_cp hw hr (fun i hi => by rw [c2 i hi, keepM_r0 h1])
    refine ⟨V, t, hr2, hw, by omega, rfl, fun h3 o3 q3 => ?_⟩
    have k3 := keepM_tr (keepM_tr h1 (keepM_o (by decide) (by decide) o2)) (keepM_o (by decide) (by decide) o3)
    have hw3 : WF (wai V t) := WF_wai hw
    have e10 : wai V t 10 0 = V 10 0 := wai_10 (by omega)
    obtain ⟨-, -, -, -, -, -, -, e7, -, -, -⟩ := RVs q3
    rw [e10] at e7
    have e0 : h3.1 16 0 0 = nI (V 10 0) := by
      have := (RVs hr).2.2.2.2.2.2.2.2.2.2.1
      rw [← keepM_r0 k3] at this
      exact this
    have inner : ∀ r2 e, e + r2 = V 10 0 → (∀ i, i < e → ¬ cap (wai V t) w i) → AW M_X11_man (.inl K) 41 [some (aR 15 0), some (aI (nI w)), some (aI (nI t)), some (aI (nI e))] [] h3 0 0 := by
      intro r2
      induction r2 with
      | zero =>
        intro e he hno
        refine vc_X11_man_41 (nI w) (nI t) (nI e) ?_
        simp (disch := omega) only [n_inT, n_cl, true_and, e0, n_le, nI_add]
        refine ⟨fun _ => ih (t + 1) h3 (by omega) ?_ k3, fun q => absurd (by omega) q⟩
        rw [hm, mn, if_neg]
        intro z
        obtain ⟨i, hi, hc⟩ := car_some.mp z
        exact hno i (by omega) hc
      | succ r2 ih2 =>
        intro e he hno
        refine vc_X11_man_41 (nI w) (nI t) (nI e) ?_
        have hbe := hw3.2.2.2.2.2.1 e (by rw [e10]; omega)
        simp (disch := omega) only [n_inT, n_cl, true_and, e0, n_le, nI_add]
        refine ⟨fun q => by omega, fun _ => ⟨wai V t, e, q3, hw3, by rw [e10]; omega, rfl, ?_⟩⟩
        have next : ¬ cap (wai V t) w e → AW M_X11_man (.inl K) 41 [some (aR 15 0), some (aI (nI w)), some (aI (nI t)), some (aI (nI (e + 1)))] [] h3 0 0 := fun hc => ih2 (e + 1) (by omega) (fun i hi => by
          rcases Nat.lt_or_ge i e with h | h
          · exact hno i h
          · rw [show i = e by omega]; exact hc)
        simp (disch := omega) only [n_lt, S_X11_atEagle, pk_mul, nI_add, n_inT, n_cl, true_and, e7, n_le]
        refine ⟨fun q => next (fun z => by have := z.1; omega), fun q => ⟨fun q2 => next (fun z => by have := z.2; omega), fun q2 => ?_⟩⟩
        have := k h3 k3
        rw [hm, mn, if_pos (car_some.mpr ⟨e, by omega, by omega, by omega⟩)] at this
        exact this
    exact inner (V 10 0) 0 (by omega) (fun i hi => by omega)
theorem snd_X11_man (w : Int32) {h : AH} {K : Int32 → AH → Prop} (k : S_X11_man w h K) : AW M_X11_man (.inl K) 0 [some (aR 15 0), some (aI w), none, none] [] h 0 0 := by
  obtain ⟨V, hr, hw, k⟩ := k
  refine vc_X11_man w ?_
  unfold S_X11_isIn
  simp only [if10_eq]
  unfold R_man at k
  refine ⟨fun q => ?_, fun q => ?_⟩
  · have q := Decidable.not_not.mp q
    rw [if_neg (fun z => z q)] at k
    obtain ⟨i, h1, h2, rfl⟩ := in60 q
    unfold nN at k
    rw [n_cl (by omega)] at k
    exact lp_X11_man hr hw h2 k 61 0 h (by omega) rfl (keepM_rfl h)
  · rw [if_pos (fun z => q (fun y => y z))] at k
    exact k h (keepM_rfl h)
theorem tr_X11_man : ∀ (as : List AV) (h : AH) (K : Int32 → AH → Prop), T_X11_man as h K → ∃ (q : Nat) (r : List AV), as = aR 15 q :: r := by
  intro as h K hk
  match as, hk with
  | [.inr (.inr (.inl q0)), .inl q1], hk =>
    obtain ⟨hb, hk⟩ := tif_inv hk
    simp only [Bool.and_eq_true] at hb
    obtain ⟨e0, e1⟩ := hb
    obtain ⟨a0, b0⟩ := q0
    have f0 : a0 = 15 := Nat.eq_of_beq_eq_true e0
    subst f0
    have f1 : b0 = 0 := Nat.eq_of_beq_eq_true e1
    subst f1
    exact ⟨_, _, rfl⟩
theorem tw_X11_man : ∀ (as : List AV) (h : AH) (K : Int32 → AH → Prop), T_X11_man as h K → (ini as).length ≤ mNL M_X11_man ∧ AW M_X11_man (.inl K) 0 (initL (mNL M_X11_man) as) [] h 0 0 := by
  intro as h K hk
  match as, hk with
  | [.inr (.inr (.inl q0)), .inl q1], hk =>
    obtain ⟨hb, hk⟩ := tif_inv hk
    simp only [Bool.and_eq_true] at hb
    obtain ⟨e0, e1⟩ := hb
    obtain ⟨a0, b0⟩ := q0
    have f0 : a0 = 15 := Nat.eq_of_beq_eq_true e0
    subst f0
    have f1 : b0 = 0 := Nat.eq_of_beq_eq_true e1
    subst f1
    exact ⟨Nat.le_of_ble_eq_true rfl, snd_X11_man q1 hk⟩

def sfe (V : Vm) (n : Nat) : Nat → Int32
  | 0 => nI 0
  | k + 1 => if eat V n k then sfe V n k else sfe V n k ||| (nI 1 <<< (nI k &&& 31))
def R_safe (V : Vm) (s : Int32) : Int32 := if shp V s then sfe V (nN s) 8 else iI (-1)
theorem or_n0 (x : Int32) : x ||| nI 0 = x := Int32.or_zero
def S_X11_safe (s : Int32) (h : AH) (K : Int32 → AH → Prop) : Prop := ∃ V, RV (h.1 16 0) V ∧ WF V ∧ K (R_safe V s) h
def T_X11_safe : List AV → AH → (Int32 → AH → Prop) → Prop := fun as h K => match as with
  | [.inr (.inr (.inl q0)), .inl q1] => tif (Nat.beq q0.1 15 && Nat.beq q0.2 0) (S_X11_safe q1 h K)
  | _ => False

def M_X11_safe : MI := (RX11, cX11_safe, 4, [(0, .aload_n 0, []), (1, .iload_n 1, []), (2, .invokevirtual 132, []), (5, .ifCond .ne 5, [10]), (8, .iconst (-1), []), (9, .ireturn, []), (10, .iconst 0, []), (11, .istore_n 2, []), (12, .iconst 0, []), (13, .istore_n 3, []), (14, .iload_n 3, []), (15, .bipush 8, []), (17, .if_icmp .ge 31, [48]), (20, .iload_n 2, []), (21, .aload_n 0, []), (22, .getfield 9, []), (25, .iload_n 1, []), (26, .iload_n 3, []), (27, .invokestatic 78, []), (30, .ifCond .eq 7, [37]), (33, .iconst 0, []), (34, .goto 6, [40]), (37, .iconst 1, []), (38, .iload_n 3, []), (39, .ishl, []), (40, .ior, []), (41, .istore_n 2, []), (42, .iinc 3 1, []), (45, .goto (-31), [14]), (48, .iload_n 2, []), (49, .ireturn, [])], [(9, (15, 0, 1, 16, 0))], [], [], [(396, (2, 2, 43, 0, 0, .inl T_X11_isSheep)), (235, (3, 3, 65, 0, 0, .inl T_X11_isEaten))], 3, 65, 0, 0)
theorem ok_X11_safe : MOK M_X11_safe := ⟨by decide +kernel, List.forall_mem_cons.mpr ⟨fl_RX11_9, fun _ h => absurd h List.not_mem_nil⟩, fun _ h => absurd h List.not_mem_nil, fun _ h => absurd h List.not_mem_nil, List.forall_mem_cons.mpr ⟨⟨Nat.le_of_ble_eq_true rfl, Nat.le_of_ble_eq_true rfl, cr_RX11_396⟩, List.forall_mem_cons.mpr ⟨⟨Nat.le_of_ble_eq_true rfl, Nat.le_of_ble_eq_true rfl, cr_RX11_235⟩, fun _ h => absurd h List.not_mem_nil⟩⟩⟩
set_option maxRecDepth 100000 in
theorem vc_X11_safe {K : Int32 → AH → Prop} {h : AH} (p1 : Int32) (H : S_X11_isSheep p1 h (fun x2 h1 => ((¬ x2 = 0) → AW M_X11_safe (.inl K) 14 [some (aR 15 0), some (aI p1), some (aI (nI 0)), some (aI (nI 0))] [] h1 0 0) ∧ (¬ (¬ x2 = 0) → K (iI (-1)) h1))) : AW M_X11_safe (.inl K) 0 [some (aR 15 0), some (aI p1), none, none] [] h 0 0 := AW_go (cuts := [(14, [true, true, true, true])]) ok_X11_safe 400 H
set_option maxRecDepth 100000 in
theorem vc_X11_safe_14 {K : Int32 → AH → Prop} {h : AH}  (l1 : Int32) (l2 : Int32) (l3 : Int32) (H : (((nI 8) ≤ l3) → K l2 h) ∧ (¬ ((nI 8) ≤ l3) → S_X11_isEaten 0 l1 l3 h (fun x2 h1 => ((x2 = 0) → AW M_X11_safe (.inl K) 14 [some (aR 15 0), some (aI l1), some (aI (l2 ||| ((nI 1) <<< (l3 &&& 31)))), some (aI (l3 + (nI 1)))] [] h1 0 0) ∧ (¬ (x2 = 0) → AW M_X11_safe (.inl K) 14 [some (aR 15 0), some (aI l1), some (aI (l2 ||| (nI 0))), some (aI (l3 + (nI 1)))] [] h1 0 0)))) : AW M_X11_safe (.inl K) 14 [some (aR 15 0), some (aI l1), some (aI l2), some (aI l3)] [] h 0 0 := AW_go (cuts := [(14, [true, true, true, true])]) ok_X11_safe 400 H

theorem lp_X11_safe {V : Vm} {n : Nat} {h : AH} {K : Int32 → AH → Prop} (hr : RV (h.1 16 0) V) (hw : WF V) (hn : n < V 10 1) (k : K (sfe V n 8) h) : ∀ r c, c + r = 8 → AW M_X11_safe (.inl K) 14 [some (aR 15 0), some (aI (nI n)), some (aI (sfe V n c)), some (aI (nI c))] [] h 0 0 := by
  intro r
  induction r with
  | zero =>
    intro c hc
    refine vc_X11_safe_14 (nI n) _ (nI c) ?_
    have : c = 8 := by omega
    subst this
    simp (disch := omega) only [n_le]
    exact ⟨fun _ => k, fun q => absurd (by omega) q⟩
  | succ r ih =>
    intro c hc
    refine vc_X11_safe_14 (nI n) _ (nI c) ?_
    simp (disch := omega) only [n_le, nI_add, or_n0]
    refine ⟨fun q => by omega, fun _ => ⟨V, n, c, ⟨hr, hw, hn, rfl⟩, by omega, rfl, ?_⟩⟩
    have := ih (c + 1) (by omega)
    rw [sfe] at this
    simp only [if10_eq]
    refine ⟨fun q => ?_, fun q => ?_⟩
    · rw [if_neg q] at this; exact this
    · rw [if_pos (Decidable.not_not.mp q)] at this; exact this
theorem snd_X11_safe (s : Int32) {h : AH} {K : Int32 → AH → Prop} (k : S_X11_safe s h K) : AW M_X11_safe (.inl K) 0 [some (aR 15 0), some (aI s), none, none] [] h 0 0 := by
  obtain ⟨V, hr, hw, k⟩ := k
  have h7 := hw.2.1
  refine vc_X11_safe s ?_
  obtain ⟨-, -, -, -, -, -, -, -, -, -, -, e1, -⟩ := RVs hr
  unfold S_X11_isSheep
  rw [e1]
  simp only [if10_eq]
  unfold R_safe at k
  refine ⟨fun q => ?_, fun q => ?_⟩
  · have q := Decidable.not_not.mp q
    rw [if_pos q] at k
    obtain ⟨n, hn, rfl⟩ := (in_iff (by omega)).mp q
    unfold nN at k
    rw [n_cl (by omega)] at k
    exact lp_X11_safe hr hw hn k 8 0 (by omega)
  · rw [if_neg (fun z => q (fun y => y z))] at k; exact k
theorem tr_X11_safe : ∀ (as : List AV) (h : AH) (K : Int32 → AH → Prop), T_X11_safe as h K → ∃ (q : Nat) (r : List AV), as = aR 15 q :: r := by
  intro as h K hk
  match as, hk with
  | [.inr (.inr (.inl q0)), .inl q1], hk =>
    obtain ⟨hb, hk⟩ := tif_inv hk
    simp only [Bool.and_eq_true] at hb
    obtain ⟨e0, e1⟩ := hb
    obtain ⟨a0, b0⟩ := q0
    have f0 : a0 = 15 := Nat.eq_of_beq_eq_true e0
    subst f0
    have f1 : b0 = 0 := Nat.eq_of_beq_eq_true e1
    subst f1
    exact ⟨_, _, rfl⟩
theorem tw_X11_safe : ∀ (as : List AV) (h : AH) (K : Int32 → AH → Prop), T_X11_safe as h K → (ini as).length ≤ mNL M_X11_safe ∧ AW M_X11_safe (.inl K) 0 (initL (mNL M_X11_safe) as) [] h 0 0 := by
  intro as h K hk
  match as, hk with
  | [.inr (.inr (.inl q0)), .inl q1], hk =>
    obtain ⟨hb, hk⟩ := tif_inv hk
    simp only [Bool.and_eq_true] at hb
    obtain ⟨e0, e1⟩ := hb
    obtain ⟨a0, b0⟩ := q0
    have f0 : a0 = 15 := Nat.eq_of_beq_eq_true e0
    subst f0
    have f1 : b0 = 0 := Nat.eq_of_beq_eq_true e1
    subst f1
    exact ⟨Nat.le_of_ble_eq_true rfl, snd_X11_safe q1 hk⟩

def who (V : Vm) (c : Nat) (v : Int32) : Nat → Int32
  | 0 => nI 0
  | k + 1 => if c ≤ vFl V k ∧ nI (brg V k c) = v then who V c v k ||| (nI 1 <<< (nI k &&& 31)) else who V c v k
def R_whose (V : Vm) (c v : Int32) : Int32 := if cel c ∧ 0 ≤ v then who V (nN c) v (V 10 1) else iI (-1)
def S_X11_whose (c v : Int32) (h : AH) (K : Int32 → AH → Prop) : Prop := ∃ V, RV (h.1 16 0) V ∧ WF V ∧ ∀ h', keepM h h' → K (R_whose V c v) h'
def T_X11_whose : List AV → AH → (Int32 → AH → Prop) → Prop := fun as h K => match as with
  | [.inr (.inr (.inl q0)), .inl q1, .inl q2] => tif (Nat.beq q0.1 15 && Nat.beq q0.2 0) (S_X11_whose q1 q2 h K)
  | _ => False

def M_X11_whose : MI := (RX11, cX11_whose, 5, [(0, .iload_n 1, []), (1, .invokestatic 120, []), (4, .ifCond .eq 7, [11]), (7, .iload_n 2, []), (8, .ifCond .ge 5, [13]), (11, .iconst (-1), []), (12, .ireturn, []), (13, .iconst 0, []), (14, .istore_n 3, []), (15, .iconst 0, []), (16, .istore 4, []), (18, .iload 4, []), (20, .aload_n 0, []), (21, .getfield 9, []), (24, .iconst 1, []), (25, .iaload, []), (26, .if_icmp .ge 48, [74]), (29, .iload_n 3, []), (30, .iload_n 1, []), (31, .aload_n 0, []), (32, .getfield 9, []), (35, .iload 4, []), (37, .invokestatic 135, []), (40, .if_icmp .gt 25, [65]), (43, .aload_n 0, []), (44, .aload_n 0, []), (45, .getfield 9, []), (48, .iload 4, []), (50, .iload_n 1, []), (51, .invokevirtual 168, []), (54, .iload_n 2, []), (55, .if_icmp .ne 10, [65]), (58, .iconst 1, []), (59, .iload 4, []), (61, .ishl, []), (62, .goto 4, [66]), (65, .iconst 0, []), (66, .ior, []), (67, .istore_n 3, []), (68, .iinc 4 1, []), (71, .goto (-53), [18]), (74, .iload_n 3, []), (75, .ireturn, [])], [(9, (15, 0, 1, 16, 0))], [], [], [(361, (1, 2, 42, 0, 0, .inl T_X11_isCell)), (406, (2, 2, 42, 0, 0, .inl T_X11_flies)), (504, (4, 6, 139, 0, 0, .inl T_X11_broughtBy))], 6, 139, 0, 0)
theorem ok_X11_whose : MOK M_X11_whose := ⟨by decide +kernel, List.forall_mem_cons.mpr ⟨fl_RX11_9, fun _ h => absurd h List.not_mem_nil⟩, fun _ h => absurd h List.not_mem_nil, fun _ h => absurd h List.not_mem_nil, List.forall_mem_cons.mpr ⟨⟨Nat.le_of_ble_eq_true rfl, Nat.le_of_ble_eq_true rfl, cr_RX11_361⟩, List.forall_mem_cons.mpr ⟨⟨Nat.le_of_ble_eq_true rfl, Nat.le_of_ble_eq_true rfl, cr_RX11_406⟩, List.forall_mem_cons.mpr ⟨⟨Nat.le_of_ble_eq_true rfl, Nat.le_of_ble_eq_true rfl, cr_RX11_504⟩, fun _ h => absurd h List.not_mem_nil⟩⟩⟩⟩
set_option maxRecDepth 100000 in
theorem vc_X11_whose {K : Int32 → AH → Prop} {h : AH} (p1 : Int32) (p2 : Int32) (H : S_X11_isCell p1 h (fun x2 h1 => ((x2 = 0) → K (iI (-1)) h1) ∧ (¬ (x2 = 0) → ((0 ≤ p2) → AW M_X11_whose (.inl K) 18 [some (aR 15 0), some (aI p1), some (aI p2), some (aI (nI 0)), some (aI (nI 0))] [] h1 0 0) ∧ (¬ (0 ≤ p2) → K (iI (-1)) h1)))) : AW M_X11_whose (.inl K) 0 [some (aR 15 0), some (aI p1), some (aI p2), none, none] [] h 0 0 := AW_go (cuts := [(18, [true, true, true, true, true])]) ok_X11_whose 400 H
set_option maxRecDepth 100000 in
theorem vc_X11_whose_18 {K : Int32 → AH → Prop} {h : AH}  (l1 : Int32) (l2 : Int32) (l3 : Int32) (l4 : Int32) (H : inR (nI 1) 62 ∧ (((h.1 16 0 (nI 1).toNatClampNeg) ≤ l4) → K l3 h) ∧ (¬ ((h.1 16 0 (nI 1).toNatClampNeg) ≤ l4) → S_X11_flies 0 l4 h (fun x2 h1 => ((x2 < l1) → AW M_X11_whose (.inl K) 18 [some (aR 15 0), some (aI l1), some (aI l2), some (aI (l3 ||| (nI 0))), some (aI (l4 + (nI 1)))] [] h1 0 0) ∧ (¬ (x2 < l1) → S_X11_broughtBy 0 l4 l1 h1 (fun x4 h3 => ((¬ x4 = l2) → AW M_X11_whose (.inl K) 18 [some (aR 15 0), some (aI l1), some (aI l2), some (aI (l3 ||| (nI 0))), some (aI (l4 + (nI 1)))] [] h3 0 0) ∧ (¬ (¬ x4 = l2) → AW M_X11_whose (.inl K) 18 [some (aR 15 0), some (aI l1), some (aI l2), some (aI (l3 ||| ((nI 1) <<< (l4 &&& 31)))), some (aI (l4 + (nI 1)))] [] h3 0 0)))))) : AW M_X11_whose (.inl K) 18 [some (aR 15 0), some (aI l1), some (aI l2), some (aI l3), some (aI l4)] [] h 0 0 := AW_go (cuts := [(18, [true, true, true, true, true])]) ok_X11_whose 400 H

theorem lp_X11_whose {V : Vm} {m : Nat} {v : Int32} {h0 : AH} {K : Int32 → AH → Prop} (hr : RV (h0.1 16 0) V) (hw : WF V) (hm : m < 8) (k : ∀ h', keepM h0 h' → K (who V m v (V 10 1)) h') : ∀ r c h, c + r = V 10 1 → keepM h0 h → AW M_X11_whose (.inl K) 18 [some (aR 15 0), some (aI (nI m)), some (aI v), some (aI (who V m v c)), some (aI (nI c))] [] h 0 0 := by
  have h7 := hw.2.1
  intro r
  induction r with
  | zero =>
    intro c h hc h1
    refine vc_X11_whose_18 (nI m) v _ (nI c) ?_
    have e1 := (RVs hr).2.2.2.2.2.2.2.2.2.2.2.1
    rw [← keepM_r0 h1] at e1
    have : c = V 10 1 := by omega
    subst this
    simp (disch := omega) only [n_inT, n_cl, true_and, e1, n_le]
    exact ⟨fun _ => k h h1, fun q => absurd (by omega) q⟩
  | succ r ih =>
    intro c h hc h1
    refine vc_X11_whose_18 (nI m) v _ (nI c) ?_
    have hr' := hr
    rw [← keepM_r0 h1] at hr'
    have e1 := (RVs hr').2.2.2.2.2.2.2.2.2.2.2.1
    have hf : vFl V c ≤ 7 := fly_le _
    simp (disch := omega) only [n_inT, n_cl, true_and, e1, n_le, nI_add, or_n0]
    refine ⟨fun q => by omega, fun _ => ⟨V, c, ⟨hr', hw, by omega, rfl⟩, ?_⟩⟩
    simp (disch := omega) only [n_lt]
    refine ⟨fun q => ?_, fun q => ⟨V, c, m, ⟨hr', hw, by omega, rfl⟩, hm, rfl, by decide, fun h3 o3 => ⟨fun q2 => ?_, fun q2 => ?_⟩⟩⟩
    · have := ih (c + 1) h (by omega) h1
      rw [who, if_neg (fun z => by have := z.1; omega)] at this
      exact this
    · have := ih (c + 1) h3 (by omega) (keepM_tr h1 (keepM_o (by decide) (by decide) o3))
      rw [who, if_neg (fun z => q2 z.2)] at this
      exact this
    · have := ih (c + 1) h3 (by omega) (keepM_tr h1 (keepM_o (by decide) (by decide) o3))
      rw [who, if_pos ⟨by omega, Decidable.not_not.mp q2⟩] at this
      exact this
theorem snd_X11_whose (c v : Int32) {h : AH} {K : Int32 → AH → Prop} (k : S_X11_whose c v h K) : AW M_X11_whose (.inl K) 0 [some (aR 15 0), some (aI c), some (aI v), none, none] [] h 0 0 := by
  obtain ⟨V, hr, hw, k⟩ := k
  refine vc_X11_whose c v ?_
  unfold S_X11_isCell
  simp only [if10_eq]
  unfold R_whose at k
  refine ⟨fun q => ?_, fun q => ⟨fun q2 => ?_, fun q2 => ?_⟩⟩
  · rw [if_neg (fun z => q z.1)] at k; exact k h (keepM_rfl h)
  · have q := Decidable.not_not.mp q
    rw [if_pos ⟨q, q2⟩] at k
    obtain ⟨m, hm, rfl⟩ := in8_iff.mp q
    unfold nN at k
    rw [n_cl (by omega)] at k
    exact lp_X11_whose hr hw hm k (V 10 1) 0 h (by omega) (keepM_rfl h)
  · rw [if_neg (fun z => q2 z.2)] at k; exact k h (keepM_rfl h)
theorem tr_X11_whose : ∀ (as : List AV) (h : AH) (K : Int32 → AH → Prop), T_X11_whose as h K → ∃ (q : Nat) (r : List AV), as = aR 15 q :: r := by
  intro as h K hk
  match as, hk with
  | [.inr (.inr (.inl q0)), .inl q1, .inl q2], hk =>
    obtain ⟨hb, hk⟩ := tif_inv hk
    simp only [Bool.and_eq_true] at hb
    obtain ⟨e0, e1⟩ := hb
    obtain ⟨a0, b0⟩ := q0
    have f0 : a0 = 15 := Nat.eq_of_beq_eq_true e0
    subst f0
    have f1 : b0 = 0 := Nat.eq_of_beq_eq_true e1
    subst f1
    exact ⟨_, _, rfl⟩
theorem tw_X11_whose : ∀ (as : List AV) (h : AH) (K : Int32 → AH → Prop), T_X11_whose as h K → (ini as).length ≤ mNL M_X11_whose ∧ AW M_X11_whose (.inl K) 0 (initL (mNL M_X11_whose) as) [] h 0 0 := by
  intro as h K hk
  match as, hk with
  | [.inr (.inr (.inl q0)), .inl q1, .inl q2], hk =>
    obtain ⟨hb, hk⟩ := tif_inv hk
    simp only [Bool.and_eq_true] at hb
    obtain ⟨e0, e1⟩ := hb
    obtain ⟨a0, b0⟩ := q0
    have f0 : a0 = 15 := Nat.eq_of_beq_eq_true e0
    subst f0
    have f1 : b0 = 0 := Nat.eq_of_beq_eq_true e1
    subst f1
    exact ⟨Nat.le_of_ble_eq_true rfl, snd_X11_whose q1 q2 hk⟩

/-- k throws with drums by the bits of a set: what they bring, the valley then -/
def drm (V : Vm) (s c z : Nat) : Nat → Nat × Vm
  | 0 => (0, V)
  | k + 1 => ((drm V s c z k).1 + brg (uV (drm V s c z k).2 10 3 ((z >>> k) % 2)) s c, thr (uV (drm V s c z k).2 10 3 ((z >>> k) % 2)) s c)
theorem WF_dr {V : Vm} {x : Nat} (hw : WF V) (hx : x ≤ 1) : WF (uV V 10 3 x) := by
  obtain ⟨a, b, c, d, e, f, g⟩ := hw
  unfold WF
  rw [uV_ne (by omega), uV_ne (by omega), uV_ne (by omega), uV_at]
  refine ⟨a, b, c, hx, fun i hi => ?_, fun i hi => ?_, fun i hi => ?_⟩
  · rw [uV_ne (by omega), uV_ne (by omega), uV_ne (by omega)]; exact e i hi
  · rw [uV_ne (by omega), uV_ne (by omega), uV_ne (by omega), uV_ne (by omega)]; exact f i hi
  · rw [uV_ne (by omega), uV_ne (by omega)]; exact g i hi
theorem drm_ok {V : Vm} {s c z : Nat} (hw : WF V) (hs : s < V 10 1) (hc : c < 8) : ∀ k, WF (drm V s c z k).2 ∧ (drm V s c z k).2 10 1 = V 10 1 ∧ (drm V s c z k).1 ≤ 54 * k
  | 0 => ⟨hw, rfl, by show 0 ≤ _; omega⟩
  | k + 1 => by
    obtain ⟨h1, h2, h3⟩ := drm_ok (z := z) hw hs hc k
    have hw2 := WF_dr (x := (z >>> k) % 2) h1 (by omega)
    have hs2 : s < uV (drm V s c z k).2 10 3 ((z >>> k) % 2) 10 1 := by rw [uV_ne (by omega), h2]; exact hs
    have := brg_le hw2 hs2 hc
    refine ⟨WF_thr hw2 hc, ?_, ?_⟩
    · show thr _ s c 10 1 = _
      rw [thr_10 (by omega), uV_ne (by omega), h2]
    · show (drm V s c z k).1 + _ ≤ _
      omega
def drB (V : Vm) (s c n : Nat) : Int × Int := am1 (fun z => ((drm V s c z n).1 : Int)) (2 ^ n) (0, -1)
def R_drum (V : Vm) (a c n w : Int32) : Int32 := if ¬ (nI 0 ≤ n ∧ n ≤ nI 8) ∨ ¬ w01 w then iI (-1) else if rfT V a c ≠ nI 0 then rfT V a c else if w = 0 then iI (drB V (nN a) (nN c) (nN n)).1 else iI (drB V (nN a) (nN c) (nN n)).2
theorem sh2 : ∀ k, k < 9 → nI 1 <<< (nI k &&& 31) = nI (2 ^ k) := by decide +kernel
theorem bit2 : ∀ z, z < 256 → ∀ k, k < 8 → (nI z >>> (nI k &&& 31)) &&& nI 1 = nI ((z >>> k) % 2) := by decide +kernel
theorem pow8 {n : Nat} (h : n ≤ 8) : 2 ^ n ≤ 256 := Nat.pow_le_pow_right (n := 2) (by omega) h
def S_X11_drum (a c n w : Int32) (h : AH) (K : Int32 → AH → Prop) : Prop := ∃ V, RV (h.1 16 0) V ∧ WF V ∧ ∀ h', keepM h h' → K (R_drum V a c n w) h'
def T_X11_drum : List AV → AH → (Int32 → AH → Prop) → Prop := fun as h K => match as with
  | [.inr (.inr (.inl q0)), .inl q1, .inl q2, .inl q3, .inl q4] => tif (Nat.beq q0.1 15 && Nat.beq q0.2 0) (S_X11_drum q1 q2 q3 q4 h K)
  | _ => False

def M_X11_drum : MI := (RX11, cX11_drum, 11, [(0, .iload_n 3, []), (1, .iconst 0, []), (2, .bipush 8, []), (4, .invokestatic 53, []), (7, .ifCond .eq 13, [20]), (10, .iload 4, []), (12, .iconst 0, []), (13, .iconst 1, []), (14, .invokestatic 53, []), (17, .ifCond .ne 5, [22]), (20, .iconst (-1), []), (21, .ireturn, []), (22, .aload_n 0, []), (23, .iload_n 1, []), (24, .iload_n 2, []), (25, .invokevirtual 165, []), (28, .istore 5, []), (30, .iload 5, []), (32, .ifCond .eq 6, [38]), (35, .iload 5, []), (37, .ireturn, []), (38, .iconst 0, []), (39, .istore 6, []), (41, .iconst (-1), []), (42, .istore 7, []), (44, .iconst 0, []), (45, .istore 8, []), (47, .iload 8, []), (49, .iconst 1, []), (50, .iload_n 3, []), (51, .ishl, []), (52, .if_icmp .ge 83, [135]), (55, .aload_n 0, []), (56, .getfield 9, []), (59, .aload_n 0, []), (60, .getfield 13, []), (63, .invokestatic 148, []), (66, .iconst 0, []), (67, .istore 9, []), (69, .iconst 0, []), (70, .istore 10, []), (72, .iload 10, []), (74, .iload_n 3, []), (75, .if_icmp .ge 36, [111]), (78, .aload_n 0, []), (79, .getfield 13, []), (82, .iconst 3, []), (83, .iload 8, []), (85, .iload 10, []), (87, .ishr, []), (88, .iconst 1, []), (89, .iand, []), (90, .iastore, []), (91, .iload 9, []), (93, .aload_n 0, []), (94, .getfield 13, []), (97, .iload_n 1, []), (98, .iload_n 2, []), (99, .invokestatic 138, []), (102, .iadd, []), (103, .istore 9, []), (105, .iinc 10 1, []), (108, .goto (-36), [72]), (111, .iload 9, []), (113, .iload 7, []), (115, .if_icmp .gt 6, [121]), (118, .goto 11, [129]), (121, .iload 8, []), (123, .istore 6, []), (125, .iload 9, []), (127, .istore 7, []), (129, .iinc 8 1, []), (132, .goto (-85), [47]), (135, .iload 4, []), (137, .ifCond .ne 8, [145]), (140, .iload 6, []), (142, .goto 5, [147]), (145, .iload 7, []), (147, .ireturn, [])], [(9, (15, 0, 1, 16, 0)), (13, (15, 1, 1, 16, 1))], [], [], [(160, (3, 1, 22, 0, 0, .inl T_X11_isIn)), (495, (3, 3, 65, 0, 0, .inl T_X11_wrongThrow)), (445, (2, 1, 22, 0, 0, .inr (.inl T_X11_copies))), (415, (3, 5, 116, 0, 0, .inl T_X11_throwIn))], 5, 116, 0, 0)
theorem ok_X11_drum : MOK M_X11_drum := ⟨by decide +kernel, List.forall_mem_cons.mpr ⟨fl_RX11_9, List.forall_mem_cons.mpr ⟨fl_RX11_13, fun _ h => absurd h List.not_mem_nil⟩⟩, fun _ h => absurd h List.not_mem_nil, fun _ h => absurd h List.not_mem_nil, List.forall_mem_cons.mpr ⟨⟨Nat.le_of_ble_eq_true rfl, Nat.le_of_ble_eq_true rfl, cr_RX11_160⟩, List.forall_mem_cons.mpr ⟨⟨Nat.le_of_ble_eq_true rfl, Nat.le_of_ble_eq_true rfl, cr_RX11_495⟩, List.forall_mem_cons.mpr ⟨⟨Nat.le_of_ble_eq_true rfl, Nat.le_of_ble_eq_true rfl, cr_RX11_445⟩, List.forall_mem_cons.mpr ⟨⟨Nat.le_of_ble_eq_true rfl, Nat.le_of_ble_eq_true rfl, cr_RX11_415⟩, fun _ h => absurd h List.not_mem_nil⟩⟩⟩⟩⟩
set_option maxRecDepth 100000 in
theorem vc_X11_drum {K : Int32 → AH → Prop} {h : AH} (p1 : Int32) (p2 : Int32) (p3 : Int32) (p4 : Int32) (H : S_X11_isIn p3 (nI 0) (nI 8) h (fun x2 h1 => ((x2 = 0) → K (iI (-1)) h1) ∧ (¬ (x2 = 0) → S_X11_isIn p4 (nI 0) (nI 1) h1 (fun x4 h3 => ((¬ x4 = 0) → S_X11_wrongThrow p1 p2 h3 (fun x6 h5 => ((x6 = 0) → AW M_X11_drum (.inl K) 47 [some (aR 15 0), some (aI p1), some (aI p2), some (aI p3), some (aI p4), none, some (aI (nI 0)), some (aI (iI (-1))), some (aI (nI 0)), none, none] [] h5 0 0) ∧ (¬ (x6 = 0) → K x6 h5))) ∧ (¬ (¬ x4 = 0) → K (iI (-1)) h3))))) : AW M_X11_drum (.inl K) 0 [some (aR 15 0), some (aI p1), some (aI p2), some (aI p3), some (aI p4), none, none, none, none, none, none] [] h 0 0 := AW_go (cuts := [(47, [true, true, true, true, true, false, true, true, true, false, false]), (72, [true, true, true, true, true, false, true, true, true, true, true])]) ok_X11_drum 400 H
set_option maxRecDepth 100000 in
theorem vc_X11_drum_47 {K : Int32 → AH → Prop} {h : AH}  (l1 : Int32) (l2 : Int32) (l3 : Int32) (l4 : Int32) (l6 : Int32) (l7 : Int32) (l8 : Int32) (H : ((((nI 1) <<< (l3 &&& 31)) ≤ l8) → ((¬ l4 = 0) → K l7 h) ∧ (¬ (¬ l4 = 0) → K l6 h)) ∧ (¬ (((nI 1) <<< (l3 &&& 31)) ≤ l8) → S_X11_copies 0 1 h (fun h1 => AW M_X11_drum (.inl K) 72 [some (aR 15 0), some (aI l1), some (aI l2), some (aI l3), some (aI l4), none, some (aI l6), some (aI l7), some (aI l8), some (aI (nI 0)), some (aI (nI 0))] [] h1 0 0))) : AW M_X11_drum (.inl K) 47 [some (aR 15 0), some (aI l1), some (aI l2), some (aI l3), some (aI l4), none, some (aI l6), some (aI l7), some (aI l8), none, none] [] h 0 0 := AW_go (cuts := [(47, [true, true, true, true, true, false, true, true, true, false, false]), (72, [true, true, true, true, true, false, true, true, true, true, true])]) ok_X11_drum 400 H
set_option maxRecDepth 100000 in
theorem vc_X11_drum_72 {K : Int32 → AH → Prop} {h : AH}  (l1 : Int32) (l2 : Int32) (l3 : Int32) (l4 : Int32) (l6 : Int32) (l7 : Int32) (l8 : Int32) (l9 : Int32) (l10 : Int32) (H : ((l3 ≤ l10) → ((l7 < l9) → AW M_X11_drum (.inl K) 47 [some (aR 15 0), some (aI l1), some (aI l2), some (aI l3), some (aI l4), none, some (aI l8), some (aI l9), some (aI (l8 + (nI 1))), none, none] [] h 0 0) ∧ (¬ (l7 < l9) → AW M_X11_drum (.inl K) 47 [some (aR 15 0), some (aI l1), some (aI l2), some (aI l3), some (aI l4), none, some (aI l6), some (aI l7), some (aI (l8 + (nI 1))), none, none] [] h 0 0)) ∧ (¬ (l3 ≤ l10) → inR (nI 3) 62 ∧ S_X11_throwIn 1 l1 l2 (wI h 16 1 (nI 3).toNatClampNeg ((l8 >>> (l10 &&& 31)) &&& (nI 1))) (fun x2 h1 => AW M_X11_drum (.inl K) 72 [some (aR 15 0), some (aI l1), some (aI l2), some (aI l3), some (aI l4), none, some (aI l6), some (aI l7), some (aI l8), some (aI (l9 + x2)), some (aI (l10 + (nI 1)))] [] h1 0 0))) : AW M_X11_drum (.inl K) 72 [some (aR 15 0), some (aI l1), some (aI l2), some (aI l3), some (aI l4), none, some (aI l6), some (aI l7), some (aI l8), some (aI l9), some (aI l10)] [] h 0 0 := AW_go (cuts := [(47, [true, true, true, true, true, false, true, true, true, false, false]), (72, [true, true, true, true, true, false, true, true, true, true, true])]) ok_X11_drum 400 H

theorem lp_X11_drum {V : Vm} {s m n : Nat} {w : Int32} {h0 : AH} {K : Int32 → AH → Prop} (hr : RV (h0.1 16 0) V) (hw : WF V) (hs : s < V 10 1) (hm : m < 8) (hn : n ≤ 8) (k : ∀ h', keepM h0 h' → K (if w = 0 then iI (drB V s m n).1 else iI (drB V s m n).2) h') : ∀ r z h, z + r = 2 ^ n → keepM h0 h → AW M_X11_drum (.inl K) 47 [some (aR 15 0), some (aI (nI s)), some (aI (nI m)), some (aI (nI n)), some (aI w), none, some (aI (iI (am1 (fun z => ((drm V s m z n).1 : Int)) z (0, -1)).1)), some (aI (iI (am1 (fun z => ((drm V s m z n).1 : Int)) z (0, -1)).2)), some (aI (nI z)), none, none] [] h 0 0 := by
  have hp := pow8 hn
  have bb := am1_b (f := fun z => ((drm V s m z n).1 : Int)) (n := 2 ^ n) (p := (0, -1)) (A := -1) (B := 432) (fun z _ => by have := (drm_ok (z := z) hw hs hm n).2.2; omega) (by simp) (by simp) (by simp) (Int.natCast_nonneg _)
  intro r
  induction r with
  | zero =>
    intro z h hz h1
    refine vc_X11_drum_47 (nI s) (nI m) (nI n) w _ _ (nI z) ?_
    rw [sh2 n (by omega)]
    simp (disch := omega) only [n_le]
    have : z = 2 ^ n := by omega
    subst this
    have := k h h1
    refine ⟨fun _ => ⟨fun q => ?_, fun q => ?_⟩, fun q => absurd (by omega) q⟩
    · rw [if_neg q] at this; exact this
    · rw [if_pos (Decidable.not_not.mp q)] at this; exact this
  | succ r ih =>
    intro z h hz h1
    refine vc_X11_drum_47 (nI s) (nI m) (nI n) w _ _ (nI z) ?_
    rw [sh2 n (by omega)]
    simp (disch := omega) only [n_le]
    refine ⟨fun q => by omega, fun _ => ⟨by decide, fun h2 o2 c2 => ?_⟩⟩
    have hr2 : RV (h2.1 16 1) V := RV_cp hw hr (fun i hi => by rw [c2 i hi, keepM_r0 h1])
    have k2 := keepM_tr h1 (keepM_o (by decide) (by decide) o2)
    obtain ⟨b1, b2, b3, b4⟩ := bb z (by omega)
    have inner : ∀ r2 e h, e + r2 = n → keepM h0 h → RV (h.1 16 1) (drm V s m z e).2 → AW M_X11_drum (.inl K) 72 [some (aR 15 0), some (aI (nI s)), some (aI (nI m)), some (aI (nI n)), some (aI w), none, some (aI (iI (am1 (fun z => ((drm V s m z n).1 : Int)) z (0, -1)).1)), some (aI (iI (am1 (fun z => ((drm V s m z n).1 : Int)) z (0, -1)).2)), some (aI (nI z)), some (aI (nI (drm V s m z e).1)), some (aI (nI e))] [] h 0 0 := by
      intro r2
      induction r2 with
      | zero =>
        intro e h he h1 h2
        refine vc_X11_drum_72 (nI s) (nI m) (nI n) w _ _ (nI z) _ (nI e) ?_
        have : e = n := by omega
        subst this
        have hd := (drm_ok (z := z) hw hs hm e).2.2
        have := ih (z + 1) h (by omega) h1
        rw [am1] at this
        rw [nI_iI (drm V s m z e).1, i_lt (by omega) (by omega) (by omega) (by omega)]
        simp (disch := omega) only [n_le, nI_add]
        refine ⟨fun _ => ⟨fun q => ?_, fun q => ?_⟩, fun q => absurd (by omega) q⟩
        · rw [if_pos q, ← nI_iI z] at this; exact this
        · rw [if_neg q] at this; exact this
      | succ r2 ih2 =>
        intro e h he h1 h2
        refine vc_X11_drum_72 (nI s) (nI m) (nI n) w _ _ (nI z) _ (nI e) ?_
        rw [bit2 z (by omega) e (by omega)]
        obtain ⟨d1, d2, d3⟩ := drm_ok (z := z) hw hs hm e
        have hw2 := WF_dr (x := (z >>> e) % 2) d1 (by omega)
        simp (disch := omega) only [n_le, n_inT, n_cl, true_and, nI_add]
        have h3 := RV_set d1 h2 (t := 10) (i := 3) (x := (z >>> e) % 2) (by omega) (show 3 < 4 by decide)
        refine ⟨fun q => by omega, fun _ => ⟨uV (drm V s m z e).2 10 3 ((z >>> e) % 2), s, m, ⟨h3, hw2, by rw [uV_ne (by omega), d2]; exact hs, rfl⟩, hm, rfl, fun h4 o4 q4 => ?_⟩⟩
        dsimp only
        rw [nI_add]
        exact ih2 (e + 1) h4 (by omega) (keepM_tr (keepM_tr h1 (keepM_w (by omega))) (keepM_o (by decide) (by decide) o4)) q4
    exact inner n 0 h2 (by omega) k2 hr2
theorem snd_X11_drum (a c n w : Int32) {h : AH} {K : Int32 → AH → Prop} (k : S_X11_drum a c n w h K) : AW M_X11_drum (.inl K) 0 [some (aR 15 0), some (aI a), some (aI c), some (aI n), some (aI w), none, none, none, none, none, none] [] h 0 0 := by
  obtain ⟨V, hr, hw, k⟩ := k
  refine vc_X11_drum a c n w ?_
  unfold S_X11_isIn
  simp only [if10_eq]
  unfold R_drum at k
  refine ⟨fun q => ?_, fun q => ⟨fun q2 => wT_use hr hw ?_, fun q2 => ?_⟩⟩
  · rw [if_pos (Or.inl q)] at k
    exact k h (keepM_rfl h)
  · have q := Decidable.not_not.mp q
    rw [if_neg (by rintro (z | z); exact z q; exact q2 z)] at k
    rcases rfT_cases hw a c with ⟨s, m, hs, hm, hf, rfl, rfl, e⟩ | e
    case inr =>
      rw [if_pos e] at k
      exact ⟨fun q => absurd q e, fun _ => k h (keepM_rfl h)⟩
    rw [if_neg (fun z => z e)] at k
    have h7 := hw.2.1
    obtain ⟨i, hi, rfl⟩ := (in_n (by omega)).mp q
    unfold nN at k
    rw [n_cl (show s < 2147483648 by omega), n_cl (show m < 2147483648 by omega), n_cl (show i < 2147483648 by omega)] at k
    exact ⟨fun _ => lp_X11_drum hr hw hs hm hi k (2 ^ i) 0 h (by omega) (keepM_rfl h), fun q => absurd e q⟩
  · rw [if_pos (Or.inr (fun z => q2 (fun y => y z)))] at k
    exact k h (keepM_rfl h)
theorem tr_X11_drum : ∀ (as : List AV) (h : AH) (K : Int32 → AH → Prop), T_X11_drum as h K → ∃ (q : Nat) (r : List AV), as = aR 15 q :: r := by
  intro as h K hk
  match as, hk with
  | [.inr (.inr (.inl q0)), .inl q1, .inl q2, .inl q3, .inl q4], hk =>
    obtain ⟨hb, hk⟩ := tif_inv hk
    simp only [Bool.and_eq_true] at hb
    obtain ⟨e0, e1⟩ := hb
    obtain ⟨a0, b0⟩ := q0
    have f0 : a0 = 15 := Nat.eq_of_beq_eq_true e0
    subst f0
    have f1 : b0 = 0 := Nat.eq_of_beq_eq_true e1
    subst f1
    exact ⟨_, _, rfl⟩
theorem tw_X11_drum : ∀ (as : List AV) (h : AH) (K : Int32 → AH → Prop), T_X11_drum as h K → (ini as).length ≤ mNL M_X11_drum ∧ AW M_X11_drum (.inl K) 0 (initL (mNL M_X11_drum) as) [] h 0 0 := by
  intro as h K hk
  match as, hk with
  | [.inr (.inr (.inl q0)), .inl q1, .inl q2, .inl q3, .inl q4], hk =>
    obtain ⟨hb, hk⟩ := tif_inv hk
    simp only [Bool.and_eq_true] at hb
    obtain ⟨e0, e1⟩ := hb
    obtain ⟨a0, b0⟩ := q0
    have f0 : a0 = 15 := Nat.eq_of_beq_eq_true e0
    subst f0
    have f1 : b0 = 0 := Nat.eq_of_beq_eq_true e1
    subst f1
    exact ⟨Nat.le_of_ble_eq_true rfl, snd_X11_drum q1 q2 q3 q4 hk⟩


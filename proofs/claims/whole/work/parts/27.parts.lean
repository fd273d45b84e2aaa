/-! ===== the reference: unlike numbers, means ===== -/
/-- whether some fitting pair below P shows the number v -/
def sn (f : Nat → Option Nat) (g : Nat → Nat) (v : Nat) : Nat → Bool
  | 0 => false
  | P + 1 => match f P with
    | none => sn f g v P
    | some x => if g x = v then true else sn f g v P
theorem sn_some {f : Nat → Option Nat} {g : Nat → Nat} {v P x : Nat} (e : f P = some x) : sn f g v (P + 1) = if g x = v then true else sn f g v P := by rw [sn, e]
theorem sn_none {f : Nat → Option Nat} {g : Nat → Nat} {v P : Nat} (e : f P = none) : sn f g v (P + 1) = sn f g v P := by rw [sn, e]
def cn (p : Nat → Bool) : Nat → Nat
  | 0 => 0
  | i + 1 => cn p i + if p i = true then 1 else 0
theorem cn_le (p : Nat → Bool) : ∀ i, cn p i ≤ i
  | 0 => Nat.le_refl _
  | i + 1 => by
    have := cn_le p i
    unfold cn
    split <;> omega
def gT (k x : Nat) : Nat := tkV k (x / 10) (x % 10)
def prt (S : Sm) (V : Vm) (n m t : Nat) : Nat := cn (fun v => sn (fitO (S.2 m) (vSt V n) (S.1 4 m)) (gT (vSt V t)) v 100) 200
def S_X11_partsBy (a d t : Int32) (h : AH) (K : Int32 → AH → Prop) : Prop := ∃ S V n m T, pPre h S V a d n m ∧ T < V 10 1 ∧ t = nI T ∧ ∀ h', keepM h h' → K (nI (prt S V n m T)) h'
def T_X11_partsBy : List AV → AH → (Int32 → AH → Prop) → Prop := fun as h K => match as with
  | [.inr (.inr (.inl q0)), .inl q1, .inl q2, .inl q3] => tif (Nat.beq q0.1 15 && Nat.beq q0.2 0) (S_X11_partsBy q1 q2 q3 h K)
  | _ => False

def M_X11_partsBy : MI := (RX11, cX11_partsBy, 6, [(0, .iconst 0, []), (1, .istore 4, []), (3, .iload 4, []), (5, .sipush 200, []), (8, .if_icmp .ge 17, [25]), (11, .aload_n 0, []), (12, .getfield 28, []), (15, .iload 4, []), (17, .iconst 0, []), (18, .bastore, []), (19, .iinc 4 1, []), (22, .goto (-19), [3]), (25, .iconst 0, []), (26, .istore 4, []), (28, .iload 4, []), (30, .bipush 100, []), (32, .if_icmp .ge 37, [69]), (35, .aload_n 0, []), (36, .iload_n 1, []), (37, .iload_n 2, []), (38, .iload 4, []), (40, .invokevirtual 196, []), (43, .aload_n 0, []), (44, .getfield 47, []), (47, .iload_n 2, []), (48, .iaload, []), (49, .if_icmp .ne 14, [63]), (52, .aload_n 0, []), (53, .getfield 28, []), (56, .aload_n 0, []), (57, .iload_n 3, []), (58, .invokevirtual 190, []), (61, .iconst 1, []), (62, .bastore, []), (63, .iinc 4 1, []), (66, .goto (-38), [28]), (69, .iconst 0, []), (70, .istore 4, []), (72, .iconst 0, []), (73, .istore 5, []), (75, .iload 5, []), (77, .sipush 200, []), (80, .if_icmp .ge 29, [109]), (83, .iload 4, []), (85, .aload_n 0, []), (86, .getfield 28, []), (89, .iload 5, []), (91, .baload, []), (92, .ifCond .eq 7, [99]), (95, .iconst 1, []), (96, .goto 4, [100]), (99, .iconst 0, []), (100, .iadd, []), (101, .istore 4, []), (103, .iinc 5 1, []), (106, .goto (-31), [75]), (109, .iload 4, []), (111, .ireturn, [])], [(28, (15, 13, 1, 17, 0)), (47, (15, 20, 1, 21, 4))], [], [], [(588, (4, 4, 90, 0, 0, .inl T_X11_wrongAt)), (570, (2, 3, 66, 0, 0, .inl T_X11_takes))], 4, 90, 0, 0)
theorem ok_X11_partsBy : MOK M_X11_partsBy := ⟨by decide +kernel, List.forall_mem_cons.mpr ⟨fl_RX11_28, List.forall_mem_cons.mpr ⟨fl_RX11_47, fun _ h => absurd h List.not_mem_nil⟩⟩, fun _ h => absurd h List.not_mem_nil, fun _ h => absurd h List.not_mem_nil, List.forall_mem_cons.mpr ⟨⟨Nat.le_of_ble_eq_true rfl, Nat.le_of_ble_eq_true rfl, cr_RX11_588⟩, List.forall_mem_cons.mpr ⟨⟨Nat.le_of_ble_eq_true rfl, Nat.le_of_ble_eq_true rfl, cr_RX11_570⟩, fun _ h => absurd h List.not_mem_nil⟩⟩⟩
set_option maxRecDepth 100000 in
theorem vc_X11_partsBy {K : Int32 → AH → Prop} {h : AH} (p1 : Int32) (p2 : Int32) (p3 : Int32) (H : AW M_X11_partsBy (.inl K) 3 [some (aR 15 0), some (aI p1), some (aI p2), some (aI p3), some (aI (nI 0)), none] [] h 0 0) : AW M_X11_partsBy (.inl K) 0 [some (aR 15 0), some (aI p1), some (aI p2), some (aI p3), none, none] [] h 0 0 := AW_go (cuts := [(3, [true, true, true, true, true, false]), (28, [true, true, true, true, true, false]), (75, [true, false, false, false, true, true])]) ok_X11_partsBy 400 H
set_option maxRecDepth 100000 in
theorem vc_X11_partsBy_3 {K : Int32 → AH → Prop} {h : AH}  (l1 : Int32) (l2 : Int32) (l3 : Int32) (l4 : Int32) (H : (((nI 200) ≤ l4) → AW M_X11_partsBy (.inl K) 28 [some (aR 15 0), some (aI l1), some (aI l2), some (aI l3), some (aI (nI 0)), none] [] h 0 0) ∧ (¬ ((nI 200) ≤ l4) → inR l4 200 ∧ ((nI 0) = 0 ∨ (nI 0) = 1) ∧ AW M_X11_partsBy (.inl K) 3 [some (aR 15 0), some (aI l1), some (aI l2), some (aI l3), some (aI (l4 + (nI 1))), none] [] (wI h 17 0 l4.toNatClampNeg (nI 0)) 0 0)) : AW M_X11_partsBy (.inl K) 3 [some (aR 15 0), some (aI l1), some (aI l2), some (aI l3), some (aI l4), none] [] h 0 0 := AW_go (cuts := [(3, [true, true, true, true, true, false]), (28, [true, true, true, true, true, false]), (75, [true, false, false, false, true, true])]) ok_X11_partsBy 400 H
set_option maxRecDepth 100000 in
theorem vc_X11_partsBy_28 {K : Int32 → AH → Prop} {h : AH}  (l1 : Int32) (l2 : Int32) (l3 : Int32) (l4 : Int32) (H : (((nI 100) ≤ l4) → AW M_X11_partsBy (.inl K) 75 [some (aR 15 0), none, none, none, some (aI (nI 0)), some (aI (nI 0))] [] h 0 0) ∧ (¬ ((nI 100) ≤ l4) → S_X11_wrongAt l1 l2 l4 h (fun x2 h1 => inR l2 8 ∧ ((¬ x2 = (h1.1 21 4 l2.toNatClampNeg)) → AW M_X11_partsBy (.inl K) 28 [some (aR 15 0), some (aI l1), some (aI l2), some (aI l3), some (aI (l4 + (nI 1))), none] [] h1 0 0) ∧ (¬ (¬ x2 = (h1.1 21 4 l2.toNatClampNeg)) → S_X11_takes l3 h1 (fun x4 h3 => inR x4 200 ∧ ((nI 1) = 0 ∨ (nI 1) = 1) ∧ AW M_X11_partsBy (.inl K) 28 [some (aR 15 0), some (aI l1), some (aI l2), some (aI l3), some (aI (l4 + (nI 1))), none] [] (wI h3 17 0 x4.toNatClampNeg (nI 1)) 0 0))))) : AW M_X11_partsBy (.inl K) 28 [some (aR 15 0), some (aI l1), some (aI l2), some (aI l3), some (aI l4), none] [] h 0 0 := AW_go (cuts := [(3, [true, true, true, true, true, false]), (28, [true, true, true, true, true, false]), (75, [true, false, false, false, true, true])]) ok_X11_partsBy 400 H
set_option maxRecDepth 100000 in
theorem vc_X11_partsBy_75 {K : Int32 → AH → Prop} {h : AH}  (l4 : Int32) (l5 : Int32) (H : (((nI 200) ≤ l5) → K l4 h) ∧ (¬ ((nI 200) ≤ l5) → inR l5 200 ∧ (((h.1 17 0 l5.toNatClampNeg) = 0) → AW M_X11_partsBy (.inl K) 75 [some (aR 15 0), none, none, none, some (aI (l4 + (nI 0))), some (aI (l5 + (nI 1)))] [] h 0 0) ∧ (¬ ((h.1 17 0 l5.toNatClampNeg) = 0) → AW M_X11_partsBy (.inl K) 75 [some (aR 15 0), none, none, none, some (aI (l4 + (nI 1))), some (aI (l5 + (nI 1)))] [] h 0 0))) : AW M_X11_partsBy (.inl K) 75 [some (aR 15 0), none, none, none, some (aI l4), some (aI l5)] [] h 0 0 := AW_go (cuts := [(3, [true, true, true, true, true, false]), (28, [true, true, true, true, true, false]), (75, [true, false, false, false, true, true])]) ok_X11_partsBy 400 H

theorem lp3_X11_partsBy {S : Sm} {V : Vm} {n m T : Nat} {h0 : AH} {K : Int32 → AH → Prop} (k : ∀ h', keepM h0 h' → K (nI (prt S V n m T)) h') : ∀ r i h, i + r = 200 → keepM h0 h → (∀ v, v < 200 → h.1 17 0 v = if sn (fitO (S.2 m) (vSt V n) (S.1 4 m)) (gT (vSt V T)) v 100 = true then nI 1 else nI 0) → AW M_X11_partsBy (.inl K) 75 [some (aR 15 0), none, none, none, some (aI (nI (cn (fun v => sn (fitO (S.2 m) (vSt V n) (S.1 4 m)) (gT (vSt V T)) v 100) i))), some (aI (nI i))] [] h 0 0 := by
  intro r
  induction r with
  | zero =>
    intro i h hi hk hv
    refine vc_X11_partsBy_75 _ (nI i) ?_
    have : i = 200 := by omega
    subst this
    exact ⟨fun _ => k h hk, fun q => absurd (by decide) q⟩
  | succ r ih =>
    intro i h hi hk hv
    refine vc_X11_partsBy_75 _ (nI i) ?_
    have hc := cn_le (fun v => sn (fitO (S.2 m) (vSt V n) (S.1 4 m)) (gT (vSt V T)) v 100) i
    have ih := ih (i + 1) h (by omega) hk hv
    simp (disch := omega) only [n_inT, n_cl, true_and, n_le, nI_add]
    rw [hv i (by omega)]
    rw [cn] at ih
    refine ⟨fun q => by omega, fun _ => ⟨fun q => ?_, fun q => ?_⟩⟩
    · split at q
      · exact absurd q (by decide)
      · rename_i z
        rw [if_neg z] at ih
        exact ih
    · split at q
      · rename_i z
        rw [if_pos z] at ih
        exact ih
      · exact absurd rfl q
theorem lp2_X11_partsBy {S : Sm} {V : Vm} {n m T : Nat} {h0 : AH} {K : Int32 → AH → Prop} (hp : pPre h0 S V (nI n) (nI m) n m) (hT : T < V 10 1) (k : ∀ h', keepM h0 h' → K (nI (prt S V n m T)) h') : ∀ r P h, P + r = 100 → keepM h0 h → (∀ v, v < 200 → h.1 17 0 v = if sn (fitO (S.2 m) (vSt V n) (S.1 4 m)) (gT (vSt V T)) v P = true then nI 1 else nI 0) → AW M_X11_partsBy (.inl K) 28 [some (aR 15 0), some (aI (nI n)), some (aI (nI m)), some (aI (nI T)), some (aI (nI P)), none] [] h 0 0 := by
  obtain ⟨-, p2, -, p4, p5, -, p7, -, p9⟩ := id hp
  have hw3 := (p2 m p7).2.2 p9
  have h7 := p4.2.1
  intro r
  induction r with
  | zero =>
    intro P h hP hk hv
    refine vc_X11_partsBy_28 (nI n) (nI m) (nI T) (nI P) ?_
    have : P = 100 := by omega
    subst this
    exact ⟨fun _ => lp3_X11_partsBy k 200 0 h (by omega) hk hv, fun q => absurd (by decide) q⟩
  | succ r ih =>
    intro P h hP hk hv
    refine vc_X11_partsBy_28 (nI n) (nI m) (nI T) (nI P) ?_
    simp (disch := omega) only [n_le, nI_add]
    refine ⟨fun q => by omega, fun _ => ⟨S, V, n, m, P, pPre_k hk hp, by omega, rfl, fun h1 o1 f1 f2 => ?_⟩⟩
    have k1 := keepM_tr hk (keepP_M o1)
    have hb := wa_b (E := S.2 m) (k := vSt V n) (S.1 4 m) 0 (P / 10) (P % 10) (by omega) (by omega)
    have hb : 0 ≤ (waP (S.2 m) (vSt V n) (S.1 4 m) P).1 ∧ (waP (S.2 m) (vSt V n) (S.1 4 m) P).1 ≤ 0 + S.1 4 m ∧ (waP (S.2 m) (vSt V n) (S.1 4 m) P).2.1 ≤ 9 ∧ (waP (S.2 m) (vSt V n) (S.1 4 m) P).2.2 ≤ 9 := hb
    obtain ⟨c1, c2, c3⟩ := ((pPre_k k1 hp).1 m p7).2.2 p9
    simp (disch := omega) only [n_inT, n_cl, true_and, c2, n_eq]
    have hv1 : ∀ v, h1.1 17 0 v = h.1 17 0 v := fun v => o1.2 17 0 v (by omega)
    refine ⟨fun q => ?_, fun q => ?_⟩
    · refine ih (P + 1) h1 (by omega) k1 (fun v hv2 => ?_)
      rw [hv1, hv v hv2, sn]
      unfold fitO
      rw [if_neg (show ¬ (waP (S.2 m) (vSt V n) (S.1 4 m) P).1 = S.1 4 m by omega)]
    · have q := Decidable.not_not.mp q
      obtain ⟨-, -, r3, r4⟩ := pPre_k k1 hp
      refine ⟨V, T, (waP (S.2 m) (vSt V n) (S.1 4 m) P).2.1, (waP (S.2 m) (vSt V n) (S.1 4 m) P).2.2, ⟨r3, p4, hT, rfl⟩, hb.2.2.1, hb.2.2.2, f1, f2, ?_⟩
      have tl := tk_le (vSt V T) (waP (S.2 m) (vSt V n) (S.1 4 m) P).2.1 (waP (S.2 m) (vSt V n) (S.1 4 m) P).2.2
      have tv : tkV (vSt V T) (waP (S.2 m) (vSt V n) (S.1 4 m) P).2.1 (waP (S.2 m) (vSt V n) (S.1 4 m) P).2.2 ≤ 54 := by unfold tkV; omega
      generalize hz : tkV (vSt V T) (waP (S.2 m) (vSt V n) (S.1 4 m) P).2.1 (waP (S.2 m) (vSt V n) (S.1 4 m) P).2.2 = z at tv
      simp (disch := omega) only [n_inT, n_cl, true_and]
      refine ⟨Or.inr (by decide), ih (P + 1) _ (by omega) (keepM_tr k1 (keepM_tr (keepM_tr (keepM_w (by omega)) (keepM_w (by omega))) (keepM_w (by omega)))) (fun v hv2 => ?_)⟩
      have hfv : fitO (S.2 m) (vSt V n) (S.1 4 m) P = some (10 * (waP (S.2 m) (vSt V n) (S.1 4 m) P).2.1 + (waP (S.2 m) (vSt V n) (S.1 4 m) P).2.2) := if_pos q
      have hgv : gT (vSt V T) (10 * (waP (S.2 m) (vSt V n) (S.1 4 m) P).2.1 + (waP (S.2 m) (vSt V n) (S.1 4 m) P).2.2) = z := by
        rw [← hz]
        unfold gT
        congr 1 <;> omega
      rw [sn_some hfv, hgv]
      by_cases e : z = v
      · subst e
        rw [if_pos rfl, if_pos rfl]; first | rw [wI_at] | rw [uI_at]
      · rw [if_neg e]; first | rw [uI_ni (by omega), uI_nt (by omega), uI_nt (by omega), hv1, hv v hv2] | rw [wI_ni (by omega), wI_nt (by omega), wI_nt (by omega), hv1, hv v hv2]
theorem lp1_X11_partsBy {S : Sm} {V : Vm} {n m T : Nat} {h0 : AH} {K : Int32 → AH → Prop} (hp : pPre h0 S V (nI n) (nI m) n m) (hT : T < V 10 1) (k : ∀ h', keepM h0 h' → K (nI (prt S V n m T)) h') : ∀ r i h, i + r = 200 → keepM h0 h → (∀ v, v < i → h.1 17 0 v = nI 0) → AW M_X11_partsBy (.inl K) 3 [some (aR 15 0), some (aI (nI n)), some (aI (nI m)), some (aI (nI T)), some (aI (nI i)), none] [] h 0 0 := by
  intro r
  induction r with
  | zero =>
    intro i h hi hk hv
    refine vc_X11_partsBy_3 (nI n) (nI m) (nI T) (nI i) ?_
    have : i = 200 := by omega
    subst this
    exact ⟨fun _ => lp2_X11_partsBy hp hT k 100 0 h (by omega) hk (fun v q => by rw [hv v q]; rfl), fun q => absurd (by decide) q⟩
  | succ r ih =>
    intro i h hi hk hv
    refine vc_X11_partsBy_3 (nI n) (nI m) (nI T) (nI i) ?_
    simp (disch := omega) only [n_inT, n_cl, true_and, n_le, nI_add]
    refine ⟨fun q => by omega, fun _ => ⟨Or.inl (by decide), ih (i + 1) _ (by omega) (keepM_tr hk (keepM_w (by omega))) (fun v q => ?_)⟩⟩
    by_cases e : v = i
    · subst e; rw [wI_at]
    · rw [wI_ni e]; exact hv v (by omega)
theorem snd_X11_partsBy (a d t : Int32) {h : AH} {K : Int32 → AH → Prop} (k : S_X11_partsBy a d t h K) : AW M_X11_partsBy (.inl K) 0 [some (aR 15 0), some (aI a), some (aI d), some (aI t), none, none] [] h 0 0 := by
  obtain ⟨S, V, n, m, T, hp, hT, rfl, k⟩ := k
  obtain ⟨-, -, -, -, -, rfl, -, rfl, -⟩ := id hp
  refine vc_X11_partsBy (nI n) (nI m) (nI T) ?_
  exact lp1_X11_partsBy hp hT k 200 0 h (by omega) (keepM_rfl h) (fun v q => absurd q (by omega))
theorem tr_X11_partsBy : ∀ (as : List AV) (h : AH) (K : Int32 → AH → Prop), T_X11_partsBy as h K → ∃ (q : Nat) (r : List AV), as = aR 15 q :: r := by
  intro as h K hk
  match as, hk with
  | [.inr (.inr (.inl q0)), .inl q1, .inl q2, .inl q3], hk =>
    obtain ⟨hb, hk⟩ := tif_inv hk
    simp only [Bool.and_eq_true] at hb
    obtain ⟨e0, e1⟩ := hb
    obtain ⟨a0, b0⟩ := q0
    have f0 : a0 = 15 := Nat.eq_of_beq_eq_true e0
    subst f0
    have f1 : b0 = 0 := Nat.eq_of_beq_eq_true e1
    subst f1
    exact ⟨_, _, rfl⟩
theorem tw_X11_partsBy : ∀ (as : List AV) (h : AH) (K : Int32 → AH → Prop), T_X11_partsBy as h K → (ini as).length ≤ mNL M_X11_partsBy ∧ AW M_X11_partsBy (.inl K) 0 (initL (mNL M_X11_partsBy) as) [] h 0 0 := by
  intro as h K hk
  match as, hk with
  | [.inr (.inr (.inl q0)), .inl q1, .inl q2, .inl q3], hk =>
    obtain ⟨hb, hk⟩ := tif_inv hk
    simp only [Bool.and_eq_true] at hb
    obtain ⟨e0, e1⟩ := hb
    obtain ⟨a0, b0⟩ := q0
    have f0 : a0 = 15 := Nat.eq_of_beq_eq_true e0
    subst f0
    have f1 : b0 = 0 := Nat.eq_of_beq_eq_true e1
    subst f1
    exact ⟨Nat.le_of_ble_eq_true rfl, snd_X11_partsBy q1 q2 q3 hk⟩
theorem cr_RX11_600 : CR RX11 (kIns 600) (4, 5, 115, 0, 0, .inl T_X11_partsBy) := crV_i (t := 15) (M := M_X11_partsBy) (by decide) rfl (by decide) rfl (inG (i := 1219) (w := Cond.methodLink RX11 200 yX11_partsBy) (by decide +kernel) rfl) (inG (i := 1221) (w := Cond.instanceMethod yX11_partsBy) (by decide +kernel) rfl) (inG (i := 40) (w := Cond.initialized RX11) (by decide +kernel) rfl) (inG (i := 30) (w := Cond.selects RX11 yX11_partsBy yX11_partsBy) (by decide +kernel) rfl) (inG (i := 1222) (w := Cond.code yX11_partsBy cX11_partsBy 6 (some .int)) (by decide +kernel) rfl) ⟨by decide +kernel, by decide +kernel, by decide +kernel⟩ tr_X11_partsBy tw_X11_partsBy

/-- of all sheep, the first that parts the pairs into most numbers -/
def tmB (f : Nat → Nat) : Nat → Int × Nat
  | 0 => (-4, 0)
  | t + 1 => if (tmB f t).2 < f t then (t, f t) else tmB f t
theorem tmB_le {f : Nat → Nat} (hf : ∀ t, f t ≤ 200) : ∀ t, (tmB f t).2 ≤ 200 ∧ ((tmB f t).1 = -4 ∨ (0 ≤ (tmB f t).1 ∧ (tmB f t).1 < t))
  | 0 => ⟨Nat.zero_le _, Or.inl rfl⟩
  | t + 1 => by
    have := tmB_le hf t
    unfold tmB
    split
    · exact ⟨hf t, Or.inr ⟨by show (0 : Int) ≤ t; omega, by show (t : Int) < (t + 1 : Nat); omega⟩⟩
    · omega
def R_tellsMost (S : Sm) (V : Vm) (a d w : Int32) : Int32 := if ¬ (nI 0 ≤ w ∧ w ≤ nI 1) then iI (-1) else if rsr S V a d ≠ nI 0 then rsr S V a d else if (tmB (prt S V (nN a) (nN d)) (V 10 1)).1 < 0 ∨ w = 0 then iI (tmB (prt S V (nN a) (nN d)) (V 10 1)).1 else nI (tmB (prt S V (nN a) (nN d)) (V 10 1)).2
def S_X11_tellsMost (a d w : Int32) (h : AH) (K : Int32 → AH → Prop) : Prop := ∃ S V, MSh h S ∧ WS S ∧ RV (h.1 16 0) V ∧ WF V ∧ ∀ h', keepM h h' → K (R_tellsMost S V a d w) h'
def T_X11_tellsMost : List AV → AH → (Int32 → AH → Prop) → Prop := fun as h K => match as with
  | [.inr (.inr (.inl q0)), .inl q1, .inl q2, .inl q3] => tif (Nat.beq q0.1 15 && Nat.beq q0.2 0) (S_X11_tellsMost q1 q2 q3 h K)
  | _ => False

def M_X11_tellsMost : MI := (RX11, cX11_tellsMost, 9, [(0, .iload_n 3, []), (1, .iconst 0, []), (2, .iconst 1, []), (3, .invokestatic 53, []), (6, .ifCond .eq 12, [18]), (9, .aload_n 0, []), (10, .iload_n 1, []), (11, .iload_n 2, []), (12, .invokevirtual 193, []), (15, .goto 4, [19]), (18, .iconst (-1), []), (19, .istore 4, []), (21, .iload 4, []), (23, .ifCond .eq 6, [29]), (26, .iload 4, []), (28, .ireturn, []), (29, .bipush (-4), []), (31, .istore 5, []), (33, .iconst 0, []), (34, .istore 6, []), (36, .iconst 0, []), (37, .istore 7, []), (39, .iload 7, []), (41, .aload_n 0, []), (42, .getfield 9, []), (45, .iconst 1, []), (46, .iaload, []), (47, .if_icmp .ge 37, [84]), (50, .aload_n 0, []), (51, .iload_n 1, []), (52, .iload_n 2, []), (53, .iload 7, []), (55, .invokevirtual 200, []), (58, .istore 8, []), (60, .iload 8, []), (62, .iload 6, []), (64, .if_icmp .gt 6, [70]), (67, .goto 11, [78]), (70, .iload 7, []), (72, .istore 5, []), (74, .iload 8, []), (76, .istore 6, []), (78, .iinc 7 1, []), (81, .goto (-42), [39]), (84, .iload 5, []), (86, .ifCond .lt 7, [93]), (89, .iload_n 3, []), (90, .ifCond .ne 8, [98]), (93, .iload 5, []), (95, .goto 5, [100]), (98, .iload 6, []), (100, .ireturn, [])], [(9, (15, 0, 1, 16, 0))], [], [], [(160, (3, 1, 22, 0, 0, .inl T_X11_isIn)), (579, (3, 4, 86, 0, 0, .inl T_X11_wrongSheepRow)), (600, (4, 5, 115, 0, 0, .inl T_X11_partsBy))], 5, 115, 0, 0)
theorem ok_X11_tellsMost : MOK M_X11_tellsMost := ⟨by decide +kernel, List.forall_mem_cons.mpr ⟨fl_RX11_9, fun _ h => absurd h List.not_mem_nil⟩, fun _ h => absurd h List.not_mem_nil, fun _ h => absurd h List.not_mem_nil, List.forall_mem_cons.mpr ⟨⟨Nat.le_of_ble_eq_true rfl, Nat.le_of_ble_eq_true rfl, cr_RX11_160⟩, List.forall_mem_cons.mpr ⟨⟨Nat.le_of_ble_eq_true rfl, Nat.le_of_ble_eq_true rfl, cr_RX11_579⟩, List.forall_mem_cons.mpr ⟨⟨Nat.le_of_ble_eq_true rfl, Nat.le_of_ble_eq_true rfl, cr_RX11_600⟩, fun _ h => absurd h List.not_mem_nil⟩⟩⟩⟩
set_option maxRecDepth 100000 in
theorem vc_X11_tellsMost {K : Int32 → AH → Prop} {h : AH} (p1 : Int32) (p2 : Int32) (p3 : Int32) (H : S_X11_isIn p3 (nI 0) (nI 1) h (fun x2 h1 => ((x2 = 0) → (((iI (-1)) = 0) → AW M_X11_tellsMost (.inl K) 39 [some (aR 15 0), some (aI p1), some (aI p2), some (aI p3), none, some (aI (iI (-4))), some (aI (nI 0)), some (aI (nI 0)), none] [] h1 0 0) ∧ (¬ ((iI (-1)) = 0) → K (iI (-1)) h1)) ∧ (¬ (x2 = 0) → S_X11_wrongSheepRow p1 p2 h1 (fun x4 h3 => ((x4 = 0) → AW M_X11_tellsMost (.inl K) 39 [some (aR 15 0), some (aI p1), some (aI p2), some (aI p3), none, some (aI (iI (-4))), some (aI (nI 0)), some (aI (nI 0)), none] [] h3 0 0) ∧ (¬ (x4 = 0) → K x4 h3))))) : AW M_X11_tellsMost (.inl K) 0 [some (aR 15 0), some (aI p1), some (aI p2), some (aI p3), none, none, none, none, none] [] h 0 0 := AW_go (cuts := [(39, [true, true, true, true, false, true, true, true, false])]) ok_X11_tellsMost 400 H
set_option maxRecDepth 100000 in
theorem vc_X11_tellsMost_39 {K : Int32 → AH → Prop} {h : AH}  (l1 : Int32) (l2 : Int32) (l3 : Int32) (l5 : Int32) (l6 : Int32) (l7 : Int32) (H : inR (nI 1) 62 ∧ (((h.1 16 0 (nI 1).toNatClampNeg) ≤ l7) → ((l5 < 0) → K l5 h) ∧ (¬ (l5 < 0) → ((¬ l3 = 0) → K l6 h) ∧ (¬ (¬ l3 = 0) → K l5 h))) ∧ (¬ ((h.1 16 0 (nI 1).toNatClampNeg) ≤ l7) → S_X11_partsBy l1 l2 l7 h (fun x2 h1 => ((l6 < x2) → AW M_X11_tellsMost (.inl K) 39 [some (aR 15 0), some (aI l1), some (aI l2), some (aI l3), none, some (aI l7), some (aI x2), some (aI (l7 + (nI 1))), none] [] h1 0 0) ∧ (¬ (l6 < x2) → AW M_X11_tellsMost (.inl K) 39 [some (aR 15 0), some (aI l1), some (aI l2), some (aI l3), none, some (aI l5), some (aI l6), some (aI (l7 + (nI 1))), none] [] h1 0 0)))) : AW M_X11_tellsMost (.inl K) 39 [some (aR 15 0), some (aI l1), some (aI l2), some (aI l3), none, some (aI l5), some (aI l6), some (aI l7), none] [] h 0 0 := AW_go (cuts := [(39, [true, true, true, true, false, true, true, true, false])]) ok_X11_tellsMost 400 H

theorem lp_X11_tellsMost {S : Sm} {V : Vm} {n m : Nat} {w : Int32} {h0 : AH} {K : Int32 → AH → Prop} (hp : pPre h0 S V (nI n) (nI m) n m) (k : ∀ h', keepM h0 h' → K (if (tmB (prt S V n m) (V 10 1)).1 < 0 ∨ w = 0 then iI (tmB (prt S V n m) (V 10 1)).1 else nI (tmB (prt S V n m) (V 10 1)).2) h') : ∀ r t h, t + r = V 10 1 → keepM h0 h → AW M_X11_tellsMost (.inl K) 39 [some (aR 15 0), some (aI (nI n)), some (aI (nI m)), some (aI w), none, some (aI (iI (tmB (prt S V n m) t).1)), some (aI (nI (tmB (prt S V n m) t).2)), some (aI (nI t)), none] [] h 0 0 := by
  obtain ⟨-, p2, -, p4, p5, -, p7, -, p9⟩ := id hp
  have h7 := p4.2.1
  intro r
  induction r with
  | zero =>
    intro t h hr hk
    refine vc_X11_tellsMost_39 (nI n) (nI m) w _ _ (nI t) ?_
    have : t = V 10 1 := by omega
    subst this
    have e1 := (RVs (pPre_k hk hp).2.2.1).2.2.2.2.2.2.2.2.2.2.2.1
    have hb := tmB_le (f := prt S V n m) (fun t => cn_le _ 200) (V 10 1)
    simp (disch := omega) only [n_inT, n_cl, true_and, e1, n_le]
    have := k h hk
    have hz : iI (tmB (prt S V n m) (V 10 1)).1 < 0 ↔ (tmB (prt S V n m) (V 10 1)).1 < 0 := by
      rcases hb.2 with e | ⟨e, e'⟩
      · rw [e]; decide
      · obtain ⟨x, hx⟩ := Int.eq_ofNat_of_zero_le e
        rw [hx, ← nI_iI, n_lt0 (by omega)]
        exact ⟨False.elim, fun z => by omega⟩
    refine ⟨fun _ => ⟨fun q => ?_, fun q => ⟨fun q2 => ?_, fun q2 => ?_⟩⟩, fun q => absurd (by omega) q⟩
    · rw [if_pos (Or.inl (hz.mp q))] at this; exact this
    · rw [if_neg (fun z => z.elim (fun z => q (hz.mpr z)) q2)] at this; exact this
    · rw [if_pos (Or.inr (Decidable.not_not.mp q2))] at this; exact this
  | succ r ih =>
    intro t h hr hk
    refine vc_X11_tellsMost_39 (nI n) (nI m) w _ _ (nI t) ?_
    have e1 := (RVs (pPre_k hk hp).2.2.1).2.2.2.2.2.2.2.2.2.2.2.1
    have hb := tmB_le (f := prt S V n m) (fun t => cn_le _ 200) t
    have hc : prt S V n m t ≤ 200 := cn_le _ 200
    simp (disch := omega) only [n_inT, n_cl, true_and, e1, n_le, nI_add]
    refine ⟨fun q => by omega, fun _ => ⟨S, V, n, m, t, pPre_k hk hp, by omega, rfl, fun h1 o1 => ?_⟩⟩
    have ih := ih (t + 1) h1 (by omega) (keepM_tr hk o1)
    rw [tmB] at ih
    simp (disch := omega) only [n_lt]
    refine ⟨fun q => ?_, fun q => ?_⟩
    · rw [if_pos q] at ih
      exact ih
    · rw [if_neg q] at ih
      exact ih
theorem snd_X11_tellsMost (a d w : Int32) {h : AH} {K : Int32 → AH → Prop} (k : S_X11_tellsMost a d w h K) : AW M_X11_tellsMost (.inl K) 0 [some (aR 15 0), some (aI a), some (aI d), some (aI w), none, none, none, none, none] [] h 0 0 := by
  obtain ⟨S, V, hs, hw, hr, hv, k⟩ := k
  refine vc_X11_tellsMost a d w ?_
  unfold S_X11_isIn
  simp only [if10_eq]
  unfold R_tellsMost at k
  refine ⟨fun q => ⟨fun z => absurd z (by decide), fun _ => ?_⟩, fun q => ⟨S, V, hs, hw, hr, hv, ?_⟩⟩
  · rw [if_pos q] at k; exact k h (keepM_rfl h)
  · rw [if_neg q] at k
    rcases rsr_cases hs hw hr hv a d with ⟨n, m, hp, e⟩ | e
    case inr =>
      rw [if_pos e] at k
      exact ⟨fun z => absurd z e, fun _ => k h (keepM_rfl h)⟩
    rw [if_neg (fun z => z e)] at k
    obtain ⟨-, -, -, p4, p5, rfl, p7, rfl, p9⟩ := id hp
    have h7 := p4.2.1
    unfold nN at k
    rw [n_cl (show m < 2147483648 by omega), n_cl (show n < 2147483648 by omega)] at k
    exact ⟨fun _ => lp_X11_tellsMost hp k (V 10 1) 0 h (by omega) (keepM_rfl h), fun z => absurd e z⟩
theorem tr_X11_tellsMost : ∀ (as : List AV) (h : AH) (K : Int32 → AH → Prop), T_X11_tellsMost as h K → ∃ (q : Nat) (r : List AV), as = aR 15 q :: r := by
  intro as h K hk
  match as, hk with
  | [.inr (.inr (.inl q0)), .inl q1, .inl q2, .inl q3], hk =>
    obtain ⟨hb, hk⟩ := tif_inv hk
    simp only [Bool.and_eq_true] at hb
    obtain ⟨e0, e1⟩ := hb
    obtain ⟨a0, b0⟩ := q0
    have f0 : a0 = 15 := Nat.eq_of_beq_eq_true e0
    subst f0
    have f1 : b0 = 0 := Nat.eq_of_beq_eq_true e1
    subst f1
    exact ⟨_, _, rfl⟩
theorem tw_X11_tellsMost : ∀ (as : List AV) (h : AH) (K : Int32 → AH → Prop), T_X11_tellsMost as h K → (ini as).length ≤ mNL M_X11_tellsMost ∧ AW M_X11_tellsMost (.inl K) 0 (initL (mNL M_X11_tellsMost) as) [] h 0 0 := by
  intro as h K hk
  match as, hk with
  | [.inr (.inr (.inl q0)), .inl q1, .inl q2, .inl q3], hk =>
    obtain ⟨hb, hk⟩ := tif_inv hk
    simp only [Bool.and_eq_true] at hb
    obtain ⟨e0, e1⟩ := hb
    obtain ⟨a0, b0⟩ := q0
    have f0 : a0 = 15 := Nat.eq_of_beq_eq_true e0
    subst f0
    have f1 : b0 = 0 := Nat.eq_of_beq_eq_true e1
    subst f1
    exact ⟨Nat.le_of_ble_eq_true rfl, snd_X11_tellsMost q1 q2 q3 hk⟩


/-! ===== the reference: a statement done ===== -/
def adE (V : Vm) (a b n : Nat) : Vm := uV (uV (uV (uV (uV V 4 (V 10 0) a) 5 (V 10 0) b) 6 (V 10 0) n) 7 (V 10 0) 0) 10 0 (V 10 0 + 1)
theorem adE_0 (V : Vm) (a b n : Nat) : adE V a b n 10 0 = V 10 0 + 1 := by unfold adE; rw [uV_at]
theorem adE_10 {V : Vm} {a b n i : Nat} (h : i ≠ 0) : adE V a b n 10 i = V 10 i := by unfold adE; rw [uV_ne (by omega), uV_ne (by omega), uV_ne (by omega), uV_ne (by omega), uV_ne (by omega)]
theorem adE_o {V : Vm} {a b n t i : Nat} (h : t < 4 ∨ t = 8 ∨ t = 9) : adE V a b n t i = V t i := by unfold adE; rw [uV_ne (by omega), uV_ne (by omega), uV_ne (by omega), uV_ne (by omega), uV_ne (by omega)]
theorem adE_e {V : Vm} {a b n t i : Nat} (h : i ≠ V 10 0) (ht : t ≠ 10) : adE V a b n t i = V t i := by unfold adE; rw [uV_ne (by omega), uV_ne (by omega), uV_ne (by omega), uV_ne (by omega), uV_ne (by omega)]
theorem adE_4 (V : Vm) (a b n : Nat) : adE V a b n 4 (V 10 0) = a := by unfold adE; rw [uV_ne (by omega), uV_ne (by omega), uV_ne (by omega), uV_ne (by omega), uV_at]
theorem adE_5 (V : Vm) (a b n : Nat) : adE V a b n 5 (V 10 0) = b := by unfold adE; rw [uV_ne (by omega), uV_ne (by omega), uV_ne (by omega), uV_at]
theorem adE_6 (V : Vm) (a b n : Nat) : adE V a b n 6 (V 10 0) = n := by unfold adE; rw [uV_ne (by omega), uV_ne (by omega), uV_at]
theorem adE_7 (V : Vm) (a b n : Nat) : adE V a b n 7 (V 10 0) = 0 := by unfold adE; rw [uV_ne (by omega), uV_at]
theorem WF_adE {V : Vm} {a b n : Nat} (hw : WF V) (h4 : V 10 0 < 4) (ha : a ≤ 30) (hb : b ≤ 9) (hn : n ≤ 3) : WF (adE V a b n) := by
  obtain ⟨w1, w2, w3, w4, w5, w6, w7⟩ := hw
  unfold WF
  rw [adE_0, adE_10 (by omega), adE_10 (by omega), adE_10 (by omega)]
  refine ⟨by omega, w2, w3, w4, fun k hk => ?_, fun k hk => ?_, fun k hk => ?_⟩
  · rw [adE_o (by omega), adE_o (by omega), adE_o (by omega)]; exact w5 k hk
  · by_cases e : k = V 10 0
    · subst e
      rw [adE_4, adE_5, adE_6, adE_7]
      omega
    · rw [adE_e e (by omega), adE_e e (by omega), adE_e e (by omega), adE_e e (by omega)]
      exact w6 k (by omega)
  · rw [adE_o (by omega), adE_o (by omega)]; exact w7 k hk
theorem RV_adE {h : AH} {V : Vm} {a b n : Nat} (hw : WF V) (hr : RV (h.1 16 0) V) (h4 : V 10 0 < 4) : RV ((wI (wI (wI (wI (wI h 16 0 (28 + 4 * V 10 0 + 0) (nI a)) 16 0 (28 + 4 * V 10 0 + 1) (nI b)) 16 0 (28 + 4 * V 10 0 + 2) (nI n)) 16 0 (28 + 4 * V 10 0 + 3) (nI 0)) 16 0 0 (nI (V 10 0 + 1))).1 16 0) (adE V a b n) := by
  have h7 := hw.2.1
  intro t k hk
  show uI (uI (uI (uI (uI h.1 16 0 (28 + 4 * V 10 0 + 0) (nI a)) 16 0 (28 + 4 * V 10 0 + 1) (nI b)) 16 0 (28 + 4 * V 10 0 + 2) (nI n)) 16 0 (28 + 4 * V 10 0 + 3) (nI 0)) 16 0 0 (nI (V 10 0 + 1)) 16 0 (ro t k) = _
  have ht : t ≤ 10 := by
    rcases Nat.lt_or_ge 10 t with h | h
    · unfold vLim at hk; split at hk <;> omega
    · exact h
  have l0 := adE_0 V a b n
  have l1 : adE V a b n 10 1 = V 10 1 := adE_10 (by omega)
  have go : k < vLim V t → (t = 10 → k ≠ 0) → uI (uI (uI (uI (uI h.1 16 0 (28 + 4 * V 10 0 + 0) (nI a)) 16 0 (28 + 4 * V 10 0 + 1) (nI b)) 16 0 (28 + 4 * V 10 0 + 2) (nI n)) 16 0 (28 + 4 * V 10 0 + 3) (nI 0)) 16 0 0 (nI (V 10 0 + 1)) 16 0 (ro t k) = nI (adE V a b n t k) := by
    intro hk2 hz
    have e := hr t k hk2
    have n0 : ro t k ≠ 0 ∧ ro t k ≠ 28 + 4 * V 10 0 + 0 ∧ ro t k ≠ 28 + 4 * V 10 0 + 1 ∧ ro t k ≠ 28 + 4 * V 10 0 + 2 ∧ ro t k ≠ 28 + 4 * V 10 0 + 3 ∧ ((t < 4 ∨ t = 8 ∨ t = 9) ∨ (t = 10 ∧ k ≠ 0) ∨ (t ≠ 10 ∧ k ≠ V 10 0)) := by
      match t, ht with
      | 0, _ => clear e hk; simp only [ro, vLim] at hk2 ⊢; omega
      | 1, _ => clear e hk; simp only [ro, vLim] at hk2 ⊢; omega
      | 2, _ => clear e hk; simp only [ro, vLim] at hk2 ⊢; omega
      | 3, _ => clear e hk; simp only [ro, vLim] at hk2 ⊢; omega
      | 4, _ => clear e hk; simp only [ro, vLim] at hk2 ⊢; omega
      | 5, _ => clear e hk; simp only [ro, vLim] at hk2 ⊢; omega
      | 6, _ => clear e hk; simp only [ro, vLim] at hk2 ⊢; omega
      | 7, _ => clear e hk; simp only [ro, vLim] at hk2 ⊢; omega
      | 8, _ =>
        clear e hk
        simp only [vLim] at hk2
        simp only [ro]
        refine ⟨by omega, by omega, by omega, by omega, by omega, ?_⟩
        simp
      | 9, _ =>
        clear e hk
        simp only [vLim] at hk2
        simp only [ro]
        refine ⟨by omega, by omega, by omega, by omega, by omega, ?_⟩
        simp
      | 10, _ =>
        clear e hk
        have hz := hz rfl
        simp only [vLim] at hk2
        simp only [ro]
        refine ⟨by omega, by omega, by omega, by omega, by omega, ?_⟩
        simp [hz]
    rw [uI_ni n0.1, uI_ni n0.2.2.2.2.1, uI_ni n0.2.2.2.1, uI_ni n0.2.2.1, uI_ni n0.2.1, e]
    rcases n0.2.2.2.2.2 with z | ⟨rfl, z⟩ | ⟨z, z2⟩
    · rw [adE_o z]
    · rw [adE_10 z]
    · rw [adE_e z2 z]
  match t, ht with
  | 0, _ => exact go (by simp only [vLim] at hk ⊢; omega) (by omega)
  | 1, _ => exact go (by simp only [vLim] at hk ⊢; omega) (by omega)
  | 2, _ => exact go (by simp only [vLim] at hk ⊢; omega) (by omega)
  | 3, _ => exact go (by simp only [vLim] at hk ⊢; omega) (by omega)
  | 4, _ =>
    simp only [vLim, l0] at hk
    by_cases e : k = V 10 0
    · subst e
      simp only [ro]
      rw [uI_ni (by omega), uI_ni (by omega), uI_ni (by omega), uI_ni (by omega), uI_at, adE_4]
    · exact go (by simp only [vLim]; omega) (by omega)
  | 5, _ =>
    simp only [vLim, l0] at hk
    by_cases e : k = V 10 0
    · subst e
      simp only [ro]
      rw [uI_ni (by omega), uI_ni (by omega), uI_ni (by omega), uI_at, adE_5]
    · exact go (by simp only [vLim]; omega) (by omega)
  | 6, _ =>
    simp only [vLim, l0] at hk
    by_cases e : k = V 10 0
    · subst e
      simp only [ro]
      rw [uI_ni (by omega), uI_ni (by omega), uI_at, adE_6]
    · exact go (by simp only [vLim]; omega) (by omega)
  | 7, _ =>
    simp only [vLim, l0] at hk
    by_cases e : k = V 10 0
    · subst e
      simp only [ro]
      rw [uI_ni (by omega), uI_at, adE_7]
    · exact go (by simp only [vLim]; omega) (by omega)
  | 8, _ => exact go (by simp only [vLim, l1] at hk ⊢; omega) (by omega)
  | 9, _ => exact go (by simp only [vLim, l1] at hk ⊢; omega) (by omega)
  | 10, _ =>
    by_cases e : k = 0
    · subst e
      simp only [ro]
      rw [uI_at, l0]
    · exact go hk (fun _ => e)
/-- what a statement makes of a valley, if it can be done -/
def isD (V : Vm) (c : Int32) (l : Nat → Nat) : Option Vm := if c = nI 99 then (if l 0 < 8 then some (uV (uV (uV V 0 (l 0) (l 1)) 1 (l 0) (l 2)) 2 (l 0) (l 3)) else none) else if c = nI 101 then (if (1 ≤ l 0 ∧ l 0 ≤ 30) ∧ l 2 < 4 ∧ V 10 0 < 4 then some (adE V (l 0) (l 1) (l 2)) else none) else if c = nI 115 then (if l 0 < 8 ∧ V 10 1 < 7 then some (adS V (l 0) (l 1)) else none) else if c = nI 100 then (if l 0 ≤ 1 then some (uV V 10 3 (l 0)) else none) else if c = nI 104 then (if 1 ≤ l 0 ∧ l 0 ≤ 60 then some (wai V (l 0)) else none) else (if l 0 < V 10 1 ∧ l 1 < 8 ∧ l 1 ≤ vFl V (l 0) then some (thr V (l 0) (l 1)) else none)
/-- the numbers of a statement, each as long as its letter wants -/
def lim (gs : List Nat) (l : Nat → Nat) : Prop := ∀ j, j < gs.length → l j ≤ if gs.getD j 0 = 2 then 99 else 9
theorem WF_isD {V U : Vm} {c : Int32} {l : Nat → Nat} (hw : WF V) (hg : grp c ≠ []) (hl : lim (grp c) l) (e : isD V c l = some U) : WF U := by
  unfold isD at e
  split at e
  · rename_i q
    subst q
    have a1 := hl 1 (by decide)
    have a2 := hl 2 (by decide)
    have a3 := hl 3 (by decide)
    rw [if_neg (by decide)] at a1 a2 a3
    split at e
    · cases e
      refine WF_u (WF_u (WF_u hw (by omega) ?_ ?_ ?_ ?_ ?_ ?_) (by omega) ?_ ?_ ?_ ?_ ?_ ?_) (by omega) ?_ ?_ ?_ ?_ ?_ ?_ <;> (intro _; omega)
    · cases e
  split at e
  · rename_i q
    subst q
    have a1 := hl 1 (by decide)
    rw [if_neg (by decide)] at a1
    split at e
    · rename_i z
      cases e
      exact WF_adE hw z.2.2 z.1.2 a1 (by omega)
    · cases e
  split at e
  · rename_i q
    subst q
    have a1 := hl 1 (by decide)
    rw [if_neg (by decide)] at a1
    split at e
    · rename_i z
      cases e
      exact WF_add hw z.2 (by omega) a1
    · cases e
  split at e
  · split at e
    · rename_i z
      cases e
      exact WF_dr hw z
    · cases e
  split at e
  · split at e
    · cases e
      exact WF_wai hw
    · cases e
  · split at e
    · rename_i z
      cases e
      exact WF_thr hw z.2.1
    · cases e
def S_X11_isDone (c : Int32) (h : AH) (K : Int32 → AH → Prop) : Prop := ∃ V l, RV (h.1 16 0) V ∧ WF V ∧ grp c ≠ [] ∧ lim (grp c) l ∧ (∀ j, j < (grp c).length → h.1 19 0 j = nI (l j)) ∧ ∀ h', only 16 0 h h' → (∀ U, isD V c l = some U → RV (h'.1 16 0) U → K (nI 1) h') ∧ (isD V c l = none → K (nI 0) h')
def T_X11_isDone : List AV → AH → (Int32 → AH → Prop) → Prop := fun as h K => match as with
  | [.inr (.inr (.inl q0)), .inl q1] => tif (Nat.beq q0.1 15 && Nat.beq q0.2 0) (S_X11_isDone q1 h K)
  | _ => False

def M_X11_isDone : MI := (RX11, cX11_isDone, 5, [(0, .aload_n 0, []), (1, .getfield 25, []), (4, .iconst 0, []), (5, .iaload, []), (6, .istore_n 2, []), (7, .aload_n 0, []), (8, .getfield 25, []), (11, .iconst 1, []), (12, .iaload, []), (13, .istore_n 3, []), (14, .iload_n 1, []), (15, .lookupswitch 260 #[(99, 49), (100, 220), (101, 95), (104, 238), (115, 193)], [275, 64, 235, 110, 253, 208]), (64, .iload_n 2, []), (65, .invokestatic 120, []), (68, .ifCond .ne 5, [73]), (71, .iconst 0, []), (72, .ireturn, []), (73, .iconst 0, []), (74, .istore 4, []), (76, .iload 4, []), (78, .iconst 3, []), (79, .if_icmp .ge 29, [108]), (82, .aload_n 0, []), (83, .getfield 9, []), (86, .iload_n 2, []), (87, .iload 4, []), (89, .invokestatic 64, []), (92, .aload_n 0, []), (93, .getfield 25, []), (96, .iconst 1, []), (97, .iload 4, []), (99, .iadd, []), (100, .iaload, []), (101, .iastore, []), (102, .iinc 4 1, []), (105, .goto (-29), [76]), (108, .iconst 1, []), (109, .ireturn, []), (110, .iload_n 2, []), (111, .iconst 1, []), (112, .bipush 30, []), (114, .invokestatic 53, []), (117, .ifCond .eq 23, [140]), (120, .aload_n 0, []), (121, .getfield 25, []), (124, .iconst 2, []), (125, .iaload, []), (126, .iconst 4, []), (127, .if_icmp .ge 13, [140]), (130, .aload_n 0, []), (131, .getfield 9, []), (134, .iconst 0, []), (135, .iaload, []), (136, .iconst 4, []), (137, .if_icmp .ne 5, [142]), (140, .iconst 0, []), (141, .ireturn, []), (142, .iconst 0, []), (143, .istore 4, []), (145, .iload 4, []), (147, .iconst 3, []), (148, .if_icmp .ge 32, [180]), (151, .aload_n 0, []), (152, .getfield 9, []), (155, .aload_n 0, []), (156, .getfield 9, []), (159, .iconst 0, []), (160, .iaload, []), (161, .iload 4, []), (163, .invokestatic 75, []), (166, .aload_n 0, []), (167, .getfield 25, []), (170, .iload 4, []), (172, .iaload, []), (173, .iastore, []), (174, .iinc 4 1, []), (177, .goto (-32), [145]), (180, .aload_n 0, []), (181, .getfield 9, []), (184, .aload_n 0, []), (185, .getfield 9, []), (188, .iconst 0, []), (189, .iaload, []), (190, .iconst 3, []), (191, .invokestatic 75, []), (194, .iconst 0, []), (195, .iastore, []), (196, .aload_n 0, []), (197, .getfield 9, []), (200, .iconst 0, []), (201, .dup2, []), (202, .iaload, []), (203, .iconst 1, []), (204, .iadd, []), (205, .iastore, []), (206, .iconst 1, []), (207, .ireturn, []), (208, .iload_n 2, []), (209, .bipush 8, []), (211, .if_icmp .ge 14, [225]), (214, .aload_n 0, []), (215, .getfield 9, []), (218, .iconst 1, []), (219, .iaload, []), (220, .bipush 7, []), (222, .if_icmp .ne 5, [227]), (225, .iconst 0, []), (226, .ireturn, []), (227, .aload_n 0, []), (228, .iload_n 2, []), (229, .iload_n 3, []), (230, .invokevirtual 124, []), (233, .iconst 1, []), (234, .ireturn, []), (235, .aload_n 0, []), (236, .getfield 9, []), (239, .iconst 3, []), (240, .iload_n 2, []), (241, .iastore, []), (242, .iload_n 2, []), (243, .iconst 1, []), (244, .if_icmp .gt 7, [251]), (247, .iconst 1, []), (248, .goto 4, [252]), (251, .iconst 0, []), (252, .ireturn, []), (253, .iload_n 2, []), (254, .iconst 1, []), (255, .bipush 60, []), (257, .invokestatic 53, []), (260, .ifCond .ne 5, [265]), (263, .iconst 0, []), (264, .ireturn, []), (265, .aload_n 0, []), (266, .getfield 9, []), (269, .iload_n 2, []), (270, .invokestatic 128, []), (273, .iconst 1, []), (274, .ireturn, []), (275, .aload_n 0, []), (276, .iload_n 2, []), (277, .invokevirtual 132, []), (280, .ifCond .eq 22, [302]), (283, .iload_n 3, []), (284, .invokestatic 120, []), (287, .ifCond .eq 15, [302]), (290, .iload_n 3, []), (291, .aload_n 0, []), (292, .getfield 9, []), (295, .iload_n 2, []), (296, .invokestatic 135, []), (299, .if_icmp .le 5, [304]), (302, .iconst 0, []), (303, .ireturn, []), (304, .aload_n 0, []), (305, .getfield 9, []), (308, .iload_n 2, []), (309, .iload_n 3, []), (310, .invokestatic 138, []), (313, .istore 4, []), (315, .iconst 1, []), (316, .ireturn, [])], [(25, (15, 9, 1, 19, 0)), (9, (15, 0, 1, 16, 0))], [], [], [(361, (1, 2, 42, 0, 0, .inl T_X11_isCell)), (193, (2, 1, 21, 0, 0, .inl T_X11_atCell)), (160, (3, 1, 22, 0, 0, .inl T_X11_isIn)), (226, (2, 1, 21, 0, 0, .inl T_X11_atEagle)), (372, (3, 1, 22, 0, 0, .inr (.inl T_X11_addsSheep))), (385, (2, 3, 65, 0, 0, .inr (.inl T_X11_waitIn))), (396, (2, 2, 43, 0, 0, .inl T_X11_isSheep)), (406, (2, 2, 42, 0, 0, .inl T_X11_flies)), (415, (3, 5, 116, 0, 0, .inl T_X11_throwIn))], 5, 116, 0, 0)
theorem ok_X11_isDone : MOK M_X11_isDone := ⟨by decide +kernel, List.forall_mem_cons.mpr ⟨fl_RX11_25, List.forall_mem_cons.mpr ⟨fl_RX11_9, fun _ h => absurd h List.not_mem_nil⟩⟩, fun _ h => absurd h List.not_mem_nil, fun _ h => absurd h List.not_mem_nil, List.forall_mem_cons.mpr ⟨⟨Nat.le_of_ble_eq_true rfl, Nat.le_of_ble_eq_true rfl, cr_RX11_361⟩, List.forall_mem_cons.mpr ⟨⟨Nat.le_of_ble_eq_true rfl, Nat.le_of_ble_eq_true rfl, cr_RX11_193⟩, List.forall_mem_cons.mpr ⟨⟨Nat.le_of_ble_eq_true rfl, Nat.le_of_ble_eq_true rfl, cr_RX11_160⟩, List.forall_mem_cons.mpr ⟨⟨Nat.le_of_ble_eq_true rfl, Nat.le_of_ble_eq_true rfl, cr_RX11_226⟩, List.forall_mem_cons.mpr ⟨⟨Nat.le_of_ble_eq_true rfl, Nat.le_of_ble_eq_true rfl, cr_RX11_372⟩, List.forall_mem_cons.mpr ⟨⟨Nat.le_of_ble_eq_true rfl, Nat.le_of_ble_eq_true rfl, cr_RX11_385⟩, List.forall_mem_cons.mpr ⟨⟨Nat.le_of_ble_eq_true rfl, Nat.le_of_ble_eq_true rfl, cr_RX11_396⟩, List.forall_mem_cons.mpr ⟨⟨Nat.le_of_ble_eq_true rfl, Nat.le_of_ble_eq_true rfl, cr_RX11_406⟩, List.forall_mem_cons.mpr ⟨⟨Nat.le_of_ble_eq_true rfl, Nat.le_of_ble_eq_true rfl, cr_RX11_415⟩, fun _ h => absurd h List.not_mem_nil⟩⟩⟩⟩⟩⟩⟩⟩⟩⟩
set_option maxRecDepth 100000 in
theorem vc_X11_isDone {K : Int32 → AH → Prop} {h : AH} (p1 : Int32) (H : inR (nI 0) 4 ∧ inR (nI 1) 4 ∧ (p1 = iI 99 → S_X11_isCell (h.1 19 0 (nI 0).toNatClampNeg) h (fun x2 h1 => ((¬ x2 = 0) → AW M_X11_isDone (.inl (fun x u => (x = 0 ∨ x = 1) ∧ K x u)) 76 [some (aR 15 0), none, some (aI (h.1 19 0 (nI 0).toNatClampNeg)), none, some (aI (nI 0))] [] h1 0 0) ∧ (¬ (¬ x2 = 0) → (((nI 0) = 0 ∨ (nI 0) = 1) ∧ K (nI 0) h1)))) ∧ (¬ p1 = iI 99 → (p1 = iI 100 → inR (nI 3) 62 ∧ (((nI 1) < (h.1 19 0 (nI 0).toNatClampNeg)) → (((nI 0) = 0 ∨ (nI 0) = 1) ∧ K (nI 0) (wI h 16 0 (nI 3).toNatClampNeg (h.1 19 0 (nI 0).toNatClampNeg)))) ∧ (¬ ((nI 1) < (h.1 19 0 (nI 0).toNatClampNeg)) → (((nI 1) = 0 ∨ (nI 1) = 1) ∧ K (nI 1) (wI h 16 0 (nI 3).toNatClampNeg (h.1 19 0 (nI 0).toNatClampNeg))))) ∧ (¬ p1 = iI 100 → (p1 = iI 101 → S_X11_isIn (h.1 19 0 (nI 0).toNatClampNeg) (nI 1) (nI 30) h (fun x4 h3 => ((x4 = 0) → (((nI 0) = 0 ∨ (nI 0) = 1) ∧ K (nI 0) h3)) ∧ (¬ (x4 = 0) → inR (nI 2) 4 ∧ (((nI 4) ≤ (h3.1 19 0 (nI 2).toNatClampNeg)) → (((nI 0) = 0 ∨ (nI 0) = 1) ∧ K (nI 0) h3)) ∧ (¬ ((nI 4) ≤ (h3.1 19 0 (nI 2).toNatClampNeg)) → inR (nI 0) 62 ∧ ((¬ (h3.1 16 0 (nI 0).toNatClampNeg) = (nI 4)) → AW M_X11_isDone (.inl (fun x u => (x = 0 ∨ x = 1) ∧ K x u)) 145 [some (aR 15 0), none, none, none, some (aI (nI 0))] [] h3 0 0) ∧ (¬ (¬ (h3.1 16 0 (nI 0).toNatClampNeg) = (nI 4)) → (((nI 0) = 0 ∨ (nI 0) = 1) ∧ K (nI 0) h3)))))) ∧ (¬ p1 = iI 101 → (p1 = iI 104 → S_X11_isIn (h.1 19 0 (nI 0).toNatClampNeg) (nI 1) (nI 60) h (fun x6 h5 => ((¬ x6 = 0) → S_X11_waitIn 0 (h.1 19 0 (nI 0).toNatClampNeg) h5 (fun h7 => (((nI 1) = 0 ∨ (nI 1) = 1) ∧ K (nI 1) h7))) ∧ (¬ (¬ x6 = 0) → (((nI 0) = 0 ∨ (nI 0) = 1) ∧ K (nI 0) h5)))) ∧ (¬ p1 = iI 104 → (p1 = iI 115 → (((nI 8) ≤ (h.1 19 0 (nI 0).toNatClampNeg)) → (((nI 0) = 0 ∨ (nI 0) = 1) ∧ K (nI 0) h)) ∧ (¬ ((nI 8) ≤ (h.1 19 0 (nI 0).toNatClampNeg)) → inR (nI 1) 62 ∧ ((¬ (h.1 16 0 (nI 1).toNatClampNeg) = (nI 7)) → S_X11_addsSheep (h.1 19 0 (nI 0).toNatClampNeg) (h.1 19 0 (nI 1).toNatClampNeg) h (fun h8 => (((nI 1) = 0 ∨ (nI 1) = 1) ∧ K (nI 1) h8))) ∧ (¬ (¬ (h.1 16 0 (nI 1).toNatClampNeg) = (nI 7)) → (((nI 0) = 0 ∨ (nI 0) = 1) ∧ K (nI 0) h)))) ∧ (¬ p1 = iI 115 → S_X11_isSheep (h.1 19 0 (nI 0).toNatClampNeg) h (fun x10 h9 => ((x10 = 0) → (((nI 0) = 0 ∨ (nI 0) = 1) ∧ K (nI 0) h9)) ∧ (¬ (x10 = 0) → S_X11_isCell (h.1 19 0 (nI 1).toNatClampNeg) h9 (fun x12 h11 => ((x12 = 0) → (((nI 0) = 0 ∨ (nI 0) = 1) ∧ K (nI 0) h11)) ∧ (¬ (x12 = 0) → S_X11_flies 0 (h.1 19 0 (nI 0).toNatClampNeg) h11 (fun x14 h13 => (((h.1 19 0 (nI 1).toNatClampNeg) ≤ x14) → S_X11_throwIn 0 (h.1 19 0 (nI 0).toNatClampNeg) (h.1 19 0 (nI 1).toNatClampNeg) h13 (fun x16 h15 => (((nI 1) = 0 ∨ (nI 1) = 1) ∧ K (nI 1) h15))) ∧ (¬ ((h.1 19 0 (nI 1).toNatClampNeg) ≤ x14) → (((nI 0) = 0 ∨ (nI 0) = 1) ∧ K (nI 0) h13))))))))))))) : AW M_X11_isDone (.inl (fun x u => (x = 0 ∨ x = 1) ∧ K x u)) 0 [some (aR 15 0), some (aI p1), none, none, none] [] h 0 0 := AW_go (cuts := [(76, [true, false, true, false, true]), (145, [true, false, false, false, true])]) ok_X11_isDone 400 H
set_option maxRecDepth 100000 in
theorem vc_X11_isDone_76 {K : Int32 → AH → Prop} {h : AH}  (l2 : Int32) (l4 : Int32) (H : (((nI 3) ≤ l4) → (((nI 1) = 0 ∨ (nI 1) = 1) ∧ K (nI 1) h)) ∧ (¬ ((nI 3) ≤ l4) → S_X11_atCell l2 l4 h (fun x2 h1 => inR ((nI 1) + l4) 4 ∧ inR x2 62 ∧ AW M_X11_isDone (.inl (fun x u => (x = 0 ∨ x = 1) ∧ K x u)) 76 [some (aR 15 0), none, some (aI l2), none, some (aI (l4 + (nI 1)))] [] (wI h1 16 0 x2.toNatClampNeg (h1.1 19 0 ((nI 1) + l4).toNatClampNeg)) 0 0))) : AW M_X11_isDone (.inl (fun x u => (x = 0 ∨ x = 1) ∧ K x u)) 76 [some (aR 15 0), none, some (aI l2), none, some (aI l4)] [] h 0 0 := AW_go (cuts := [(76, [true, false, true, false, true]), (145, [true, false, false, false, true])]) ok_X11_isDone 400 H
set_option maxRecDepth 100000 in
theorem vc_X11_isDone_145 {K : Int32 → AH → Prop} {h : AH}  (l4 : Int32) (H : (((nI 3) ≤ l4) → inR (nI 0) 62 ∧ S_X11_atEagle (h.1 16 0 (nI 0).toNatClampNeg) (nI 3) h (fun x2 h1 => inR x2 62 ∧ inR (nI 0) 62 ∧ inR (nI 0) 62 ∧ (((nI 1) = 0 ∨ (nI 1) = 1) ∧ K (nI 1) (wI (wI h1 16 0 x2.toNatClampNeg (nI 0)) 16 0 (nI 0).toNatClampNeg (((wI h1 16 0 x2.toNatClampNeg (nI 0)).1 16 0 (nI 0).toNatClampNeg) + (nI 1)))))) ∧ (¬ ((nI 3) ≤ l4) → inR (nI 0) 62 ∧ S_X11_atEagle (h.1 16 0 (nI 0).toNatClampNeg) l4 h (fun x4 h3 => inR l4 4 ∧ inR x4 62 ∧ AW M_X11_isDone (.inl (fun x u => (x = 0 ∨ x = 1) ∧ K x u)) 145 [some (aR 15 0), none, none, none, some (aI (l4 + (nI 1)))] [] (wI h3 16 0 x4.toNatClampNeg (h3.1 19 0 l4.toNatClampNeg)) 0 0))) : AW M_X11_isDone (.inl (fun x u => (x = 0 ∨ x = 1) ∧ K x u)) 145 [some (aR 15 0), none, none, none, some (aI l4)] [] h 0 0 := AW_go (cuts := [(76, [true, false, true, false, true]), (145, [true, false, false, false, true])]) ok_X11_isDone 400 H

theorem dn_c_X11_isDone {V : Vm} {l : Nat → Nat} {h : AH} {K : Int32 → AH → Prop} (hr : RV (h.1 16 0) V) (hw : WF V) (h0 : l 0 < 8) (l1 : l 1 ≤ 9) (l2 : l 2 ≤ 9) (l3 : l 3 ≤ 9) (e1 : h.1 19 0 1 = nI (l 1)) (e2 : h.1 19 0 2 = nI (l 2)) (e3 : h.1 19 0 3 = nI (l 3)) (k : ∀ h', only 16 0 h h' → RV (h'.1 16 0) (uV (uV (uV V 0 (l 0) (l 1)) 1 (l 0) (l 2)) 2 (l 0) (l 3)) → K (nI 1) h') : AW M_X11_isDone (.inl (fun x u => (x = 0 ∨ x = 1) ∧ K x u)) 76 [some (aR 15 0), none, some (aI (nI (l 0))), none, some (aI (nI 0))] [] h 0 0 := by
  refine vc_X11_isDone_76 (nI (l 0)) (nI 0) ⟨fun q => absurd q (by decide), fun _ => ?_⟩
  simp (disch := omega) only [S_X11_atCell, pk_mul, nI_add, n_inT, n_cl, true_and, Nat.add_zero, Nat.reduceAdd]
  refine vc_X11_isDone_76 (nI (l 0)) (nI 1) ⟨fun q => absurd q (by decide), fun _ => ?_⟩
  simp (disch := omega) only [S_X11_atCell, pk_mul, nI_add, n_inT, n_cl, true_and, Nat.reduceAdd]
  refine vc_X11_isDone_76 (nI (l 0)) (nI 2) ⟨fun q => absurd q (by decide), fun _ => ?_⟩
  simp (disch := omega) only [S_X11_atCell, pk_mul, nI_add, n_inT, n_cl, true_and, Nat.reduceAdd]
  refine vc_X11_isDone_76 (nI (l 0)) (nI 3) ⟨fun _ => ⟨Or.inr (by decide), ?_⟩, fun q => absurd (by decide) q⟩
  have w1 := RV_set hw hr (t := 0) (i := l 0) (x := l 1) (by omega) h0
  have f1 : WF (uV V 0 (l 0) (l 1)) := by refine WF_u hw ?_ ?_ ?_ ?_ ?_ ?_ ?_ <;> first | omega | (intro _; omega)
  have w2 := RV_set f1 w1 (t := 1) (i := l 0) (x := l 2) (by omega) h0
  have f2 : WF (uV (uV V 0 (l 0) (l 1)) 1 (l 0) (l 2)) := by refine WF_u f1 ?_ ?_ ?_ ?_ ?_ ?_ ?_ <;> first | omega | (intro _; omega)
  have w3 := RV_set f2 w2 (t := 2) (i := l 0) (x := l 3) (by omega) h0
  rw [uI_nt (show (19 : Nat) ≠ 16 by decide), uI_nt (show (19 : Nat) ≠ 16 by decide), uI_nt (show (19 : Nat) ≠ 16 by decide), e1, e2, e3]
  exact k _ (only_tr (only_tr (only_wI ..) (only_wI ..)) (only_wI ..)) w3
theorem dn_e_X11_isDone {V : Vm} {l : Nat → Nat} {h : AH} {K : Int32 → AH → Prop} (hr : RV (h.1 16 0) V) (hw : WF V) (h4 : V 10 0 < 4) (e0 : h.1 19 0 0 = nI (l 0)) (e1 : h.1 19 0 1 = nI (l 1)) (e2 : h.1 19 0 2 = nI (l 2)) (k : ∀ h', only 16 0 h h' → RV (h'.1 16 0) (adE V (l 0) (l 1) (l 2)) → K (nI 1) h') : AW M_X11_isDone (.inl (fun x u => (x = 0 ∨ x = 1) ∧ K x u)) 145 [some (aR 15 0), none, none, none, some (aI (nI 0))] [] h 0 0 := by
  have z0 : h.1 16 0 0 = nI (V 10 0) := (RVs hr).2.2.2.2.2.2.2.2.2.2.1
  have w := RV_adE (a := l 0) (b := l 1) (n := l 2) hw hr h4
  refine vc_X11_isDone_145 (nI 0) ⟨fun q => absurd q (by decide), fun _ => ?_⟩
  simp (disch := omega) only [S_X11_atEagle, z0, e0, pk_mul, nI_add, n_inT, n_cl, true_and, Nat.reduceAdd]
  refine vc_X11_isDone_145 (nI 1) ⟨fun q => absurd q (by decide), fun _ => ?_⟩
  simp (disch := omega) only [S_X11_atEagle, uI_ni, uI_nt, z0, e1, pk_mul, nI_add, n_inT, n_cl, true_and, Nat.reduceAdd]
  refine vc_X11_isDone_145 (nI 2) ⟨fun q => absurd q (by decide), fun _ => ?_⟩
  simp (disch := omega) only [S_X11_atEagle, uI_ni, uI_nt, z0, e2, pk_mul, nI_add, n_inT, n_cl, true_and, Nat.reduceAdd]
  refine vc_X11_isDone_145 (nI 3) ⟨fun _ => ?_, fun q => absurd (by decide) q⟩
  simp (disch := omega) only [S_X11_atEagle, uI_ni, uI_nt, z0, pk_mul, nI_add, n_inT, n_cl, true_and, Nat.reduceAdd]
  exact ⟨Or.inr (by decide), k _ (only_tr (only_tr (only_tr (only_tr (only_wI ..) (only_wI ..)) (only_wI ..)) (only_wI ..)) (only_wI ..)) w⟩
theorem grp_116 {c : Int32} (hg : grp c ≠ []) (h1 : c ≠ nI 99) (h2 : c ≠ nI 101) (h3 : c ≠ nI 115) (h4 : c ≠ nI 100) (h5 : c ≠ nI 104) : c = nI 116 := by
  unfold grp at hg
  rw [if_neg h1, if_neg h2, if_neg h4, if_neg h5] at hg
  split at hg
  · rename_i z
    exact z.resolve_left h3
  · exact absurd rfl hg
theorem in1_iff {k n : Nat} (hk : k < 1000) (hn : n < 1000) : (nI 1 ≤ nI k ∧ nI k ≤ nI n) ↔ (1 ≤ k ∧ k ≤ n) := by rw [n_le (by omega) (by omega), n_le (by omega) (by omega)]
theorem in0_iff {k n : Nat} (hk : k < 1000) (hn : n < 1000) : (nI 0 ≤ nI k ∧ nI k ≤ nI n) ↔ k ≤ n := by rw [n_le (by omega) (by omega), n_le (by omega) (by omega)]; omega
theorem inL_iff {k n : Nat} (hk : k < 1000) (hn : n < 1000) : (nI 0 ≤ nI k ∧ nI k ≤ nI n - nI 1) ↔ k < n := by
  rw [in_iff (by omega)]
  constructor
  · rintro ⟨j, hj, e⟩
    rw [(n_eq (by omega) (by omega)).mp e]
    exact hj
  · exact fun q => ⟨k, q, rfl⟩
theorem snd_X11_isDone (c : Int32) {h : AH} {K : Int32 → AH → Prop} (k : S_X11_isDone c h K) : AW M_X11_isDone (.inl (fun x u => (x = 0 ∨ x = 1) ∧ K x u)) 0 [some (aR 15 0), some (aI c), none, none, none] [] h 0 0 := by
  obtain ⟨V, l, hr, hw, hg, hl, he, k⟩ := k
  have h4 := hw.1
  have h7 := hw.2.1
  have z0 : h.1 16 0 0 = nI (V 10 0) := (RVs hr).2.2.2.2.2.2.2.2.2.2.1
  have z1 : h.1 16 0 1 = nI (V 10 1) := (RVs hr).2.2.2.2.2.2.2.2.2.2.2.1
  refine vc_X11_isDone c ?_
  simp (disch := omega) only [n_inT, n_cl, true_and, show iI 99 = nI 99 by decide, show iI 100 = nI 100 by decide, show iI 101 = nI 101 by decide, show iI 104 = nI 104 by decide, show iI 115 = nI 115 by decide]
  have kn := fun q => (k h (only_rfl _ _ _)).2 q
  refine ⟨fun q => ?_, fun q1 => ⟨fun q => ?_, fun q2 => ⟨fun q => ?_, fun q3 => ⟨fun q => ?_, fun q4 => ⟨fun q => ?_, fun q5 => ?_⟩⟩⟩⟩⟩
  · subst q
    have a0 := hl 0 (by decide)
    have a1 := hl 1 (by decide)
    have a2 := hl 2 (by decide)
    have a3 := hl 3 (by decide)
    rw [if_neg (by decide)] at a0 a1 a2 a3
    have e0 := he 0 (by decide)
    have e1 := he 1 (by decide)
    have e2 := he 2 (by decide)
    have e3 := he 3 (by decide)
    rw [e0]
    unfold S_X11_isCell
    dsimp only
    simp (disch := omega) only [if10_eq, in0_iff]
    unfold isD at k kn
    rw [if_pos rfl] at kn
    by_cases z : l 0 < 8
    · refine ⟨fun _ => dn_c_X11_isDone hr hw z a1 a2 a3 e1 e2 e3 (fun h' o r => (k h' o).1 _ ?_ r), fun q => absurd (by omega) q⟩
      rw [if_pos rfl, if_pos z]
    · rw [if_neg z] at kn
      exact ⟨fun q => absurd (by omega) q, fun _ => ⟨Or.inl (by decide), kn rfl⟩⟩
  · subst q
    have a0 := hl 0 (by decide)
    rw [if_neg (by decide)] at a0
    have e0 := he 0 (by decide)
    rw [e0]
    simp (disch := omega) only [n_lt]
    have w := RV_set hw hr (t := 10) (i := 3) (x := l 0) (by omega) (show 3 < 4 by decide)
    have kk := k (wI h 16 0 3 (nI (l 0))) (only_wI ..)
    have ei : isD V (nI 100) l = if l 0 ≤ 1 then some (uV V 10 3 (l 0)) else none := by unfold isD; rw [if_neg (by decide), if_neg (by decide), if_neg (by decide), if_pos rfl]
    rw [ei] at kk
    by_cases z : l 0 ≤ 1
    · rw [if_pos z] at kk
      exact ⟨fun q => by omega, fun _ => ⟨Or.inr (by decide), kk.1 _ rfl w⟩⟩
    · rw [if_neg z] at kk
      exact ⟨fun _ => ⟨Or.inl (by decide), kk.2 rfl⟩, fun q => by omega⟩
  · subst q
    have a0 := hl 0 (by decide)
    have a1 := hl 1 (by decide)
    have a2 := hl 2 (by decide)
    rw [if_pos (by decide)] at a0
    rw [if_neg (by decide)] at a1 a2
    have e0 := he 0 (by decide)
    have e1 := he 1 (by decide)
    have e2 := he 2 (by decide)
    have ei : isD V (nI 101) l = if (1 ≤ l 0 ∧ l 0 ≤ 30) ∧ l 2 < 4 ∧ V 10 0 < 4 then some (adE V (l 0) (l 1) (l 2)) else none := by unfold isD; rw [if_neg (by decide), if_pos rfl]
    rw [ei] at k kn
    rw [e0]
    unfold S_X11_isIn
    dsimp only
    simp (disch := omega) only [if10_eq, in1_iff, e2, n_le, z0, n_eq]
    refine ⟨fun q => ⟨Or.inl (by decide), kn (if_neg (fun z => q z.1))⟩, fun q => ⟨fun q2 => ⟨Or.inl (by decide), kn (if_neg (fun z => by omega))⟩, fun q2 => ⟨fun q3 => ?_, fun q3 => ⟨Or.inl (by decide), kn (if_neg (fun z => by omega))⟩⟩⟩⟩
    exact dn_e_X11_isDone hr hw (by omega) e0 e1 e2 (fun h' o r => (k h' o).1 _ (if_pos ⟨Decidable.not_not.mp q, by omega, by omega⟩) r)
  · subst q
    have a0 := hl 0 (by decide)
    rw [if_pos (by decide)] at a0
    have e0 := he 0 (by decide)
    have ei : isD V (nI 104) l = if 1 ≤ l 0 ∧ l 0 ≤ 60 then some (wai V (l 0)) else none := by unfold isD; rw [if_neg (by decide), if_neg (by decide), if_neg (by decide), if_neg (by decide), if_pos rfl]
    rw [ei] at k kn
    rw [e0]
    unfold S_X11_isIn
    dsimp only
    simp (disch := omega) only [if10_eq, in1_iff]
    refine ⟨fun q => ⟨V, l 0, hr, hw, (Decidable.not_not.mp q).2, rfl, fun h' o r => ⟨Or.inr (by decide), (k h' o).1 _ (if_pos (Decidable.not_not.mp q)) r⟩⟩, fun q => ⟨Or.inl (by decide), kn (if_neg (fun z => q (fun y => y z)))⟩⟩
  · subst q
    have a0 := hl 0 (by decide)
    have a1 := hl 1 (by decide)
    rw [if_neg (by decide)] at a0 a1
    have e0 := he 0 (by decide)
    have e1 := he 1 (by decide)
    have ei : isD V (nI 115) l = if l 0 < 8 ∧ V 10 1 < 7 then some (adS V (l 0) (l 1)) else none := by unfold isD; rw [if_neg (by decide), if_neg (by decide), if_pos rfl]
    rw [ei] at k kn
    rw [e0, e1]
    simp (disch := omega) only [n_le, z1, n_eq]
    refine ⟨fun q => ⟨Or.inl (by decide), kn (if_neg (fun z => by omega))⟩, fun q => ⟨fun q2 => ?_, fun q2 => ⟨Or.inl (by decide), kn (if_neg (fun z => by omega))⟩⟩⟩
    exact ⟨V, l 0, l 1, hr, hw, by omega, rfl, rfl, fun h' o r => ⟨Or.inr (by decide), (k h' o).1 _ (if_pos ⟨by omega, by omega⟩) r⟩⟩
  · have e116 := grp_116 hg q1 q3 q5 q2 q4
    subst e116
    have a0 := hl 0 (by decide)
    have a1 := hl 1 (by decide)
    rw [if_neg (by decide)] at a0 a1
    have e0 := he 0 (by decide)
    have e1 := he 1 (by decide)
    have ei : isD V (nI 116) l = if l 0 < V 10 1 ∧ l 1 < 8 ∧ l 1 ≤ vFl V (l 0) then some (thr V (l 0) (l 1)) else none := by unfold isD; rw [if_neg (by decide), if_neg (by decide), if_neg (by decide), if_neg (by decide), if_neg (by decide)]
    rw [ei] at k kn
    rw [e0, e1]
    unfold S_X11_isSheep S_X11_isCell
    dsimp only
    rw [z1]
    simp (disch := omega) only [if10_eq, inL_iff, in0_iff]
    have hf : vFl V (l 0) ≤ 7 := fly_le _
    refine ⟨fun q => ⟨Or.inl (by decide), kn (if_neg (fun z => q z.1))⟩, fun q => ⟨fun q2 => ⟨Or.inl (by decide), kn (if_neg (fun z => by omega))⟩, fun q2 => ⟨V, l 0, ⟨hr, hw, by omega, rfl⟩, ?_⟩⟩⟩
    simp (disch := omega) only [n_le]
    refine ⟨fun q3 => ⟨V, l 0, l 1, ⟨hr, hw, by omega, rfl⟩, by omega, rfl, fun h' o r => ⟨Or.inr (by decide), (k h' o).1 _ (if_pos ⟨by omega, by omega, q3⟩) r⟩⟩, fun q3 => ⟨Or.inl (by decide), kn (if_neg (fun z => q3 z.2.2))⟩⟩
theorem tr_X11_isDone : ∀ (as : List AV) (h : AH) (K : Int32 → AH → Prop), T_X11_isDone as h K → ∃ (q : Nat) (r : List AV), as = aR 15 q :: r := by
  intro as h K hk
  match as, hk with
  | [.inr (.inr (.inl q0)), .inl q1], hk =>
    obtain ⟨hb, hk⟩ := tif_inv hk
    simp only [Bool.and_eq_true] at hb
    obtain ⟨e0, e1⟩ := hb
    obtain ⟨a0, b0⟩ := q0
    have f0 : a0 = 15 := Nat.eq_of_beq_eq_true e0
    subst f0
    have f1 : b0 = 0 := Nat.eq_of_beq_eq_true e1
    subst f1
    exact ⟨_, _, rfl⟩
theorem tw_X11_isDone : ∀ (as : List AV) (h : AH) (K : Int32 → AH → Prop), T_X11_isDone as h K → (ini as).length ≤ mNL M_X11_isDone ∧ AW M_X11_isDone (.inl (fun x u => (x = 0 ∨ x = 1) ∧ K x u)) 0 (initL (mNL M_X11_isDone) as) [] h 0 0 := by
  intro as h K hk
  match as, hk with
  | [.inr (.inr (.inl q0)), .inl q1], hk =>
    obtain ⟨hb, hk⟩ := tif_inv hk
    simp only [Bool.and_eq_true] at hb
    obtain ⟨e0, e1⟩ := hb
    obtain ⟨a0, b0⟩ := q0
    have f0 : a0 = 15 := Nat.eq_of_beq_eq_true e0
    subst f0
    have f1 : b0 = 0 := Nat.eq_of_beq_eq_true e1
    subst f1
    exact ⟨Nat.le_of_ble_eq_true rfl, snd_X11_isDone q1 hk⟩
theorem cr_RX11_456 : CR RX11 (kIns 456) (2, 6, 140, 0, 0, .inl T_X11_isDone) := crV_z (t := 15) (M := M_X11_isDone) (by decide) rfl (by decide) rfl (inG (i := 1019) (w := Cond.methodLink RX11 152 yX11_isDone) (by decide +kernel) rfl) (inG (i := 1021) (w := Cond.instanceMethod yX11_isDone) (by decide +kernel) rfl) (inG (i := 40) (w := Cond.initialized RX11) (by decide +kernel) rfl) (inG (i := 19) (w := Cond.selects RX11 yX11_isDone yX11_isDone) (by decide +kernel) rfl) (inG (i := 1022) (w := Cond.code yX11_isDone cX11_isDone 5 (some .boolean)) (by decide +kernel) rfl) ⟨by decide +kernel, by decide +kernel, by decide +kernel⟩ tr_X11_isDone tw_X11_isDone


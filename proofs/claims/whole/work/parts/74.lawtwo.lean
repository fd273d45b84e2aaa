/-! ===== element and toss in the law ===== -/
theorem LX_pre {G : GL} {p : Program} {s : State} {m : MethodId} {c : Code} {b L : Nat} {xs : Nat → Int32} {h : AH} {f : Nat → Int64} {H : Heap} {locs : List Loc} (hs : LSg G p s m c b L xs) (hW : LW G h f s H locs) : ∀ U : State, U.heap = H → s.WarmedH U.vm → (KG G U ∧ Wd0 G h U ∧ XG G U U.heap) ∧ OU G f U.heap ∧ va_K (G.1, G.2.1) classes [(gac G 23 0, .long)] U := by
  intro U hU hWm
  obtain ⟨hx, hb, hml, hown, hts, hX, hbl, hg, hK, hL, hXG, hKO, hO⟩ := hs
  obtain ⟨-, hKG, hWd⟩ := LW_pre hK hW [] U hU hWm
  refine ⟨⟨hKG, hWd, ?_⟩, by rw [hU]; exact hW.2.2.2.1, va_K.moved hWm.alike hKO⟩
  rw [hU]
  exact XG_warm hWm hXG (fun a ha _ => hW.2.2.2.2.2.2.1 a ha (Nat.not_le.mpr ha))
theorem ic_w22 {k : Nat} {V I : Vm} {S : Sm} {b : Nat} {h : AH} (v : Int32) (cP : CP V I S b h) (rP : RP V I S b h) (wP : BP k V I S b) : INV (k + 1) (wI h 15 0 22 v) := by
  have e : ∀ t p i, ¬ (t = 15 ∧ p = 0 ∧ i = 22) → (wI h 15 0 22 v).1 t p i = h.1 t p i := fun t p i z => if_neg z
  exact ⟨V, I, S, b, CP_e (fun t p i z => e t p i (by omega)) (fun _ _ _ _ => rfl) cP, RP_e (fun t p i z => e t p i (by omega)) rP, BP_up wP (Nat.le_succ k)⟩
set_option maxHeartbeats 4000000 in
theorem cs_41 {G : GL} {p : Program} {l : Launch} {e : Env} {s : State} {m : MethodId} {below : List Frame} {meth : Method} {c : Code} {b L : Nat} {xs : Nat → Int32} {Qf : State → Prop} {k : Nat} (hs : LSg G p s m c b L xs) (hfl : l.stackTraces = false) (hk : k < 512) (hi : 6 * k + 5 < L) (nx : LN G p l e s m below meth c b Qf (k + 1) (6 * k) 1725) : LN G p l e s m below meth c b Qf k (6 * k) 1700 := by
  intro h f H locs ls hI hW hl
  have hs9 := hs
  obtain ⟨hx, hb, hml, hown, hts, hX, hbl, hg, hK, hL, hXG, hKO, hO⟩ := hs9
  obtain ⟨V, I, S, b9, cP, rP, wP⟩ := hI
  have d1700 : decode cL_law 1700 = .ok (.aload_n 1, 1) := by decide +kernel
  have d1707 : decode cL_law 1707 = .ok (.invokevirtual 196, 3) := by decide +kernel
  have d1710 : decode cL_law 1710 = .ok (.aload_n 2, 1) := by decide +kernel
  have d1717 : decode cL_law 1717 = .ok (.invokevirtual 199, 3) := by decide +kernel
  have d1720 : decode cL_law 1720 = .ok (.if_icmp .eq 5, 3) := by decide +kernel
  have q1 : (60000 : Nat) ≤ room_1.cells := Nat.le_of_ble_eq_true rfl
  have q2 : (400000 : Nat) ≤ room_1.slots := Nat.le_of_ble_eq_true rfl
  have m3 : mMc M_X11_toss ≤ 0 := Nat.le_of_ble_eq_true rfl
  have m4 : mMs M_X11_toss ≤ 0 := Nat.le_of_ble_eq_true rfl
  refine lv_aload_n hx hb d1700 rfl (lv_at hl 2 rfl) ?_
  refine ld_args hs hW.2.2.2.2.2 hl 1 0 rfl rfl 0 [] 1 (by omega) (LAs_ok (by decide +kernel)) ?_
  refine va_calli (va_runV (As := [.int (xs (6 * k + 1))]) (rest := []) (C := RX10) (b := adr G 0 0) ⟨hx, hb, hml, hown, hts⟩ (c_toss l hfl G h S (xs (6 * k + 1)) cP.2.1 wP.2.2.1) (cwV 1 hts (goodG (fun w hw => ?_)) rfl rfl rfl ⟨rfl, by decide, by decide, by decide +kernel⟩ ⟨Nat.le_of_ble_eq_true rfl, Nat.le_of_ble_eq_true rfl⟩) ⟨xPc_blind G _ h, law_recv hK hW (t := 0) (p := 0) (C := RX10) rfl (by decide) rfl, fun U hU hWm => ⟨rfl, (LX_pre hs hW U hU hWm).1⟩⟩ rfl rfl hl.1 rfl (Nat.le_of_ble_eq_true rfl) d1707 ⟨by omega, by omega⟩) hW.2.2.2.2.2 (fun q _ z => (show s.heap.size ≤ q by rw [← hg]; exact z.1)) (fun q z => (show s.heap.size ≤ q by rw [← hg]; exact z.1)) (fun r u t H1 locs1 ht hvm hp hB hz hk1 hS1 => ?_)
  · simp only [wsV, List.mem_append, List.mem_cons, List.not_mem_nil, or_false] at hw
    rcases hw with (rfl | rfl | rfl | rfl) | rfl | hw
    · exact (inG (i := 772) (by decide +kernel) rfl)
    · exact (inG (i := 773) (by decide +kernel) rfl)
    · exact (inG (i := 774) (by decide +kernel) rfl)
    · exact (inG (i := 37) (by decide +kernel) rfl)
    · exact (inG (i := 775) (by decide +kernel) rfl)
    · exact hw
  · have hW1 := LW_next hW hB ht hz hk1 hS1
    refine lv_aload_n hx hb d1710 rfl (lv_at hl 3 rfl) ?_
    refine ld_args hs hW1.2.2.2.2.2 hl 1 0 rfl rfl 15 ([aI r].map (cv G)) 1 (by omega) (LAs_ok (by decide +kernel)) ?_
    refine lr_X11_toss l G p e room_1 s m #[Value.ref b] below meth c H1 locs1 _ _ Qf _ ls (ags 15 xs (6 * k) 1) [aI r] h f hx hb (by rw [hml]; exact hl.1.symm) hown hts (Nat.le_of_ble_eq_true rfl) (Nat.le_of_ble_eq_true rfl) (by omega) (by omega) hg hK hW1 (ags_ok h 15 xs (6 * k) 1 (by decide)) (ags_len 15 xs (6 * k) 1) (Nat.le_of_ble_eq_true rfl) d1717 (fun y h2 => y = r ∧ h2 = h) (show S_X11_toss (xs (6 * k + 1)) h (fun y h2 => y = r ∧ h2 = h) from ⟨S, rP.2.1, wP.2.2.1, hp.symm, rfl⟩) ?_
    intro y h2 H2 locs2 hy hW2
    obtain ⟨rfl, rfl⟩ := hy
    refine lv_icmp_eq (tgt := 1725) hx hb d1720 (by decide) (fun _ => ?_) (fun z => absurd rfl z)
    refine W.widen (k := 100 + 101 * (k + 1)) (n := 3000 + 706 * (k + 1)) (by omega) (by omega) ?_
    exact nx h2 f H2 locs2 ls ⟨V, I, S, b9, cP, rP, BP_up wP (Nat.le_succ k)⟩ hW2 hl
set_option maxHeartbeats 4000000 in
theorem cs_38 {G : GL} {p : Program} {l : Launch} {e : Env} {s : State} {m : MethodId} {below : List Frame} {meth : Method} {c : Code} {b L : Nat} {xs : Nat → Int32} {Qf : State → Prop} {k : Nat} (hs : LSg G p s m c b L xs) (hfl : l.stackTraces = false) (hk : k < 512) (hi : 6 * k + 5 < L) (nx : LN G p l e s m below meth c b Qf (k + 1) (6 * k) 1725) : LN G p l e s m below meth c b Qf k (6 * k) 1535 := by
  intro h f H locs ls hI hW hl
  have hs9 := hs
  obtain ⟨hx, hb, hml, hown, hts, hX, hbl, hg, hK, hL, hXG, hKO, hO⟩ := hs9
  obtain ⟨V, I, S, b9, cP, rP, wP⟩ := hI
  have d1535 : decode cL_law 1535 = .ok (.aload_n 1, 1) := by decide +kernel
  have d1548 : decode cL_law 1548 = .ok (.aload_n 3, 1) := by decide +kernel
  have d1549 : decode cL_law 1549 = .ok (.invokestatic 178, 3) := by decide +kernel
  have d1552 : decode cL_law 1552 = .ok (.istore 5, 2) := by decide +kernel
  have d1554 : decode cL_law 1554 = .ok (.aload_n 2, 1) := by decide +kernel
  have d1567 : decode cL_law 1567 = .ok (.invokevirtual 183, 3) := by decide +kernel
  have d1570 : decode cL_law 1570 = .ok (.lstore 6, 2) := by decide +kernel
  have d1572 : decode cL_law 1572 = .ok (.aload_n 2, 1) := by decide +kernel
  have d1573 : decode cL_law 1573 = .ok (.invokevirtual 184, 3) := by decide +kernel
  have d1576 : decode cL_law 1576 = .ok (.iload 5, 2) := by decide +kernel
  have d1578 : decode cL_law 1578 = .ok (.if_icmp .eq 5, 3) := by decide +kernel
  have d1583 : decode cL_law 1583 = .ok (.iload 5, 2) := by decide +kernel
  have d1585 : decode cL_law 1585 = .ok (.ifCond .ne 14, 3) := by decide +kernel
  have d1588 : decode cL_law 1588 = .ok (.aload_n 3, 1) := by decide +kernel
  have d1589 : decode cL_law 1589 = .ok (.iconst 0, 1) := by decide +kernel
  have d1590 : decode cL_law 1590 = .ok (.laload, 1) := by decide +kernel
  have d1591 : decode cL_law 1591 = .ok (.lload 6, 2) := by decide +kernel
  have d1593 : decode cL_law 1593 = .ok (.lcmp, 1) := by decide +kernel
  have d1594 : decode cL_law 1594 = .ok (.ifCond .eq 5, 3) := by decide +kernel
  have d1599 : decode cL_law 1599 = .ok (.goto 126, 3) := by decide +kernel
  have q1 : (60000 : Nat) ≤ room_1.cells := Nat.le_of_ble_eq_true rfl
  have q2 : (400000 : Nat) ≤ room_1.slots := Nat.le_of_ble_eq_true rfl
  have m3 : mMc M_X11_element ≤ 0 := Nat.le_of_ble_eq_true rfl
  have m4 : mMs M_X11_element ≤ 0 := Nat.le_of_ble_eq_true rfl
  have m5 : mMc M_X11_thrown ≤ 0 := Nat.le_of_ble_eq_true rfl
  have m6 : mMs M_X11_thrown ≤ 0 := Nat.le_of_ble_eq_true rfl
  refine lv_aload_n hx hb d1535 rfl (lv_at hl 2 rfl) ?_
  refine ld_args hs hW.2.2.2.2.2 hl 1 0 rfl rfl 0 [] 2 (by omega) (LAs_ok (by decide +kernel)) ?_
  refine lv_aload_n hx hb d1548 rfl (lv_at hl 4 rfl) ?_
  generalize ed : xs (6 * k + 1) = d
  generalize ei : xs (6 * k + 2) = i
  have est : ((ags 0 xs (6 * k) 2).map (cv G)).reverse ++ [] = [.int i, .int d, .ref (adr G 0 0)] := by rw [← ed, ← ei]; rfl
  rw [est]
  refine va_calli (vx_runSW (own := RL) (hh := [(0, 9, 12, 13), (0, 9, 16, 15)]) (As := [.ref (adr G 0 0), .int d, .int i, .ref (adr G 23 0)]) (rest := []) ⟨hx, hb, hml, hown, hts⟩ (c_Lel l hfl G h S d i f cP.2.1 wP.2.2.1) (vx_cwSW 4 hts (goodG (fun w hw => ?_)) rfl rfl rfl ⟨by decide, by decide, by decide +kernel⟩ ⟨Nat.le_of_ble_eq_true rfl, Nat.le_of_ble_eq_true rfl⟩) ⟨hPc_blind G d i h f, fun U hU hWm => ⟨rfl, LX_pre hs hW U hU hWm⟩⟩ rfl rfl hl.1 rfl (Nat.le_of_ble_eq_true rfl) d1549 ⟨by omega, by omega⟩) hW.2.2.2.2.2 (fun q _ z => z.elim (fun z => (show s.heap.size ≤ q by rw [← hg]; exact z.1)) (fun z => (show s.heap.size ≤ q by rw [z]; exact hO))) (fun q z => z.elim (fun z => (show s.heap.size ≤ q by rw [← hg]; exact z.1)) (fun z => (show s.heap.size ≤ q by rw [z]; exact hO))) (fun r v t H1 locs1 ht hvm hp hB hz hk1 hS1 => ?_)
  · simp only [va_wsS, List.mem_append, List.mem_cons, List.not_mem_nil, or_false] at hw
    rcases hw with (rfl | rfl | rfl) | rfl | hw
    · exact (inG (i := 900) (by decide +kernel) rfl)
    · exact (inG (i := 901) (by decide +kernel) rfl)
    · exact (inG (i := 36) (by decide +kernel) rfl)
    · exact (inG (i := 902) (by decide +kernel) rfl)
    · exact hw
  · have hW1 : LW G h v s H1 locs1 := ⟨hB.1.1, ht ▸ hB.1.2.1, hB.1.2.2, ht ▸ hB.2, gok_mono hW.2.2.2.2.1 hz, hS1⟩
    refine lv_istore (lv' := [(5, .int r), (4, .int (nI (6 * k))), (0, .ref b), (1, .ref (adr G 0 0)), (2, .ref (adr G 15 0)), (3, .ref (adr G 23 0))]) hx hb d1552 hl (by decide) rfl (fun ls hl => ?_)
    refine lv_aload_n hx hb d1554 rfl (lv_at hl 4 rfl) ?_
    refine ld_args hs hW1.2.2.2.2.2 hl 2 1 rfl rfl 15 [] 2 (by omega) (LAs_ok (by decide +kernel)) ?_
    refine lr_X11_element l G p e room_1 s m #[Value.ref b] below meth c H1 locs1 _ _ Qf _ ls (ags 15 xs (6 * k) 2) [] h v hx hb (by rw [hml]; exact hl.1.symm) hown hts (Nat.le_of_ble_eq_true rfl) (Nat.le_of_ble_eq_true rfl) (by omega) (by omega) hg hK hW1 (ags_ok h 15 xs (6 * k) 2 (by decide)) (ags_len 15 xs (6 * k) 2) (Nat.le_of_ble_eq_true rfl) d1567 (fun x h2 => x = elV S d i ∧ h2 = wI h 15 0 22 (nI (elT S d i))) (show S_X11_element (xs (6 * k + 1)) (xs (6 * k + 2)) h (fun x h2 => x = elV S d i ∧ h2 = wI h 15 0 22 (nI (elT S d i))) by rw [ed, ei]; exact ⟨S, rP.2.1, wP.2.2.1, rfl, rfl⟩) ?_
    intro x h2 H2 locs2 hx2 hW2
    obtain ⟨hxv, hh2⟩ := hx2
    have hI2 : INV (k + 1) h2 := by rw [hh2]; exact ic_w22 _ cP rP wP
    refine lv_lstore (lv' := [(6, .long x), (5, .int r), (4, .int (nI (6 * k))), (0, .ref b), (1, .ref (adr G 0 0)), (2, .ref (adr G 15 0)), (3, .ref (adr G 23 0))]) hx hb d1570 hl (by decide) rfl (fun ls hl => ?_)
    refine lv_aload_n hx hb d1572 rfl (lv_at hl 5 rfl) ?_
    have hth : h2.1 15 0 22 = nI (elT S d i) ∧ h2 = h2 := And.intro (by rw [hh2]; show uI h.1 15 0 22 (nI (elT S d i)) 15 0 22 = _; unfold uI; rw [if_pos ⟨rfl, ⟨rfl, rfl⟩⟩]) rfl
    refine lr_X11_thrown l G p e room_1 s m #[Value.ref b] below meth c H2 locs2 _ _ Qf _ ls (ags 15 xs (6 * k) 0) [] h2 v hx hb (by rw [hml]; exact hl.1.symm) hown hts (Nat.le_of_ble_eq_true rfl) (Nat.le_of_ble_eq_true rfl) (by omega) (by omega) hg hK hW2 (ags_ok h2 15 xs (6 * k) 0 (by decide)) (ags_len 15 xs (6 * k) 0) (Nat.le_of_ble_eq_true rfl) d1573 (fun y h3 => y = nI (elT S d i) ∧ h3 = h2) hth ?_
    intro y h3 H3 locs3 hy hW3
    obtain ⟨hy1, rfl⟩ := hy
    refine lv_iload hx hb d1576 (lv_at hl 1 rfl) ?_
    refine lv_icmp_eq (tgt := 1583) hx hb d1578 (by decide) (fun _ => ?_) (fun z => absurd (hy1.trans hp.1.symm) z)
    refine lv_iload hx hb d1583 (lv_at hl 1 rfl) ?_
    have fin : ∀ ls : Array Slot, lv_has ls 8 [(6, .long x), (5, .int r), (4, .int (nI (6 * k))), (0, .ref b), (1, .ref (adr G 0 0)), (2, .ref (adr G 15 0)), (3, .ref (adr G 23 0))] → W p l e room_1 s m #[Value.ref b] below meth c H3 locs3 (100 + 101 * (k + 1)) (3000 + 706 * (k + 1)) Qf (F0 m 1599 ls []) := fun ls hl => by
      refine lv_goto (tgt := 1725) hx hb d1599 (by decide) ?_
      exact nx h3 v H3 locs3 ls hI2 hW3 (lv_sub hl [2, 3, 4, 5, 6] rfl)
    refine W.widen (k := 100 + 101 * (k + 1)) (n := 3000 + 706 * (k + 1)) (by omega) (by omega) ?_
    refine lv_if_ne (tgt := 1599) hx hb d1585 (by decide) (fun _ => fin ls hl) (fun z => ?_)
    have z : r = nI 0 := z.trans nI_0.symm
    have hT0 : elT S d i = 0 := by
      have hle : elT S d i ≤ 2 := by
        unfold elT
        split
        · omega
        · split <;> omega
      exact (nI_eq (by omega) (by omega)).mp (hp.1.symm.trans z)
    refine lv_aload_n hx hb d1588 rfl (lv_at hl 6 rfl) ?_
    refine lv_iconst (v := 0) hx hb d1589 (by decide) ?_
    refine va_lald (D := (G.1, G.2.1)) (cl := classes) (tys := [(gac G 23 0, .long)]) hx hb hKO (joinO hW3.2.1 hW3.2.2.2.1) (wl G h3).length 0 (f := v) (by rw [List.getElem?_append_right (Nat.le_refl _), Nat.sub_self]; rfl) rfl (i := 0) (inR_vp (show inR 0 1 from ⟨by decide, by decide⟩)) d1590 ?_
    refine lv_lload hx hb d1591 (lv_at hl 0 rfl) ?_
    refine W.lcmp hx hb d1593 ?_
    refine lv_if_eq (tgt := 1599) hx hb d1594 (by decide) (fun _ => fin ls hl) (fun z => absurd ((lg_cmp_eq _ _).mpr ((hp.2 hT0).trans hxv.symm)) z)

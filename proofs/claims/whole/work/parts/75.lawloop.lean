/-! THE CLAIM OUT OF ONE WALK OF THE LAW'S BODY. Your part is whole_start (and what it stands on); all else here is the same for every law, but numbers. -/
def R_law : String := "MeatForDiamondsLaw"
def lw_P (b : Addr) (xs : List Int32) (args : Array Value) (s : State) : Prop := args = #[.ref b] ∧ s.IntsAt b xs ∧ xs.length ≤ 3072 ∧ (Jvm.Cond.and given_1 narrow_1).before args s = true
def lw_Q (_ : Array Value) (s : State) (o : Outcome) (t : State) : Prop := o = .returned (some (.int 1)) ∧ Framed s o t [] 601024 7293034
def lw_Z (below : List Frame) (a : Array Value) (s : State) : State → Prop := fun t => ∃ o, t.status = .running ∧ Ended t below o ∧ lw_Q a s o t
/-- the law's own end, with 1 on the stack, nothing written that was there before, its room as the claim has it -/
theorem lw_ret {p : Program} {l : Launch} {e : Env} {s : State} {m : MethodId} {below : List Frame} {meth : Method} {c : Code} {b : Nat} (hx : p.tables.exec = Jvm.exec) (hb : c.code = code) (hr : meth.sig.returnType = ret) (hlocks : meth.locks = false) {pc : Nat} {H : Heap} {ls : Array Slot} (hdg : decode code pc = .ok (.ireturn, 1)) : W p l e room_1 s m #[Value.ref b] below meth c H [] 601024 7293034 (lw_Z below #[Value.ref b] s) (F0 m pc ls [.int 1]) := by
  intro T hT X
  obtain ⟨fs, hret, hrun, hended, hW, hframe⟩ := X.leave (v := some (.int 1)) (hlocks := hlocks) (fun h => by rw [hr] at h; cases h)
  have hmeth' : T.vm.method? m = some meth := X.method'
  refine ⟨T.setFrames fs, ?_, .returned (some (.int 1)), hrun, hended, rfl, ⟨_, rfl⟩, hW, hframe⟩
  jvm_step X.here [X.here.top, hx, hb, hdg, hmeth', hr, ret, narrow_b1]
  (try refine ⟨rfl, ?_⟩); (try refine ⟨rfl, ?_⟩)
  first | (intro acts; rw [hret _ acts rfl rfl rfl]) | rw [hret _ _ rfl rfl rfl]
  exact Steps.refl _
/-- what holds at the law's entry: the machine, the code, the tables' words (any of lw_tbl by 'hts w (by decide +kernel)'), the script of L ints xs at the cell b, what the Statement gives of the start (any of its parts by flat_of_before) -/
def lw_At (p : Program) (s : State) (m : MethodId) (meth : Method) (c : Code) (b L : Nat) (xs : Nat → Int32) : Prop :=
  p.tables.exec = Jvm.exec ∧ c.code = code ∧ meth.sig.returnType = ret ∧ c.maxLocals = 8 ∧ s.vm.findClass R_law = some m.cls ∧ (∀ w ∈ lw_tbl, w.before #[Value.ref b] s = true) ∧ va_X b L xs s s.heap ∧ b < s.heap.size ∧ meth.locks = false ∧ (Jvm.Cond.and given_1 narrow_1).before #[Value.ref b] s = true
/-! ===== the law's loop ===== -/
def OFS : List Nat := [184, 209, 246, 283, 320, 345, 370, 431, 468, 505, 530, 579, 604, 617, 630, 679, 704, 741, 802, 839, 864, 889, 902, 927, 976, 1025, 1062, 1100, 1125, 1150, 1187, 1236, 1285, 1298, 1311, 1336, 1397, 1446, 1495, 1562, 1635, 1660]
theorem law_tab {G : GL} {p : Program} {l : Launch} {e : Env} {s : State} {m : MethodId} {below : List Frame} {meth : Method} {c : Code} {b L : Nat} {xs : Nat → Int32} {Qf : State → Prop} {k : Nat} (hs : LSg G p s m c b L xs) (hfl : l.stackTraces = false) (hk : k < 512) (hi : 6 * k + 5 < L) (nx : LN G p l e s m below meth c b Qf (k + 1) (6 * k) 1725) (j : Nat) (hj : j < 42) : LN G p l e s m below meth c b Qf k (6 * k) (40 + OFS.getD j 0) := by
  match j, hj with
  | 0, _ => exact cs_0 hs hk hi nx
  | 1, _ => exact cs_1 hs hk hi nx
  | 2, _ => exact cs_2 hs hk hi nx
  | 3, _ => exact cs_3 hs hk hi nx
  | 4, _ => exact cs_4 hs hk hi nx
  | 5, _ => exact cs_5 hs hk hi nx
  | 6, _ => exact cs_6 hs hk hi nx
  | 7, _ => exact cs_7 hs hk hi nx
  | 8, _ => exact cs_8 hs hk hi nx
  | 9, _ => exact cs_9 hs hk hi nx
  | 10, _ => exact cs_10 hs hk hi nx
  | 11, _ => exact cs_11 hs hk hi nx
  | 12, _ => exact cs_12 hs hk hi nx
  | 13, _ => exact cs_13 hs hk hi nx
  | 14, _ => exact cs_14 hs hk hi nx
  | 15, _ => exact cs_15 hs hk hi nx
  | 16, _ => exact cs_16 hs hk hi nx
  | 17, _ => exact cs_17 hs hk hi nx
  | 18, _ => exact cs_18 hs hk hi nx
  | 19, _ => exact cs_19 hs hk hi nx
  | 20, _ => exact cs_20 hs hk hi nx
  | 21, _ => exact cs_21 hs hk hi nx
  | 22, _ => exact cs_22 hs hk hi nx
  | 23, _ => exact cs_23 hs hk hi nx
  | 24, _ => exact cs_24 hs hk hi nx
  | 25, _ => exact cs_25 hs hk hi nx
  | 26, _ => exact cs_26 hs hk hi nx
  | 27, _ => exact cs_27 hs hk hi nx
  | 28, _ => exact cs_28 hs hk hi nx
  | 29, _ => exact cs_29 hs hk hi nx
  | 30, _ => exact cs_30 hs hk hi nx
  | 31, _ => exact cs_31 hs hk hi nx
  | 32, _ => exact cs_32 hs hk hi nx
  | 33, _ => exact cs_33 hs hk hi nx
  | 34, _ => exact cs_34 hs hk hi nx
  | 35, _ => exact cs_35 hs hk hi nx
  | 36, _ => exact cs_36 hs hk hi nx
  | 37, _ => exact cs_37 hs hk hi nx
  | 38, _ => exact cs_38 hs hfl hk hi nx
  | 39, _ => exact cs_39 hs hk hi nx
  | 40, _ => exact cs_40 hs hk hi nx
  | 41, _ => exact cs_41 hs hfl hk hi nx
  | n + 42, z => exact absurd z (by omega)
theorem law_next {G : GL} {p : Program} {l : Launch} {e : Env} {s : State} {m : MethodId} {below : List Frame} {meth : Method} {c : Code} {b L : Nat} {xs : Nat → Int32} {Qf : State → Prop} {k : Nat} (hs : LSg G p s m c b L xs) (nx : LN G p l e s m below meth c b Qf (k + 1) (6 * (k + 1)) 23) : LN G p l e s m below meth c b Qf (k + 1) (6 * k) 1725 := by
  intro h f H locs ls hI hW hl
  obtain ⟨hx, hb, -⟩ := hs
  have d1725 : decode cL_law 1725 = .ok (.iinc 4 6, 3) := by decide +kernel
  have d1728 : decode cL_law 1728 = .ok (.goto (-1705), 3) := by decide +kernel
  refine lv_iinc (v := nI (6 * (k + 1))) (lv' := LV G b (6 * (k + 1))) hx hb d1725 hl (k := 0) rfl (show nI (6 * k) + nI 6 = nI (6 * k + 6) from nI_add _ _) (by decide) rfl (fun ls' hl' => ?_)
  refine lv_goto (tgt := 23) hx hb d1728 (by decide) ?_
  exact nx h f H locs ls' hI hW hl'
theorem ofs_at : ∀ j, j < 42 → (#[184, 209, 246, 283, 320, 345, 370, 431, 468, 505, 530, 579, 604, 617, 630, 679, 704, 741, 802, 839, 864, 889, 902, 927, 976, 1025, 1062, 1100, 1125, 1150, 1187, 1236, 1285, 1298, 1311, 1336, 1397, 1446, 1495, 1562, 1635, 1660] : Array Int)[j]? = some ((OFS.getD j 0 : Nat) : Int) := by decide +kernel
set_option maxHeartbeats 4000000 in
theorem law_loop {G : GL} {p : Program} {l : Launch} {e : Env} {s : State} {m : MethodId} {below : List Frame} {meth : Method} {c : Code} {b L : Nat} {xs : Nat → Int32} (hs : LSg G p s m c b L xs) (hfl : l.stackTraces = false) (hr : meth.sig.returnType = ret) (hlocks : meth.locks = false) : ∀ n k : Nat, k + n = 513 → k ≤ 512 → LN G p l e s m below meth c b (lw_Z below #[Value.ref b] s) k (6 * k) 23 := by
  have hs9 := hs
  obtain ⟨hx, hb, hml, hown, hts, hX, hbl, hg, hK, hL, hXG, hKO, hO⟩ := hs9
  have d23 : decode cL_law 23 = .ok (.iload 4, 2) := by decide +kernel
  have d25 : decode cL_law 25 = .ok (.aload_n 0, 1) := by decide +kernel
  have d26 : decode cL_law 26 = .ok (.arraylength, 1) := by decide +kernel
  have d27 : decode cL_law 27 = .ok (.bipush 6, 2) := by decide +kernel
  have d29 : decode cL_law 29 = .ok (.isub, 1) := by decide +kernel
  have d30 : decode cL_law 30 = .ok (.if_icmp .gt 1701, 3) := by decide +kernel
  have d33 : decode cL_law 33 = .ok (.aload_n 0, 1) := by decide +kernel
  have d34 : decode cL_law 34 = .ok (.iload 4, 2) := by decide +kernel
  have d36 : decode cL_law 36 = .ok (.iaload, 1) := by decide +kernel
  have d37 : decode cL_law 37 = .ok (.bipush 63, 2) := by decide +kernel
  have d39 : decode cL_law 39 = .ok (.iand, 1) := by decide +kernel
  have d40 : decode cL_law 40 = .ok (.tableswitch 1685 0 41 #[184, 209, 246, 283, 320, 345, 370, 431, 468, 505, 530, 579, 604, 617, 630, 679, 704, 741, 802, 839, 864, 889, 902, 927, 976, 1025, 1062, 1100, 1125, 1150, 1187, 1236, 1285, 1298, 1311, 1336, 1397, 1446, 1495, 1562, 1635, 1660], 184) := by decide +kernel
  have d1731 : decode cL_law 1731 = .ok (.iconst 1, 1) := by decide +kernel
  have d1732 : decode cL_law 1732 = .ok (.ireturn, 1) := by decide +kernel
  intro n
  induction n with
  | zero => intro k h1 h2; omega
  | succ n ih =>
    intro k hkn hk5 h f H locs ls hI hW hl
    refine lv_iload hx hb d23 (lv_at hl 0 rfl) ?_
    refine lv_aload_n hx hb d25 rfl (lv_at hl 1 rfl) ?_
    refine va_slen hx hb hX hbl (A := gLw s) (Nat.not_le.mpr hbl) hW.2.2.2.2.2 d26 ?_
    refine lv_bipush (v := nI 6) hx hb d27 (by decide) ?_
    refine lv_isub hx hb d29 ?_
    have eL : (Int32.ofNat L - nI 6).toInt = (L : Int) - 6 := by
      rw [Int32.toInt_sub, show (Int32.ofNat L).toInt = (L : Int) from nI_toInt (by omega), show (nI 6).toInt = 6 from rfl]
      exact Int.bmod_eq_of_le (by omega) (by omega)
    have ek : (nI (6 * k)).toInt = ((6 * k : Nat) : Int) := nI_toInt (by omega)
    refine lv_icmp_gt (tgt := 1731) hx hb d30 (by decide) (fun _ => ?_) (fun z => ?_)
    · refine lv_iconst (v := 1) hx hb d1731 (by decide) ?_
      refine va_forget (fun q hq => hW.2.2.2.2.2.2.2 q hq) ?_
      refine W.widen (k := 601024) (n := 7293034) (by omega) (by omega) ?_
      exact lw_ret hx hb hr hlocks d1732
    · have z1 : ¬ (Int32.ofNat L - nI 6).toInt < (nI (6 * k)).toInt := fun w => z (Int32.lt_iff_toInt_lt.mpr w)
      rw [eL, ek] at z1
      have h6 : 6 * k + 5 < L := by omega
      have nx : LN G p l e s m below meth c b (lw_Z below #[Value.ref b] s) (k + 1) (6 * k) 1725 := law_next hs (ih (k + 1) (by omega) (by omega))
      refine lv_aload_n hx hb d33 rfl (lv_at hl 1 rfl) ?_
      refine lv_iload hx hb d34 (lv_at hl 0 rfl) ?_
      refine va_sld hx hb hX hbl (A := gLw s) (Nat.not_le.mpr hbl) hW.2.2.2.2.2 (inR_vp ⟨by rw [ek]; omega, by rw [ek]; omega⟩) d36 ?_
      refine lv_bipush (v := nI 63) hx hb d37 (by decide) ?_
      refine lv_iand hx hb d39 ?_
      obtain ⟨j, hj, ej⟩ := pk_andE (xs (nI (6 * k)).toNatClampNeg) (m := nI 63) 6 (by decide)
      rw [ej]
      have ejI : (nI j).toInt = (j : Int) := nI_toInt (by omega)
      by_cases h41 : j < 42
      · refine lv_tableIn (off := ((OFS.getD j 0 : Nat) : Int)) (tgt := 40 + OFS.getD j 0) hx hb d40 (by rw [ejI]; omega) (by rw [ejI]; omega) (by rw [ejI, Int.sub_zero, Int.toNat_natCast]; exact ofs_at j h41) (by omega) ?_
        exact law_tab hs hfl (by omega) h6 nx j h41 h f H locs ls hI hW hl
      · refine lv_tableOut (tgt := 1725) hx hb d40 (Or.inr (by rw [ejI]; omega)) (by decide) ?_
        exact LN_up nx h f H locs ls hI hW hl

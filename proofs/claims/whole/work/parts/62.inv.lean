/-! ===== the law's invariant ===== -/
/-- what the component holds -/
def CP (V I : Vm) (S : Sm) (b : Nat) (h : AH) : Prop := CV h 0 V ∧ CSh h S ∧ h.1 0 0 3 = nI b ∧ (b = 1 → CV h 2 I)
/-- what the reference holds -/
def RP (V I : Vm) (S : Sm) (b : Nat) (h : AH) : Prop := RV (h.1 16 0) V ∧ MSh h S ∧ h.1 15 0 5 = nI b ∧ (b = 1 → RV (h.1 16 3) I)
def WN (k : Nat) (V : Vm) : Prop := ∀ n, n < 4 → V 3 n ≤ 6000 * k
/-- the bounds -/
def BP (k : Nat) (V I : Vm) (S : Sm) (b : Nat) : Prop := WF V ∧ WN k V ∧ WS S ∧ WB S ∧ b ≤ 1 ∧ (b = 1 → WF I ∧ WN k I)
def INV (k : Nat) (h : AH) : Prop := ∃ (V I : Vm) (S : Sm) (b : Nat), CP V I S b h ∧ RP V I S b h ∧ BP k V I S b
theorem WN_up {k j : Nat} {V : Vm} (w : WN k V) (hj : k ≤ j) : WN j V := fun n hn => Nat.le_trans (w n hn) (Nat.mul_le_mul_left _ hj)
theorem BP_up {k j : Nat} {V I : Vm} {S : Sm} {b : Nat} (w : BP k V I S b) (hj : k ≤ j) : BP j V I S b := ⟨w.1, WN_up w.2.1 hj, w.2.2.1, w.2.2.2.1, w.2.2.2.2.1, fun z => ⟨(w.2.2.2.2.2 z).1, WN_up (w.2.2.2.2.2 z).2 hj⟩⟩
theorem RP_e {V I : Vm} {S : Sm} {b : Nat} {h h' : AH} (e : ∀ t p i, (t = 16 ∧ (p = 0 ∨ p = 3)) ∨ (t = 15 ∧ p = 0 ∧ i = 5) ∨ t = 21 ∨ t = 22 → h'.1 t p i = h.1 t p i) (r : RP V I S b h) : RP V I S b h' := by
  have e0 : h'.1 16 0 = h.1 16 0 := funext fun i => e 16 0 i (Or.inl ⟨rfl, Or.inl rfl⟩)
  have e3 : h'.1 16 3 = h.1 16 3 := funext fun i => e 16 3 i (Or.inl ⟨rfl, Or.inr rfl⟩)
  refine ⟨by rw [e0]; exact r.1, fun d hd => ?_, by rw [e 15 0 5 (by omega)]; exact r.2.2.1, fun z => by rw [e3]; exact r.2.2.2 z⟩
  obtain ⟨a, b', c⟩ := r.2.1 d hd
  refine ⟨by rw [e 21 0 d (by omega)]; exact a, fun z => ?_, fun z => ?_⟩
  · rw [e 21 1 d (by omega), e 21 2 d (by omega)]; exact b' z
  · rw [e 21 3 d (by omega), e 21 4 d (by omega)]
    exact ⟨(c z).1, (c z).2.1, fun i hi => by rw [e 22 0 _ (by omega)]; exact (c z).2.2 i hi⟩
theorem CV_e0 {h h' : AH} {v : Nat} {V : Vm} (e : ∀ t i, 1 ≤ t → t ≤ 9 → h'.1 t v i = h.1 t v i) (e2 : ∀ i, h'.2.1 10 v i = h.2.1 10 v i) (e3 : ∀ a i, h'.1 18 a i = h.1 18 a i) (c : CV h v V) : CV h' v V := by
  obtain ⟨c1, c2, c3, c4, c5, c6⟩ := c
  refine ⟨fun t i ht hi => by rw [e _ _ (by omega) (by omega)]; exact c1 t i ht hi, by rw [e _ _ (by omega) (by omega)]; exact c2, by rw [e _ _ (by omega) (by omega)]; exact c3, by rw [e _ _ (by omega) (by omega)]; exact c4, by rw [e _ _ (by omega) (by omega)]; exact c5, fun s hs => ?_⟩
  rw [e2]
  exact SHP_e e3 (c6 s hs)
theorem CP_e {V I : Vm} {S : Sm} {b : Nat} {h h' : AH} (e : ∀ t p i, (1 ≤ t ∧ t ≤ 9 ∧ (p = 0 ∨ p = 2)) ∨ (t = 0 ∧ p = 0 ∧ i = 3) ∨ t = 12 ∨ t = 13 ∨ t = 18 → h'.1 t p i = h.1 t p i) (e2 : ∀ t p i, (t = 10 ∧ (p = 0 ∨ p = 2)) ∨ t = 12 → h'.2.1 t p i = h.2.1 t p i) (c : CP V I S b h) : CP V I S b h' := by
  have e18 : ∀ a i, h'.1 18 a i = h.1 18 a i := fun a i => e 18 a i (by omega)
  exact ⟨CV_e0 (fun t i h1 h2 => e t 0 i (by omega)) (fun i => e2 10 0 i (by omega)) e18 c.1, CSh_e (fun t u i z => e t u i (by omega)) (fun u i => e2 12 u i (by omega)) e18 c.2.1, by rw [e 0 0 3 (by omega)]; exact c.2.2.1, fun z => CV_e0 (fun t i h1 h2 => e t 2 i (by omega)) (fun i => e2 10 2 i (by omega)) e18 (c.2.2.2 z)⟩
theorem CP_kC {V I : Vm} {S : Sm} {b : Nat} {h h' : AH} (o : keepC h h') (c : CP V I S b h) : CP V I S b h' := CP_e (fun t p i z => o.2.1 t p i (by omega)) (fun t p i z => o.2.2 t p i (by omega)) c
theorem RP_kC {V I : Vm} {S : Sm} {b : Nat} {h h' : AH} (o : keepC h h') (c : RP V I S b h) : RP V I S b h' := RP_e (fun t p i z => o.2.1 t p i (by omega)) c
theorem RP_kM {V I : Vm} {S : Sm} {b : Nat} {h h' : AH} (o : keepM h h') (c : RP V I S b h) : RP V I S b h' := RP_e (fun t p i z => o.2 t p i (by omega)) c
theorem CP_kM {V I : Vm} {S : Sm} {b : Nat} {h h' : AH} (o : keepM h h') (c : CP V I S b h) : CP V I S b h' := CP_e (fun t p i z => o.2 t p i (by omega)) (fun t p i z => by rw [o.1]) c
/-- a call that changes nothing that counts: the component's, then the reference's -/
theorem ic_end {k : Nat} {V I : Vm} {S : Sm} {b : Nat} {h h1 h2 : AH} (c : CP V I S b h) (r : RP V I S b h) (w : BP k V I S b) (o1 : keepC h h1) (o2 : keepM h1 h2) : INV (k + 1) h2 := ⟨V, I, S, b, CP_kM o2 (CP_kC o1 c), RP_kM o2 (RP_kC o1 r), BP_up w (Nat.le_succ k)⟩
theorem ic_cellOf {k : Nat} {h : AH} (hk : k ≤ 512) (c w : Int32) (hI : INV k h) : S_X10_cellOf c w h (fun x h1 => S_X11_cellOf c w h1 (fun y h2 => x = y ∧ INV (k + 1) h2)) := by
  obtain ⟨V, I, S, b, cP, rP, wP⟩ := hI
  exact ⟨V, cP.1, wP.1, (by have r1 := RP_kC (keepC_rfl h) rP; exact ⟨V, r1.1, wP.1, ⟨rfl, ic_end cP rP wP (keepC_rfl _) (keepM_rfl _)⟩⟩)⟩
theorem ic_eagle {k : Nat} {h : AH} (hk : k ≤ 512) (c w : Int32) (hI : INV k h) : S_X10_eagle c w h (fun x h1 => S_X11_eagle c w h1 (fun y h2 => x = y ∧ INV (k + 1) h2)) := by
  obtain ⟨V, I, S, b, cP, rP, wP⟩ := hI
  exact ⟨V, cP.1, wP.1, (by have r1 := RP_kC (keepC_rfl h) rP; exact ⟨V, r1.1, wP.1, ⟨rfl, ic_end cP rP wP (keepC_rfl _) (keepM_rfl _)⟩⟩)⟩
theorem ic_sheep {k : Nat} {h : AH} (hk : k ≤ 512) (c w : Int32) (hI : INV k h) : S_X10_sheep c w h (fun x h1 => S_X11_sheep c w h1 (fun y h2 => x = y ∧ INV (k + 1) h2)) := by
  obtain ⟨V, I, S, b, cP, rP, wP⟩ := hI
  exact ⟨V, cP.1, wP.1, (by have r1 := RP_kC (keepC_rfl h) rP; exact ⟨V, r1.1, wP.1, ⟨rfl, ic_end cP rP wP (keepC_rfl _) (keepM_rfl _)⟩⟩)⟩
theorem ic_nest {k : Nat} {h : AH} (hk : k ≤ 512) (n : Int32) (hI : INV k h) : S_X10_nest n h (fun x h1 => S_X11_nest n h1 (fun y h2 => x = y ∧ INV (k + 1) h2)) := by
  obtain ⟨V, I, S, b, cP, rP, wP⟩ := hI
  exact ⟨V, cP.1, wP.1, (by have r1 := RP_kC (keepC_rfl h) rP; exact ⟨V, r1.1, wP.1, ⟨rfl, ic_end cP rP wP (keepC_rfl _) (keepM_rfl _)⟩⟩)⟩
theorem ic_brings {k : Nat} {h : AH} (hk : k ≤ 512) (a c w : Int32) (hI : INV k h) : S_X10_brings a c w h (fun x h1 => S_X11_brings a c w h1 (fun y h2 => x = y ∧ INV (k + 1) h2)) := by
  obtain ⟨V, I, S, b, cP, rP, wP⟩ := hI
  exact ⟨V, cP.1, wP.1, (by have r1 := RP_kC (keepC_rfl h) rP; exact ⟨V, r1.1, wP.1, fun h2 o2 => ⟨rfl, ic_end cP rP wP (keepC_rfl _) o2⟩⟩)⟩
theorem ic_bestThrow {k : Nat} {h : AH} (hk : k ≤ 512)  (hI : INV k h) : S_X10_bestThrow  h (fun x h1 => S_X11_bestThrow  h1 (fun y h2 => x = y ∧ INV (k + 1) h2)) := by
  obtain ⟨V, I, S, b, cP, rP, wP⟩ := hI
  exact ⟨V, cP.1, wP.1, (by have r1 := RP_kC (keepC_rfl h) rP; exact ⟨V, r1.1, wP.1, fun h2 o2 => ⟨rfl, ic_end cP rP wP (keepC_rfl _) o2⟩⟩)⟩
theorem ic_gain {k : Nat} {h : AH} (hk : k ≤ 512)  (hI : INV k h) : S_X10_gain  h (fun x h1 => S_X11_gain  h1 (fun y h2 => x = y ∧ INV (k + 1) h2)) := by
  obtain ⟨V, I, S, b, cP, rP, wP⟩ := hI
  exact ⟨V, cP.1, wP.1, (by have r1 := RP_kC (keepC_rfl h) rP; exact ⟨V, r1.1, wP.1, fun h2 o2 => ⟨rfl, ic_end cP rP wP (keepC_rfl _) o2⟩⟩)⟩
theorem ic_bestHour {k : Nat} {h : AH} (hk : k ≤ 512) (a c w : Int32) (hI : INV k h) : S_X10_bestHour a c w h (fun x h1 => S_X11_bestHour a c w h1 (fun y h2 => x = y ∧ INV (k + 1) h2)) := by
  obtain ⟨V, I, S, b, cP, rP, wP⟩ := hI
  exact ⟨V, cP.1, wP.1, fun h1 o1 => (by have r1 := RP_kC o1 rP; exact ⟨V, r1.1, wP.1, fun h2 o2 => ⟨rfl, ic_end cP rP wP o1 o2⟩⟩)⟩
theorem ic_twoThrows {k : Nat} {h : AH} (hk : k ≤ 512) (w : Int32) (hI : INV k h) : S_X10_twoThrows w h (fun x h1 => S_X11_twoThrows w h1 (fun y h2 => x = y ∧ INV (k + 1) h2)) := by
  obtain ⟨V, I, S, b, cP, rP, wP⟩ := hI
  exact ⟨V, cP.1, wP.1, fun h1 o1 => (by have r1 := RP_kC o1 rP; exact ⟨V, r1.1, wP.1, fun h2 o2 => ⟨rfl, ic_end cP rP wP o1 o2⟩⟩)⟩
theorem ic_greedily {k : Nat} {h : AH} (hk : k ≤ 512) (n w : Int32) (hI : INV k h) : S_X10_greedily n w h (fun x h1 => S_X11_greedily n w h1 (fun y h2 => x = y ∧ INV (k + 1) h2)) := by
  obtain ⟨V, I, S, b, cP, rP, wP⟩ := hI
  exact ⟨V, cP.1, wP.1, fun h1 o1 => (by have r1 := RP_kC o1 rP; exact ⟨V, r1.1, wP.1, fun h2 o2 => ⟨rfl, ic_end cP rP wP o1 o2⟩⟩)⟩
theorem ic_drum {k : Nat} {h : AH} (hk : k ≤ 512) (a c n w : Int32) (hI : INV k h) : S_X10_drum a c n w h (fun x h1 => S_X11_drum a c n w h1 (fun y h2 => x = y ∧ INV (k + 1) h2)) := by
  obtain ⟨V, I, S, b, cP, rP, wP⟩ := hI
  exact ⟨V, cP.1, wP.1, fun h1 o1 => (by have r1 := RP_kC o1 rP; exact ⟨V, r1.1, wP.1, fun h2 o2 => ⟨rfl, ic_end cP rP wP o1 o2⟩⟩)⟩
theorem ic_whose {k : Nat} {h : AH} (hk : k ≤ 512) (c v : Int32) (hI : INV k h) : S_X10_whose c v h (fun x h1 => S_X11_whose c v h1 (fun y h2 => x = y ∧ INV (k + 1) h2)) := by
  obtain ⟨V, I, S, b, cP, rP, wP⟩ := hI
  exact ⟨V, cP.1, wP.1, (by have r1 := RP_kC (keepC_rfl h) rP; exact ⟨V, r1.1, wP.1, fun h2 o2 => ⟨rfl, ic_end cP rP wP (keepC_rfl _) o2⟩⟩)⟩
theorem ic_mean {k : Nat} {h : AH} (hk : k ≤ 512) (a w : Int32) (hI : INV k h) : S_X10_mean a w h (fun x h1 => S_X11_mean a w h1 (fun y h2 => x = y ∧ INV (k + 1) h2)) := by
  obtain ⟨V, I, S, b, cP, rP, wP⟩ := hI
  exact ⟨V, cP.1, wP.1, (by have r1 := RP_kC (keepC_rfl h) rP; exact ⟨V, r1.1, wP.1, fun h2 o2 => ⟨rfl, ic_end cP rP wP (keepC_rfl _) o2⟩⟩)⟩
theorem ic_merchants {k : Nat} {h : AH} (hk : k ≤ 512) (c : Int32) (hI : INV k h) : S_X10_merchants c h (fun x h1 => S_X11_merchants c h1 (fun y h2 => x = y ∧ INV (k + 1) h2)) := by
  obtain ⟨V, I, S, b, cP, rP, wP⟩ := hI
  exact ⟨V, cP.1, wP.1, fun h1 o1 => (by have r1 := RP_kC o1 rP; exact ⟨V, r1.1, wP.1, fun h2 o2 => ⟨rfl, ic_end cP rP wP o1 o2⟩⟩)⟩
theorem ic_quarrel {k : Nat} {h : AH} (hk : k ≤ 512) (w : Int32) (hI : INV k h) : S_X10_quarrel w h (fun x h1 => S_X11_quarrel w h1 (fun y h2 => x = y ∧ INV (k + 1) h2)) := by
  obtain ⟨V, I, S, b, cP, rP, wP⟩ := hI
  have hq : ∀ n, n < 4 → V 3 n < 500000000 := fun n hn => Nat.lt_of_le_of_lt (wP.2.1 n hn) (by omega)
  exact ⟨V, cP.1, hq, (by have r1 := RP_kC (keepC_rfl h) rP; exact ⟨V, r1.1, wP.1, hq, fun h2 o2 => ⟨rfl, ic_end cP rP wP (keepC_rfl _) o2⟩⟩)⟩
theorem ic_forged {k : Nat} {h : AH} (hk : k ≤ 512) (a d : Int32) (hI : INV k h) : S_X10_forged a d h (fun x h1 => S_X11_forged a d h1 (fun y h2 => x = y ∧ INV (k + 1) h2)) := by
  obtain ⟨V, I, S, b, cP, rP, wP⟩ := hI
  exact ⟨S, V, cP.2.1, wP.2.2.1, cP.1, wP.1, fun h1 o1 => (by have r1 := RP_kC o1 rP; exact ⟨S, V, r1.2.1, wP.2.2.1, r1.1, wP.1, fun h2 o2 => ⟨rfl, ic_end cP rP wP o1 o2⟩⟩)⟩
theorem ic_judge {k : Nat} {h : AH} (hk : k ≤ 512) (a c d : Int32) (hI : INV k h) : S_X10_judge a c d h (fun x h1 => S_X11_judge a c d h1 (fun y h2 => x = y ∧ INV (k + 1) h2)) := by
  obtain ⟨V, I, S, b, cP, rP, wP⟩ := hI
  exact ⟨S, V, cP.2.1, wP.2.2.1, cP.1, wP.1, fun h1 o1 => (by have r1 := RP_kC o1 rP; exact ⟨S, V, r1.2.1, wP.2.2.1, r1.1, wP.1, fun h2 o2 => ⟨rfl, ic_end cP rP wP o1 o2⟩⟩)⟩
theorem ic_seasons {k : Nat} {h : AH} (hk : k ≤ 512) (n z w : Int32) (hI : INV k h) : S_X10_seasons n z w h (fun x h1 => S_X11_seasons n z w h1 (fun y h2 => x = y ∧ INV (k + 1) h2)) := by
  obtain ⟨V, I, S, b, cP, rP, wP⟩ := hI
  exact ⟨V, cP.1, wP.1, fun h1 o1 => (by have r1 := RP_kC o1 rP; exact ⟨V, r1.1, wP.1, fun h2 o2 => ⟨rfl, ic_end cP rP wP o1 o2⟩⟩)⟩
theorem ic_count {k : Nat} {h : AH} (hk : k ≤ 512) (w : Int32) (hI : INV k h) : S_X10_count w h (fun x h1 => S_X11_count w h1 (fun y h2 => x = y ∧ INV (k + 1) h2)) := by
  obtain ⟨V, I, S, b, cP, rP, wP⟩ := hI
  exact ⟨V, cP.1, wP.1, (by have r1 := RP_kC (keepC_rfl h) rP; exact ⟨V, r1.1, wP.1, ⟨rfl, ic_end cP rP wP (keepC_rfl _) (keepM_rfl _)⟩⟩)⟩
theorem ic_cost {k : Nat} {h : AH} (hk : k ≤ 512) (d : Int32) (hI : INV k h) : S_X10_cost d h (fun x h1 => S_X11_cost d h1 (fun y h2 => x = y ∧ INV (k + 1) h2)) := by
  obtain ⟨V, I, S, b, cP, rP, wP⟩ := hI
  exact ⟨S, cP.2.1, wP.2.2.1, (by have r1 := RP_kC (keepC_rfl h) rP; exact ⟨S, r1.2.1, wP.2.2.1, ⟨rfl, ic_end cP rP wP (keepC_rfl _) (keepM_rfl _)⟩⟩)⟩
theorem ic_still {k : Nat} {h : AH} (hk : k ≤ 512) (a d w : Int32) (hI : INV k h) : S_X10_still a d w h (fun x h1 => S_X11_still a d w h1 (fun y h2 => x = y ∧ INV (k + 1) h2)) := by
  obtain ⟨V, I, S, b, cP, rP, wP⟩ := hI
  exact ⟨S, V, cP.2.1, wP.2.2.1, cP.1, wP.1, fun h1 o1 => (by have r1 := RP_kC o1 rP; exact ⟨S, V, r1.2.1, wP.2.2.1, r1.1, wP.1, fun h2 o2 => ⟨rfl, ic_end cP rP wP o1 o2⟩⟩)⟩
theorem ic_tellsMost {k : Nat} {h : AH} (hk : k ≤ 512) (a d w : Int32) (hI : INV k h) : S_X10_tellsMost a d w h (fun x h1 => S_X11_tellsMost a d w h1 (fun y h2 => x = y ∧ INV (k + 1) h2)) := by
  obtain ⟨V, I, S, b, cP, rP, wP⟩ := hI
  exact ⟨S, V, cP.2.1, wP.2.2.1, cP.1, wP.1, fun h1 o1 => (by have r1 := RP_kC o1 rP; exact ⟨S, V, r1.2.1, wP.2.2.1, r1.1, wP.1, fun h2 o2 => ⟨rfl, ic_end cP rP wP o1 o2⟩⟩)⟩
theorem ic_left {k : Nat} {h : AH} (hk : k ≤ 512) (w : Int32) (hI : INV k h) : S_X10_left w h (fun x h1 => S_X11_left w h1 (fun y h2 => x = y ∧ INV (k + 1) h2)) := by
  obtain ⟨V, I, S, b, cP, rP, wP⟩ := hI
  exact ⟨V, cP.1, wP.1, (by have r1 := RP_kC (keepC_rfl h) rP; exact ⟨V, r1.1, wP.1, ⟨rfl, ic_end cP rP wP (keepC_rfl _) (keepM_rfl _)⟩⟩)⟩
theorem ic_man {k : Nat} {h : AH} (hk : k ≤ 512) (w : Int32) (hI : INV k h) : S_X10_man w h (fun x h1 => S_X11_man w h1 (fun y h2 => x = y ∧ INV (k + 1) h2)) := by
  obtain ⟨V, I, S, b, cP, rP, wP⟩ := hI
  exact ⟨V, cP.1, wP.1, fun h1 o1 => (by have r1 := RP_kC o1 rP; exact ⟨V, r1.1, wP.1, fun h2 o2 => ⟨rfl, ic_end cP rP wP o1 o2⟩⟩)⟩
theorem ic_noon {k : Nat} {h : AH} (hk : k ≤ 512)  (hI : INV k h) : S_X10_noon  h (fun x h1 => S_X11_noon  h1 (fun y h2 => x = y ∧ INV (k + 1) h2)) := by
  obtain ⟨V, I, S, b, cP, rP, wP⟩ := hI
  exact ⟨V, cP.1, wP.1, (by have r1 := RP_kC (keepC_rfl h) rP; exact ⟨V, r1.1, wP.1, ⟨rfl, ic_end cP rP wP (keepC_rfl _) (keepM_rfl _)⟩⟩)⟩
theorem ic_safe {k : Nat} {h : AH} (hk : k ≤ 512) (s : Int32) (hI : INV k h) : S_X10_safe s h (fun x h1 => S_X11_safe s h1 (fun y h2 => x = y ∧ INV (k + 1) h2)) := by
  obtain ⟨V, I, S, b, cP, rP, wP⟩ := hI
  exact ⟨V, cP.1, wP.1, (by have r1 := RP_kC (keepC_rfl h) rP; exact ⟨V, r1.1, wP.1, ⟨rfl, ic_end cP rP wP (keepC_rfl _) (keepM_rfl _)⟩⟩)⟩
theorem ic_lifts {k : Nat} {h : AH} (hk : k ≤ 512) (e w : Int32) (hI : INV k h) : S_X10_lifts e w h (fun x h1 => S_X11_lifts e w h1 (fun y h2 => x = y ∧ INV (k + 1) h2)) := by
  obtain ⟨V, I, S, b, cP, rP, wP⟩ := hI
  exact ⟨V, cP.1, wP.1, (by have r1 := RP_kC (keepC_rfl h) rP; exact ⟨V, r1.1, wP.1, ⟨rfl, ic_end cP rP wP (keepC_rfl _) (keepM_rfl _)⟩⟩)⟩
/-! ===== the invariant behind a call that changes a valley or a shelf ===== -/
theorem fb_byte (x : Int32) : byt x.toInt8.toInt32 := by
  have h1 : -128 ≤ x.toInt8.toInt32.toInt ∧ x.toInt8.toInt32.toInt < 128 := by
    rw [Int8.toInt_toInt32]
    exact ⟨Int8.le_toInt _, Int8.toInt_lt _⟩
  generalize x.toInt8.toInt32 = y at h1
  by_cases hy : 0 ≤ y.toInt
  · refine ⟨y.toInt.toNat, by omega, Or.inl ?_⟩
    apply Int32.toInt_inj.mp
    rw [nI_toInt (by omega)]
    omega
  · refine ⟨(-y.toInt - 1).toNat, by omega, Or.inr ?_⟩
    apply Int32.toInt_inj.mp
    show y.toInt = (Int32.ofInt _).toInt
    rw [Int32.toInt_ofInt_of_le (by omega) (by omega)]
    omega
theorem thr_3 {V : Vm} {s c n : Nat} (hw : WF V) (hc : c < 8) : thr V s c 3 n ≤ V 3 n + 54 := by
  have h1 := hw.2.2.2.2.1 c hc
  have hb : wor V s c ≤ 54 := by
    unfold wor sS sB
    omega
  unfold thr
  cases tak V s c with
  | none =>
    dsimp only
    rw [if_neg (by omega), if_neg (by omega)]
    omega
  | some e =>
    dsimp only
    rw [if_neg (by omega), if_neg (by omega)]
    split
    · omega
    · rw [if_neg (by omega), if_neg (by omega), if_neg (by omega)]
      omega
theorem wai_3 (V : Vm) (k n : Nat) : wai V k 3 n = V 3 n := by
  unfold wai
  rw [if_neg (by omega), if_neg (by omega)]
theorem isD_3 {V U : Vm} {c : Int32} {l : Nat → Nat} (hw : WF V) (e : isD V c l = some U) (n : Nat) : U 3 n ≤ V 3 n + 54 := by
  unfold isD at e
  split at e
  · split at e
    · cases e; rw [uV_ne (by omega), uV_ne (by omega), uV_ne (by omega)]; omega
    · cases e
  split at e
  · split at e
    · cases e; rw [adE_o (by omega)]; omega
    · cases e
  split at e
  · split at e
    · cases e; unfold adS; rw [uV_ne (by omega), uV_ne (by omega), uV_ne (by omega)]; omega
    · cases e
  split at e
  · split at e
    · cases e; rw [uV_ne (by omega)]; omega
    · cases e
  split at e
  · split at e
    · cases e; rw [wai_3]; omega
    · cases e
  split at e
  · rename_i q
    cases e; exact thr_3 hw q.2.1
  · cases e
theorem rn_ok {H : Nat → Int32} {sz : Nat} : ∀ f p m (V U : Vm), (p < sz → ∃ n, sc H sz f p m = .inl n) → WF V → rn H sz f p V = .inl U → WF U ∧ ∀ n, U 3 n ≤ V 3 n + 54 * f := by
  intro f
  induction f with
  | zero =>
    intro p m V U _ hw e
    have e : Sum.inl V = (Sum.inl U : Vm ⊕ Nat) := e
    cases e
    exact ⟨hw, fun n => by omega⟩
  | succ f ih =>
    intro p m V U hs hw e
    rw [rn_s (f := f) (p := p) (V := V)] at e
    by_cases q : p < sz
    · rw [if_pos q] at e
      obtain ⟨n, es⟩ := hs q
      rw [sc_s (f := f) (p := p) (n := m)] at es
      by_cases ok : (rdS H p).1 = true
      · rw [if_pos ok] at es
        obtain ⟨l1, l2, l3⟩ := rdS_l ok
        cases eU : stO H V p with
        | none => rw [eU] at e; cases e
        | some Z =>
          rw [eU] at e
          have hz := WF_isD hw l1 l3 eU
          obtain ⟨w1, w2⟩ := ih (rdS H p).2.1 (m + 1) Z U (fun z => by rw [if_pos z] at es; exact ⟨n, es⟩) hz e
          refine ⟨w1, fun n => ?_⟩
          have h3 := isD_3 hw eU n
          have h4 := w2 n
          omega
      · rw [if_neg ok] at es; cases es
    · rw [if_neg q] at e
      cases e
      exact ⟨hw, fun n => by omega⟩
theorem M_valley_ok {S : Sm} {V : Vm} {d : Int32} (hw : WF V) : WF (M_valley S V d).2 ∧ ∀ n, (M_valley S V d).2 3 n ≤ V 3 n + 6000 := by
  unfold M_valley
  split
  · exact ⟨hw, fun n => Nat.le_add_right _ _⟩
  · unfold M_text
    split
    · exact ⟨hw, fun n => Nat.le_add_right _ _⟩
    · rename_i n0 es
      split
      · exact ⟨hw, fun n => Nat.le_add_right _ _⟩
      · rename_i U e
        obtain ⟨w1, w2⟩ := rn_ok 101 0 0 V U (fun _ => ⟨n0, es⟩) hw e
        exact ⟨w1, fun n => by have := w2 n; show U 3 n ≤ _; omega⟩
theorem M_lays_ok {V : Vm} {c b s n : Int32} (hw : WF V) : WF (M_lays V c b s n).2 ∧ ∀ i, (M_lays V c b s n).2 3 i = V 3 i := by
  unfold M_lays
  split
  · rename_i q
    obtain ⟨q1, q2, q3, q4⟩ := q
    obtain ⟨j1, h1, e1⟩ := j10 q2
    obtain ⟨j2, h2, e2⟩ := j10 q3
    obtain ⟨j3, h3, e3⟩ := j10 q4
    subst e1 e2 e3
    show WF (uV (uV (uV V 0 (nN c) (nN (nI j1))) 1 (nN c) (nN (nI j2))) 2 (nN c) (nN (nI j3))) ∧ _
    unfold nN
    rw [n_cl (by omega), n_cl (by omega), n_cl (by omega)]
    refine ⟨WF_u (WF_u (WF_u hw (by omega) (fun _ => by omega) (by omega) (by omega) (by omega) (by omega) (by omega)) (by omega) (fun _ => by omega) (by omega) (by omega) (by omega) (by omega) (by omega)) (by omega) (fun _ => by omega) (by omega) (by omega) (by omega) (by omega) (by omega), fun i => ?_⟩
    show uV (uV (uV V 0 c.toNatClampNeg j1) 1 c.toNatClampNeg j2) 2 c.toNatClampNeg j3 3 i = V 3 i
    rw [uV_ne (by omega), uV_ne (by omega), uV_ne (by omega)]
  · exact ⟨hw, fun _ => rfl⟩
theorem M_buys_ok {S : Sm} {V : Vm} {d : Int32} (hs : WS S) (hw : WF V) : WF (M_buys S V d).2 ∧ ∀ i, (M_buys S V d).2 3 i = V 3 i := by
  unfold M_buys
  split
  · exact ⟨hw, fun _ => rfl⟩
  split
  · exact ⟨hw, fun _ => rfl⟩
  · rename_i q1 q2
    rcases rwK_cases hs d with ⟨m, hm, rfl, ho, hz⟩ | hz
    · have hb := (hs m hm).2.1 ho
      have e : nN (nI m) = m := n_cl (by omega)
      rw [e]
      refine ⟨WF_add hw (by have := hw.2.1; omega) hb.1 hb.2, fun i => ?_⟩
      show adS V (S.1 1 m) (S.1 2 m) 3 i = _
      unfold adS
      rw [uV_ne (by omega), uV_ne (by omega), uV_ne (by omega)]
    · exact absurd hz q1
theorem WF_hr {V : Vm} {x : Nat} (hw : WF V) (hx : x < 24) : WF (uV V 10 2 x) := by
  obtain ⟨a, b, c, d, e, f, g⟩ := hw
  unfold WF
  rw [uV_ne (by omega), uV_ne (by omega), uV_at, uV_ne (by omega)]
  refine ⟨a, b, hx, d, fun i hi => ?_, fun i hi => ?_, fun i hi => ?_⟩
  · rw [uV_ne (by omega), uV_ne (by omega), uV_ne (by omega)]; exact e i hi
  · rw [uV_ne (by omega), uV_ne (by omega), uV_ne (by omega), uV_ne (by omega)]; exact f i hi
  · rw [uV_ne (by omega), uV_ne (by omega)]; exact g i hi
theorem rng_n {n : Nat} {x : Int32} (hn : n < 2147483648) (h : nI 0 ≤ x ∧ x ≤ nI n) : ∃ j, j ≤ n ∧ x = nI j := by
  have h1 := Int32.le_iff_toInt_le.mp h.1
  have h2 := Int32.le_iff_toInt_le.mp h.2
  rw [nI_toInt (by omega)] at h1 h2
  refine ⟨x.toInt.toNat, by omega, ?_⟩
  apply Int32.toInt_inj.mp
  rw [nI_toInt (by omega)]
  omega
theorem M_set_ok {V : Vm} {w v : Int32} (hw : WF V) : WF (M_set V w v).2 ∧ ∀ i, (M_set V w v).2 3 i = V 3 i := by
  unfold M_set
  split
  · rename_i q
    obtain ⟨j, hj, rfl⟩ := rng_n (by omega) q.2
    have e : nN (nI j) = j := n_cl (by omega)
    rw [e]
    exact ⟨WF_dr hw hj, fun i => uV_ne (V := V) (t := 10) (i := 3) (x := j) (a := 3) (j := i) (by omega)⟩
  split
  · rename_i q
    obtain ⟨j, hj, rfl⟩ := rng_n (by omega) q.2
    have e : nN (nI j) = j := n_cl (by omega)
    rw [e]
    exact ⟨WF_hr hw (by omega), fun i => uV_ne (V := V) (t := 10) (i := 2) (x := j) (a := 3) (j := i) (by omega)⟩
  · exact ⟨hw, fun _ => rfl⟩
/-! the shelves' bounds -/
theorem uV1_at {F : Vm} {k d x : Nat} : uV F k d x k d = x := uV_at F k d x
theorem M_keep_ok {S : Sm} {d w k f : Int32} (hs : WS S) (hb : WB S) : WS (M_keep S d w k f).2 ∧ WB (M_keep S d w k f).2 := by
  unfold M_keep
  split
  · rename_i q
    obtain ⟨q1, q2, q3⟩ := q
    obtain ⟨m, hm, rfl⟩ := in8_iff.mp q1
    obtain ⟨j, hj, rfl⟩ := rng_n (by omega) q2
    have e : nN (nI m) = m := n_cl (by omega)
    have ej : nN (nI j) = j := n_cl (by omega)
    rw [e, ej]
    refine ⟨fun a ha => ?_, fun a ha => ?_⟩
    · by_cases z : a = m
      · subst z
        show (uV (uV (uV S.1 0 a j) 1 a (nN k)) 2 a (nN f) 0 a ≤ 2) ∧ (_ = 1 → uV (uV (uV S.1 0 a j) 1 a (nN k)) 2 a (nN f) 1 a ≤ 7 ∧ uV (uV (uV S.1 0 a j) 1 a (nN k)) 2 a (nN f) 2 a ≤ 9) ∧ (uV (uV (uV S.1 0 a j) 1 a (nN k)) 2 a (nN f) 0 a = 2 → _)
        have e0 : uV (uV (uV S.1 0 a j) 1 a (nN k)) 2 a (nN f) 0 a = j := by rw [uV_ne (by omega), uV_ne (by omega), uV_at]
        have e1 : uV (uV (uV S.1 0 a j) 1 a (nN k)) 2 a (nN f) 1 a = nN k := by rw [uV_ne (by omega), uV_at]
        have e2 : uV (uV (uV S.1 0 a j) 1 a (nN k)) 2 a (nN f) 2 a = nN f := by rw [uV_at]
        rw [e0, e1, e2]
        refine ⟨by omega, fun z1 => ?_, fun z2 => by omega⟩
        have z1 : j = 1 := by first | exact z1 | exact e0.symm.trans z1
        subst z1
        obtain ⟨⟨r1, r2⟩, ⟨r3, r4⟩⟩ := q3 rfl
        obtain ⟨k1, hk1, rfl⟩ := rng_n (by omega) ⟨r1, r2⟩
        obtain ⟨f1, hf1, rfl⟩ := rng_n (by omega) ⟨r3, r4⟩
        have ek : nN (nI k1) = k1 := n_cl (by omega)
        have ef : nN (nI f1) = f1 := n_cl (by omega)
        rw [ek, ef]
        exact ⟨hk1, hf1⟩
      · have e0 : ∀ t, uV (uV (uV S.1 0 m j) 1 m (nN k)) 2 m (nN f) t a = S.1 t a := fun t => by rw [uV_ne (by omega), uV_ne (by omega), uV_ne (by omega)]
        show uV (uV (uV S.1 0 m j) 1 m (nN k)) 2 m (nN f) 0 a ≤ 2 ∧ (uV (uV (uV S.1 0 m j) 1 m (nN k)) 2 m (nN f) 0 a = 1 → uV (uV (uV S.1 0 m j) 1 m (nN k)) 2 m (nN f) 1 a ≤ 7 ∧ uV (uV (uV S.1 0 m j) 1 m (nN k)) 2 m (nN f) 2 a ≤ 9) ∧ (uV (uV (uV S.1 0 m j) 1 m (nN k)) 2 m (nN f) 0 a = 2 → uV (uV (uV S.1 0 m j) 1 m (nN k)) 2 m (nN f) 3 a ≤ 2 ∧ uV (uV (uV S.1 0 m j) 1 m (nN k)) 2 m (nN f) 4 a ≤ 100)
        rw [e0, e0, e0, e0, e0]
        exact hs a ha
    · intro z2 z3 i hi
      have z2 : uV (uV (uV S.1 0 m j) 1 m (nN k)) 2 m (nN f) 0 a = 2 := z2
      have z3 : uV (uV (uV S.1 0 m j) 1 m (nN k)) 2 m (nN f) 3 a = 0 := z3
      rw [uV_ne (by omega), uV_ne (by omega), uV_ne (by omega)] at z3
      by_cases z : a = m
      · subst z
        rw [uV_ne (by omega), uV_ne (by omega), uV_at] at z2
        omega
      · rw [uV_ne (by omega), uV_ne (by omega), uV_ne (by omega)] at z2
        exact hb a ha z2 z3 i hi
  · exact ⟨hs, hb⟩
theorem byt_0 : byt (nI 0) := ⟨0, by omega, Or.inl rfl⟩
theorem M_row_ok {S : Sm} {d s n : Int32} (hs : WS S) (hb : WB S) : WS (M_row S d s n).2 ∧ WB (M_row S d s n).2 := by
  unfold M_row
  split
  · exact ⟨hs, hb⟩
  split
  · exact ⟨hs, hb⟩
  · rename_i q q2
    have c1 : cel d := Classical.byContradiction fun z => q (Or.inl z)
    have c2 : nI 0 ≤ s ∧ s ≤ nI 2 := Classical.byContradiction fun z => q (Or.inr (Or.inl z))
    have c3 : n ≤ nI 100 := Classical.byContradiction fun z => q (Or.inr (Or.inr z))
    have c4 : 0 ≤ n := Classical.byContradiction q2
    obtain ⟨m, hm, rfl⟩ := in8_iff.mp c1
    obtain ⟨j, hj, rfl⟩ := rng_n (by omega) c2
    obtain ⟨u, hu, rfl⟩ := rng_n (x := n) (n := 100) (by omega) ⟨c4, c3⟩
    have e : nN (nI m) = m := n_cl (by omega)
    have ej : nN (nI j) = j := n_cl (by omega)
    have eu : nN (nI u) = u := n_cl (by omega)
    rw [e, ej, eu]
    refine ⟨fun a ha => ?_, fun a ha z2 z3 i hi => ?_⟩
    · show uV (uV (uV S.1 0 m 2) 3 m j) 4 m u 0 a ≤ 2 ∧ (uV (uV (uV S.1 0 m 2) 3 m j) 4 m u 0 a = 1 → uV (uV (uV S.1 0 m 2) 3 m j) 4 m u 1 a ≤ 7 ∧ uV (uV (uV S.1 0 m 2) 3 m j) 4 m u 2 a ≤ 9) ∧ (uV (uV (uV S.1 0 m 2) 3 m j) 4 m u 0 a = 2 → uV (uV (uV S.1 0 m 2) 3 m j) 4 m u 3 a ≤ 2 ∧ uV (uV (uV S.1 0 m 2) 3 m j) 4 m u 4 a ≤ 100)
      by_cases z : a = m
      · subst z
        have e0 : uV (uV (uV S.1 0 a 2) 3 a j) 4 a u 0 a = 2 := by rw [uV_ne (by omega), uV_ne (by omega), uV_at]
        have e3 : uV (uV (uV S.1 0 a 2) 3 a j) 4 a u 3 a = j := by rw [uV_ne (by omega), uV_at]
        have e4 : uV (uV (uV S.1 0 a 2) 3 a j) 4 a u 4 a = u := by rw [uV_at]
        rw [e0, e3, e4]
        exact ⟨by omega, fun z => by omega, fun _ => ⟨hj, hu⟩⟩
      · have e0 : ∀ t, uV (uV (uV S.1 0 m 2) 3 m j) 4 m u t a = S.1 t a := fun t => by rw [uV_ne (by omega), uV_ne (by omega), uV_ne (by omega)]
        rw [e0, e0, e0, e0, e0]
        exact hs a ha
    · have z2 : uV (uV (uV S.1 0 m 2) 3 m j) 4 m u 0 a = 2 := z2
      have z3 : uV (uV (uV S.1 0 m 2) 3 m j) 4 m u 3 a = 0 := z3
      show byt (if a = m then nI 0 else S.2 a i)
      by_cases z : a = m
      · rw [if_pos z]; exact byt_0
      · rw [if_neg z]
        rw [uV_ne (by omega), uV_ne (by omega), uV_ne (by omega)] at z2 z3
        exact hb a ha z2 z3 i hi
theorem M_put_ok {S : Sm} {d i v : Int32} (hs : WS S) (hb : WB S) : WS (M_put S d i v).2 ∧ WB (M_put S d i v).2 := by
  unfold M_put
  split
  · exact ⟨hs, hb⟩
  split
  · exact ⟨hs, hb⟩
  · refine ⟨hs, fun a ha z2 z3 t ht => ?_⟩
    show byt (if a = nN d ∧ t = nN i then cutS (S.1 3 (nN d)) v else S.2 a t)
    split
    · rename_i q
      have z3 : S.1 3 a = 0 := z3
      rw [← q.1, z3]
      exact fb_byte v
    · exact hb a ha z2 z3 t ht
theorem M_copy_ok {S : Sm} {d i e j n : Int32} (hs : WS S) (hb : WB S) : WS (M_copy S d i e j n).2 ∧ WB (M_copy S d i e j n).2 := by
  unfold M_copy
  split
  · exact ⟨hs, hb⟩
  split
  · exact ⟨hs, hb⟩
  split
  · exact ⟨hs, hb⟩
  split
  · exact ⟨hs, hb⟩
  · rename_i q1 q2 q3 q4
    have c1 : cel d := Classical.byContradiction fun z => q1 (Or.inl z)
    have k2 : S.1 0 (nN d) = 2 := Classical.byContradiction fun z => q3 (Or.inl z)
    have k3 : S.1 3 (nN d) = S.1 3 (nN e) := Classical.byContradiction fun z => q3 (Or.inr (Or.inr z))
    obtain ⟨m, hm, rfl⟩ := in8_iff.mp c1
    have em : nN (nI m) = m := n_cl (by omega)
    rw [em] at k2 k3 ⊢
    have l1 := ((hs m hm).2.2 k2).2
    have i0 : 0 ≤ i := Classical.byContradiction fun z => q4 (Or.inr (Or.inl (Int32.not_le.mp z)))
    have n0 : 0 ≤ n := Classical.byContradiction fun z => q4 (Or.inl (Int32.not_le.mp z))
    have s0 : ¬ nI (S.1 4 m) - i < n := fun z => q4 (Or.inr (Or.inr (Or.inr (Or.inl (by rw [em]; exact z)))))
    refine ⟨hs, fun a ha z2 z3 t ht => ?_⟩
    show byt (if a = nN e ∧ nN j ≤ t ∧ t < nN j + nN n then S.2 m (nN i + (t - nN j)) else S.2 a t)
    split
    · rename_i q
      have z3 : S.1 3 a = 0 := z3
      rw [q.1, ← k3] at z3
      refine hb m hm k2 z3 _ ?_
      have i1 := Int32.le_iff_toInt_le.mp i0
      have n1 := Int32.le_iff_toInt_le.mp n0
      have s1 : ¬ (nI (S.1 4 m) - i).toInt < n.toInt := fun z => s0 (Int32.lt_iff_toInt_lt.mpr z)
      have e0 : (0 : Int32).toInt = 0 := rfl
      rw [e0] at i1 n1
      have e1 : (nI (S.1 4 m) - i).toInt = (S.1 4 m : Int) - i.toInt := by
        have h0 := nI_toInt (n := S.1 4 m) (by omega)
        have := i.toInt_lt
        rw [Int32.toInt_sub, h0]
        exact Int.bmod_eq_of_le (by omega) (by omega)
      have ei : nN i = i.toInt.toNat := rfl
      have en : nN n = n.toInt.toNat := rfl
      rw [e1] at s1
      omega
    · exact hb a ha z2 z3 t ht
/-! ===== the calls that change something: the invariant behind them ===== -/
theorem BP_m {k : Nat} {V V' I : Vm} {S : Sm} {b : Nat} (w : BP k V I S b) (wf : WF V') (wn : ∀ n, V' 3 n ≤ V 3 n + 6000) : BP (k + 1) V' I S b := by
  have w2 := BP_up w (Nat.le_succ k)
  refine ⟨wf, fun n hn => ?_, w2.2.2⟩
  have h1 := w.2.1 n hn
  have h2 := wn n
  rw [Nat.mul_succ]
  omega
theorem CP_m {V V' I : Vm} {S : Sm} {b : Nat} {h h1 : AH} (o : onlyV 0 h h1) (cv : CV h1 0 V') (c : CP V I S b h) : CP V' I S b h1 := ⟨cv, CSh_e (fun t u i z => o.2.1 t u i (by omega)) (fun u i => o.2.2 12 u i (by omega)) (fun a i => o.2.1 18 a i (by omega)) c.2.1, by rw [o.2.1 0 0 3 (by omega)]; exact c.2.2.1, fun z => CV_e0 (fun t i _ _ => o.2.1 t 2 i (by omega)) (fun i => o.2.2 10 2 i (by omega)) (fun a i => o.2.1 18 a i (by omega)) (c.2.2.2 z)⟩
theorem RP_o {V I : Vm} {S : Sm} {b : Nat} {h h1 : AH} (o : onlyV 0 h h1) (r : RP V I S b h) : RP V I S b h1 := RP_e (fun t p i z => o.2.1 t p i (by omega)) r
theorem CP_o {V I : Vm} {S : Sm} {b : Nat} {h h2 : AH} (o : only 16 0 h h2) (c : CP V I S b h) : CP V I S b h2 := CP_e (fun t p i z => by rw [o.2 t p (by omega)]) (fun t p i z => by rw [o.1]) c
theorem MSh_e {h h' : AH} {S : Sm} (e : ∀ t p i, t = 21 ∨ t = 22 → h'.1 t p i = h.1 t p i) (r : MSh h S) : MSh h' S := by
  intro d hd
  obtain ⟨a, b', c⟩ := r d hd
  refine ⟨by rw [e 21 0 d (by omega)]; exact a, fun z => ?_, fun z => ?_⟩
  · rw [e 21 1 d (by omega), e 21 2 d (by omega)]; exact b' z
  · rw [e 21 3 d (by omega), e 21 4 d (by omega)]
    exact ⟨(c z).1, (c z).2.1, fun i hi => by rw [e 22 0 _ (by omega)]; exact (c z).2.2 i hi⟩
theorem RP_m {V V' I : Vm} {S : Sm} {b : Nat} {h h2 : AH} (o : only 16 0 h h2) (rv : RV (h2.1 16 0) V') (r : RP V I S b h) : RP V' I S b h2 := ⟨rv, MSh_e (fun t p i z => by rw [o.2 t p (by omega)]) r.2.1, by rw [o.2 15 0 (by omega)]; exact r.2.2.1, fun z => by rw [o.2 16 3 (by omega)]; exact r.2.2.2 z⟩
theorem ic_mut {k : Nat} {V V' I : Vm} {S : Sm} {b : Nat} {h h1 h2 : AH} (c : CP V I S b h) (r : RP V I S b h) (w : BP k V I S b) (wf : WF V') (wn : ∀ n, V' 3 n ≤ V 3 n + 6000) (o1 : onlyV 0 h h1) (cv : CV h1 0 V') (o2 : only 16 0 h1 h2) (rv : RV (h2.1 16 0) V') : INV (k + 1) h2 := ⟨V', I, S, b, CP_o o2 (CP_m o1 cv c), RP_m o2 rv (RP_o o1 r), BP_m w wf wn⟩
theorem ic_lays {k : Nat} {h : AH} (c b s n : Int32) (hI : INV k h) : S_X10_lays c b s n h (fun x h1 => S_X11_lays c b s n h1 (fun y h2 => x = y ∧ INV (k + 1) h2)) := by
  obtain ⟨V, I, S, b0, cP, rP, wP⟩ := hI
  obtain ⟨w1, w2⟩ := M_lays_ok (c := c) (b := b) (s := s) (n := n) wP.1
  exact ⟨V, cP.1, wP.1, fun h1 o1 cv1 => ⟨V, (RP_o o1 rP).1, wP.1, fun h2 o2 rv2 => ⟨rfl, ic_mut cP rP wP w1 (fun i => by rw [w2]; omega) o1 cv1 o2 rv2⟩⟩⟩
theorem ic_set {k : Nat} {h : AH} (w v : Int32) (hI : INV k h) : S_X10_set w v h (fun x h1 => S_X11_set w v h1 (fun y h2 => x = y ∧ INV (k + 1) h2)) := by
  obtain ⟨V, I, S, b0, cP, rP, wP⟩ := hI
  obtain ⟨w1, w2⟩ := M_set_ok (w := w) (v := v) wP.1
  exact ⟨V, cP.1, wP.1, fun h1 o1 cv1 => ⟨V, (RP_o o1 rP).1, wP.1, fun h2 o2 rv2 => ⟨rfl, ic_mut cP rP wP w1 (fun i => by rw [w2]; omega) o1 cv1 o2 rv2⟩⟩⟩
theorem ic_buys {k : Nat} {h : AH} (d : Int32) (hI : INV k h) : S_X10_buys d h (fun x h1 => S_X11_buys d h1 (fun y h2 => x = y ∧ INV (k + 1) h2)) := by
  obtain ⟨V, I, S, b0, cP, rP, wP⟩ := hI
  obtain ⟨w1, w2⟩ := M_buys_ok (d := d) wP.2.2.1 wP.1
  exact ⟨S, V, cP.2.1, wP.2.2.1, cP.1, wP.1, fun h1 o1 cv1 => ⟨S, V, (RP_o o1 rP).2.1, wP.2.2.1, (RP_o o1 rP).1, wP.1, fun h2 o2 rv2 => ⟨rfl, ic_mut cP rP wP w1 (fun i => by rw [w2]; omega) o1 cv1 o2 rv2⟩⟩⟩
theorem ic_throwsOne {k : Nat} {h : AH} (a c : Int32) (hI : INV k h) : S_X10_throwsOne a c h (fun x h1 => S_X11_throwsOne a c h1 (fun y h2 => x = y ∧ INV (k + 1) h2)) := by
  obtain ⟨V, I, S, b0, cP, rP, wP⟩ := hI
  refine ⟨V, cP.1, wP.1, fun q => ⟨V, rP.1, wP.1, fun _ => ⟨rfl, ic_end cP rP wP (keepC_rfl _) (keepM_rfl _)⟩, fun n m h' _ _ _ _ q2 => absurd q2 q⟩, fun n m h1 hn hm ea ec q o1 cv1 => ⟨V, (RP_o o1 rP).1, wP.1, fun q2 => absurd q q2, fun n2 m2 h2 hn2 hm2 ea2 ec2 q2 o2 rv2 => ?_⟩⟩
  have e1 : n2 = n := by
    have h7 := wP.1.2.1
    have := congrArg Int32.toInt (ea2.symm.trans ea)
    rw [nI_toInt (by omega), nI_toInt (by omega)] at this
    omega
  have e2 : m2 = m := by
    have := congrArg Int32.toInt (ec2.symm.trans ec)
    rw [nI_toInt (by omega), nI_toInt (by omega)] at this
    omega
  subst e1 e2
  exact ⟨rfl, ic_mut cP rP wP (WF_thr wP.1 hm) (fun i => by have := thr_3 (s := n2) (n := i) wP.1 hm; omega) o1 cv1 o2 rv2⟩
theorem ic_waits {k : Nat} {h : AH} (x : Int32) (hI : INV k h) : S_X10_waits x h (fun x1 h1 => S_X11_waits x h1 (fun y h2 => x1 = y ∧ INV (k + 1) h2)) := by
  obtain ⟨V, I, S, b0, cP, rP, wP⟩ := hI
  refine ⟨V, cP.1, wP.1, fun q => ⟨V, rP.1, wP.1, fun _ => ⟨rfl, ic_end cP rP wP (keepC_rfl _) (keepM_rfl _)⟩, fun j h' h1 h2 e => absurd (by rw [e, n_le (by omega) (by omega), n_le (by omega) (by omega)]; omega) q⟩, fun j h1 hj1 hj2 e o1 cv1 => ⟨V, (RP_o o1 rP).1, wP.1, fun q => absurd (by rw [e, n_le (by omega) (by omega), n_le (by omega) (by omega)]; omega) q, fun j2 h2 hj3 hj4 e2 o2 rv2 => ?_⟩⟩
  have e1 : j2 = j := by
    have := congrArg Int32.toInt (e2.symm.trans e)
    rw [nI_toInt (by omega), nI_toInt (by omega)] at this
    omega
  subst e1
  exact ⟨rfl, ic_mut cP rP wP (WF_wai wP.1) (fun i => by rw [wai_3]; omega) o1 cv1 o2 rv2⟩
theorem ic_bestCell {k : Nat} {h : AH} (a : Int32) (hI : INV k h) : S_X10_bestCell a h (fun x h1 => S_X11_bestCell a h1 (fun y h2 => x = y ∧ INV (k + 1) h2)) := by
  obtain ⟨V, I, S, b0, cP, rP, wP⟩ := hI
  refine ⟨V, cP.1, wP.1, fun n hn e => ⟨V, rP.1, wP.1, fun n2 h2 hn2 e2 o2 => ?_, fun q => absurd ⟨n, hn, e⟩ q⟩, fun q => ⟨V, rP.1, wP.1, fun n2 h2 hn2 e2 => absurd ⟨n2, hn2, e2⟩ q, fun _ => ⟨rfl, ic_end cP rP wP (keepC_rfl _) (keepM_rfl _)⟩⟩⟩
  have e1 : n2 = n := by
    have h7 := wP.1.2.1
    have := congrArg Int32.toInt (e2.symm.trans e)
    rw [nI_toInt (by omega), nI_toInt (by omega)] at this
    omega
  subst e1
  exact ⟨rfl, ic_end cP rP wP (keepC_rfl _) o2⟩
theorem ic_image {k : Nat} {h : AH} (hI : INV k h) : S_X10_image h (fun x h1 => S_X11_image h1 (fun y h2 => x = y ∧ INV (k + 1) h2)) := by
  obtain ⟨V, I, S, b0, cP, rP, wP⟩ := hI
  have w2 := BP_up wP (Nat.le_succ k)
  refine ⟨V, cP.1, wP.1, fun h1 o1 cv1 f1 => ?_⟩
  have r1 : RP V I S b0 h1 := RP_e (fun t p i z => o1.2.1 t p i (by omega)) rP
  refine ⟨V, r1.1, wP.1, fun h2 o2 rv2 f2 => ⟨rfl, V, V, S, 1, ?_, ?_, w2.1, w2.2.1, w2.2.2.1, w2.2.2.2.1, Nat.le_refl _, fun _ => ⟨w2.1, w2.2.1⟩⟩⟩
  · have c1 : CP V V S 1 h1 := ⟨CV_e0 (fun t i _ _ => o1.2.1 t 0 i (by omega)) (fun i => o1.2.2 10 0 i (by omega)) (fun a i => o1.2.1 18 a i (by omega)) cP.1, CSh_e (fun t u i z => o1.2.1 t u i (by omega)) (fun u i => o1.2.2 12 u i (by omega)) (fun a i => o1.2.1 18 a i (by omega)) cP.2.1, f1, fun _ => cv1⟩
    exact CP_e (fun t p i z => o2.2 t p i (by omega) (by omega)) (fun t p i z => by rw [o2.1]) c1
  · have e0 : h2.1 16 0 = h1.1 16 0 := funext fun i => o2.2 16 0 i (by omega) (by omega)
    exact ⟨by rw [e0]; exact r1.1, MSh_e (fun t p i z => o2.2 t p i (by omega) (by omega)) r1.2.1, f2, fun _ => rv2⟩
theorem ic_restore {k : Nat} {h : AH} (hI : INV k h) : S_X10_restore h (fun x h1 => S_X11_restore h1 (fun y h2 => x = y ∧ INV (k + 1) h2)) := by
  obtain ⟨V, I, S, b0, cP, rP, wP⟩ := hI
  have w2 := BP_up wP (Nat.le_succ k)
  rcases (show b0 = 0 ∨ b0 = 1 by have := wP.2.2.2.2.1; omega) with rfl | rfl
  · refine ⟨fun _ => ⟨fun _ => ⟨rfl, ic_end cP rP wP (keepC_rfl _) (keepM_rfl _)⟩, fun z => absurd rP.2.2.1 z⟩, fun z => absurd cP.2.2.1 z⟩
  · have i1 := wP.2.2.2.2.2 rfl
    refine ⟨fun z => absurd (cP.2.2.1.symm.trans z) (by decide), fun _ => ⟨I, cP.2.2.2 rfl, i1.1, fun h1 o1 cv1 => ⟨fun z => absurd ((RP_o o1 rP).2.2.1.symm.trans z) (by decide), fun _ => ⟨I, (RP_o o1 rP).2.2.2 rfl, i1.1, fun h2 o2 rv2 => ⟨rfl, I, I, S, 1, CP_o o2 (CP_m o1 cv1 cP), RP_m o2 rv2 (RP_o o1 rP), (w2.2.2.2.2.2 rfl).1, (w2.2.2.2.2.2 rfl).2, w2.2.2⟩⟩⟩⟩⟩
/-- a shelf changes -/
theorem ic_shelf {k : Nat} {V I : Vm} {S S' : Sm} {b : Nat} {h h1 h2 : AH} (c : CP V I S b h) (r : RP V I S b h) (w : BP k V I S b) (ws : WS S' ∧ WB S') (c1 : CP V I S' b h1) (r1 : RP V I S b h1) (o2 : onlyS h1 h2) (ms : MSh h2 S') : INV (k + 1) h2 := by
  have w2 := BP_up w (Nat.le_succ k)
  refine ⟨V, I, S', b, CP_e (fun t p i z => by rw [o2.2 t p (by omega) (by omega)]) (fun t p i z => by rw [o2.1]) c1, ⟨by rw [o2.2 16 0 (by omega) (by omega)]; exact r1.1, ms, by rw [o2.2 15 0 (by omega) (by omega)]; exact r1.2.2.1, fun z => by rw [o2.2 16 3 (by omega) (by omega)]; exact r1.2.2.2 z⟩, w2.1, w2.2.1, ws.1, ws.2, w2.2.2.2.2⟩
theorem CP_z {V I : Vm} {S S' : Sm} {b : Nat} {h h1 : AH} (o : onlyZ h h1) (cs : CSh h1 S') (c : CP V I S b h) : CP V I S' b h1 := ⟨CV_e0 (fun t i _ _ => o.2.1 t 0 i (by omega) (by omega)) (fun i => o.2.2 10 0 i (by omega)) (fun a i => o.2.1 18 a i (by omega) (by omega)) c.1, cs, by rw [o.2.1 0 0 3 (by omega) (by omega)]; exact c.2.2.1, fun z => CV_e0 (fun t i _ _ => o.2.1 t 2 i (by omega) (by omega)) (fun i => o.2.2 10 2 i (by omega)) (fun a i => o.2.1 18 a i (by omega) (by omega)) (c.2.2.2 z)⟩
theorem RP_z {V I : Vm} {S : Sm} {b : Nat} {h h1 : AH} (o : onlyZ h h1) (r : RP V I S b h) : RP V I S b h1 := RP_e (fun t p i z => o.2.1 t p i (by omega) (by omega)) r
theorem ic_row {k : Nat} {h : AH} (d s n : Int32) (hI : INV k h) : S_X10_row d s n h (fun x h1 => S_X11_row d s n h1 (fun y h2 => x = y ∧ INV (k + 1) h2)) := by
  obtain ⟨V, I, S, b0, cP, rP, wP⟩ := hI
  exact ⟨S, cP.2.1, wP.2.2.1, fun h1 o1 cs1 => ⟨S, (RP_z o1 rP).2.1, wP.2.2.1, fun h2 o2 ms2 => ⟨rfl, ic_shelf cP rP wP (M_row_ok wP.2.2.1 wP.2.2.2.1) (CP_z o1 cs1 cP) (RP_z o1 rP) o2 ms2⟩⟩⟩
theorem ic_put {k : Nat} {h : AH} (d i v : Int32) (hI : INV k h) : S_X10_put d i v h (fun x h1 => S_X11_put d i v h1 (fun y h2 => x = y ∧ INV (k + 1) h2)) := by
  obtain ⟨V, I, S, b0, cP, rP, wP⟩ := hI
  exact ⟨S, cP.2.1, wP.2.2.1, fun h1 o1 cs1 => ⟨S, (RP_z o1 rP).2.1, wP.2.2.1, fun h2 o2 ms2 => ⟨rfl, ic_shelf cP rP wP (M_put_ok wP.2.2.1 wP.2.2.2.1) (CP_z o1 cs1 cP) (RP_z o1 rP) o2 ms2⟩⟩⟩
theorem ic_copy {k : Nat} {h : AH} (d i e j n : Int32) (hI : INV k h) : S_X10_copy d i e j n h (fun x h1 => S_X11_copy d i e j n h1 (fun y h2 => x = y ∧ INV (k + 1) h2)) := by
  obtain ⟨V, I, S, b0, cP, rP, wP⟩ := hI
  exact ⟨S, cP.2.1, wP.2.2.1, fun h1 o1 cs1 => ⟨S, (RP_z o1 rP).2.1, wP.2.2.1, fun h2 o2 ms2 => ⟨rfl, ic_shelf cP rP wP (M_copy_ok wP.2.2.1 wP.2.2.2.1) (CP_z o1 cs1 cP) (RP_z o1 rP) o2 ms2⟩⟩⟩
theorem SHP_p {h h' : AH} {o : Option Nat} {k f : Nat} (e : ∀ a, o = some a → ∀ i, h'.1 18 a i = h.1 18 a i) (s : SHP h o k f) : SHP h' o k f := by
  obtain ⟨a, s0, s1, s2, s3, s4, s5, s6, s7⟩ := s
  have e := e a s0
  exact ⟨a, s0, by rw [e, s1], by rw [e, s2], by rw [e, s3], by rw [e, s4], by rw [e, s5], by rw [e, s6], by rw [e, s7]⟩
theorem CV_p {h h' : AH} {v : Nat} {V : Vm} (e : ∀ t i, 1 ≤ t → t ≤ 9 → h'.1 t v i = h.1 t v i) (e2 : ∀ i, h'.2.1 10 v i = h.2.1 10 v i) (e3 : ∀ i a, h.2.1 10 v i = some a → ∀ j, h'.1 18 a j = h.1 18 a j) (c : CV h v V) : CV h' v V := by
  obtain ⟨c1, c2, c3, c4, c5, c6⟩ := c
  refine ⟨fun t i ht hi => by rw [e _ _ (by omega) (by omega)]; exact c1 t i ht hi, by rw [e _ _ (by omega) (by omega)]; exact c2, by rw [e _ _ (by omega) (by omega)]; exact c3, by rw [e _ _ (by omega) (by omega)]; exact c4, by rw [e _ _ (by omega) (by omega)]; exact c5, fun s hs => ?_⟩
  rw [e2]
  exact SHP_p (fun a ea => e3 s a ea) (c6 s hs)
theorem CSh_p {h h' : AH} {S : Sm} (e1 : ∀ t u i, t = 12 ∨ t = 13 → h'.1 t u i = h.1 t u i) (e2 : ∀ u i, h'.2.1 12 u i = h.2.1 12 u i) (e3 : ∀ u i a, h.2.1 12 u i = some a → ∀ j, h'.1 18 a j = h.1 18 a j) (c : CSh h S) : CSh h' S := by
  intro d hd
  obtain ⟨c0, c1, c2⟩ := c d hd
  refine ⟨fun q => ?_, fun q => ?_, fun q => ?_⟩
  · rw [e2, e1 12 d 1 (by omega)]; exact c0 q
  · rw [e2, e1 12 d 1 (by omega)]
    exact ⟨SHP_p (fun a ea => e3 d 0 a ea) (c1 q).1, (c1 q).2⟩
  · rw [e2, e1 12 d 1 (by omega), e1 12 d 2 (by omega), e1 12 d 3 (by omega)]
    obtain ⟨r0, r1, r2, r3, r4⟩ := c2 q
    exact ⟨r0, r1, r2, r3, fun i hi => by rw [e1 13 d i (by omega)]; exact r4 i hi⟩
theorem ic_keep {k : Nat} {h : AH} (d w k0 f : Int32) (hI : INV k h) : S_X10_keep d w k0 f h (fun x h1 => S_X11_keep d w k0 f h1 (fun y h2 => x = y ∧ INV (k + 1) h2)) := by
  obtain ⟨V, I, S, b0, cP, rP, wP⟩ := hI
  refine ⟨S, cP.2.1, wP.2.2.1, fun h1 o1 cs1 => ?_⟩
  have r1 : RP V I S b0 h1 := RP_e (fun t p i z => o1.1 t p i (by omega) (by omega) (by omega)) rP
  have c1 : CP V I (M_keep S d w k0 f).2 b0 h1 := ⟨CV_p (fun t i _ _ => o1.1 t 0 i (by omega) (by omega) (by omega)) (fun i => o1.2.1 10 0 i (by omega)) (fun i a ea => o1.2.2 10 0 i a ea) cP.1, cs1, by rw [o1.1 0 0 3 (by omega) (by omega) (by omega)]; exact cP.2.2.1, fun z => CV_p (fun t i _ _ => o1.1 t 2 i (by omega) (by omega) (by omega)) (fun i => o1.2.1 10 2 i (by omega)) (fun i a ea => o1.2.2 10 2 i a ea) (cP.2.2.2 z)⟩
  exact ⟨S, r1.2.1, wP.2.2.1, fun h2 o2 ms2 => ⟨rfl, ic_shelf cP rP wP (M_keep_ok wP.2.2.1 wP.2.2.2.1) c1 r1 o2 ms2⟩⟩
theorem ic_valley {k : Nat} {h : AH} (d : Int32) (hI : INV k h) : S_X10_valley d h (fun x h1 => S_X11_valley d h1 (fun y h2 => x = y ∧ INV (k + 1) h2)) := by
  obtain ⟨V, I, S, b0, cP, rP, wP⟩ := hI
  obtain ⟨w1, w2⟩ := M_valley_ok (S := S) (d := d) wP.1
  refine ⟨S, V, cP.2.1, wP.2.2.1, wP.2.2.2.1, cP.1, wP.1, fun h1 o1 cv1 => ?_⟩
  have r1 : RP V I S b0 h1 := RP_e (fun t p i z => o1.1 t p i (by omega) (by omega)) rP
  have c1 : CP (M_valley S V d).2 I S b0 h1 := ⟨cv1, CSh_p (fun t u i z => o1.1 t u i (by omega) (by omega)) (fun u i => o1.2.1 12 u i (by omega)) (fun u i a ea => o1.2.2 12 u i a (by omega) ea) cP.2.1, by rw [o1.1 0 0 3 (by omega) (by omega)]; exact cP.2.2.1, fun z => CV_p (fun t i _ _ => o1.1 t 2 i (by omega) (by omega)) (fun i => o1.2.1 10 2 i (by omega)) (fun i a ea => o1.2.2 10 2 i a (by omega) ea) (cP.2.2.2 z)⟩
  refine ⟨S, V, r1.2.1, wP.2.2.1, r1.1, wP.1, fun h2 o2 rv2 => ⟨rfl, (M_valley S V d).2, I, S, b0, CP_e (fun t p i z => o2.2 t p i (by omega)) (fun t p i z => by rw [o2.1]) c1, ⟨rv2, MSh_e (fun t p i z => o2.2 t p i (by omega)) r1.2.1, by rw [o2.2 15 0 5 (by omega)]; exact r1.2.2.1, fun z => ?_⟩, BP_m wP w1 w2⟩⟩
  have e3 : h2.1 16 3 = h1.1 16 3 := funext fun i => o2.2 16 3 i (by omega)
  rw [e3]
  exact r1.2.2.2 z

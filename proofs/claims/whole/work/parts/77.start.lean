/-! ===== the world at the start ===== -/
def pl (t p : Nat) : Nat := match t with
  | 0 => 0
  | 11 => 31
  | 12 => 33 + 2 * p
  | 13 => 34 + 2 * p
  | 14 => 32
  | 15 => 49
  | 16 => 50 + p
  | 17 => 56
  | 19 => 55
  | 20 => 57
  | 21 => 58 + p
  | 22 => 63
  | 23 => 64
  | _ => 10 * p + t
def aW (W : va_W) (t p : Nat) : Nat := match W[pl t p]? with
  | some x => x.1
  | none => 0
def cW (W : va_W) (t p : Nat) : ClassId := match W[pl t p]? with
  | some x => match x.2 with
    | .inl y => y.1
    | .inr _ => 0
  | none => 0
def GW (D : va_G) (W : va_W) (sz : Nat) : GL := (D.1, D.2, aW W, cW W, sz)
def h0 : AH := (fun t p => match t with
  | 1 => fun k => match k with
    | 11 => nI 6
    | _ => 0
  | 16 => match p with
    | 0 => upd (fun _ => 0) 2 (nI 6)
    | _ => fun _ => 0
  | _ => fun _ => 0, fun _ _ _ => none, [])
/-- the cells at the law's start, as they were made -/
abbrev WX (ax : Nat) (z : ZU) (am : Nat) (um : (Nat → Nat) × (Nat → ClassId)) (qo : Nat) (co : ClassId) : va_W := w101 ax z ++ (w111 am um ++ [(qo, .inl (co, 1, .inr (.inl (fun _ => 0))))])
abbrev TX9s (z : ZU) (um : (Nat → Nat) × (Nat → ClassId)) : List (ClassId × FieldType) := t101 z ++ t111 um
theorem fixed_is : fixed = [(0, 0), (1, 0), (1, 1), (1, 2), (2, 0), (2, 1), (2, 2), (3, 0), (3, 1), (3, 2), (4, 0), (4, 1), (4, 2), (5, 0), (5, 1), (5, 2), (6, 0), (6, 1), (6, 2), (7, 0), (7, 1), (7, 2), (8, 0), (8, 1), (8, 2), (9, 0), (9, 1), (9, 2), (10, 0), (10, 1), (10, 2), (11, 0), (12, 0), (12, 1), (12, 2), (12, 3), (12, 4), (12, 5), (12, 6), (12, 7), (13, 0), (13, 1), (13, 2), (13, 3), (13, 4), (13, 5), (13, 6), (13, 7), (14, 0), (15, 0), (16, 0), (16, 1), (16, 2), (16, 3), (16, 4), (17, 0), (19, 0), (20, 0), (21, 0), (21, 1), (21, 2), (21, 3), (21, 4), (22, 0)] := by rfl
set_option maxHeartbeats 8000000 in
set_option maxRecDepth 100000 in
theorem wx_at (D : va_G) (sz ax : Nat) (v : Nat → VU) (qs qr : Nat) (cs cr : ClassId) (u0 u1 u2 u3 u4 u5 u6 u7 : VU) (am : Nat) (um : (Nat → Nat) × (Nat → ClassId)) (qo : Nat) (co : ClassId) : ∀ q ∈ fixed, q = (11, 0) ∨ (WX ax (v, (qs, qr), (cs, cr), [u0, u1, u2, u3, u4, u5, u6, u7]) am um qo co)[pl q.1 q.2]? = some (fW (GW D (WX ax (v, (qs, qr), (cs, cr), [u0, u1, u2, u3, u4, u5, u6, u7]) am um qo co) sz) h0 q) := by
  rw [fixed_is]
  exact (List.forall_mem_cons.mpr ⟨Or.inr rfl, (List.forall_mem_cons.mpr ⟨Or.inr rfl, (List.forall_mem_cons.mpr ⟨Or.inr rfl, (List.forall_mem_cons.mpr ⟨Or.inr rfl, (List.forall_mem_cons.mpr ⟨Or.inr rfl, (List.forall_mem_cons.mpr ⟨Or.inr rfl, (List.forall_mem_cons.mpr ⟨Or.inr rfl, (List.forall_mem_cons.mpr ⟨Or.inr rfl, (List.forall_mem_cons.mpr ⟨Or.inr rfl, (List.forall_mem_cons.mpr ⟨Or.inr rfl, (List.forall_mem_cons.mpr ⟨Or.inr rfl, (List.forall_mem_cons.mpr ⟨Or.inr rfl, (List.forall_mem_cons.mpr ⟨Or.inr rfl, (List.forall_mem_cons.mpr ⟨Or.inr rfl, (List.forall_mem_cons.mpr ⟨Or.inr rfl, (List.forall_mem_cons.mpr ⟨Or.inr rfl, (List.forall_mem_cons.mpr ⟨Or.inr rfl, (List.forall_mem_cons.mpr ⟨Or.inr rfl, (List.forall_mem_cons.mpr ⟨Or.inr rfl, (List.forall_mem_cons.mpr ⟨Or.inr rfl, (List.forall_mem_cons.mpr ⟨Or.inr rfl, (List.forall_mem_cons.mpr ⟨Or.inr rfl, (List.forall_mem_cons.mpr ⟨Or.inr rfl, (List.forall_mem_cons.mpr ⟨Or.inr rfl, (List.forall_mem_cons.mpr ⟨Or.inr rfl, (List.forall_mem_cons.mpr ⟨Or.inr rfl, (List.forall_mem_cons.mpr ⟨Or.inr rfl, (List.forall_mem_cons.mpr ⟨Or.inr rfl, (List.forall_mem_cons.mpr ⟨Or.inr rfl, (List.forall_mem_cons.mpr ⟨Or.inr rfl, (List.forall_mem_cons.mpr ⟨Or.inr rfl, (List.forall_mem_cons.mpr ⟨Or.inl rfl, (List.forall_mem_cons.mpr ⟨Or.inr rfl, (List.forall_mem_cons.mpr ⟨Or.inr rfl, (List.forall_mem_cons.mpr ⟨Or.inr rfl, (List.forall_mem_cons.mpr ⟨Or.inr rfl, (List.forall_mem_cons.mpr ⟨Or.inr rfl, (List.forall_mem_cons.mpr ⟨Or.inr rfl, (List.forall_mem_cons.mpr ⟨Or.inr rfl, (List.forall_mem_cons.mpr ⟨Or.inr rfl, (List.forall_mem_cons.mpr ⟨Or.inr rfl, (List.forall_mem_cons.mpr ⟨Or.inr rfl, (List.forall_mem_cons.mpr ⟨Or.inr rfl, (List.forall_mem_cons.mpr ⟨Or.inr rfl, (List.forall_mem_cons.mpr ⟨Or.inr rfl, (List.forall_mem_cons.mpr ⟨Or.inr rfl, (List.forall_mem_cons.mpr ⟨Or.inr rfl, (List.forall_mem_cons.mpr ⟨Or.inr rfl, (List.forall_mem_cons.mpr ⟨Or.inr rfl, (List.forall_mem_cons.mpr ⟨Or.inr rfl, (List.forall_mem_cons.mpr ⟨Or.inr rfl, (List.forall_mem_cons.mpr ⟨Or.inr rfl, (List.forall_mem_cons.mpr ⟨Or.inr rfl, (List.forall_mem_cons.mpr ⟨Or.inr rfl, (List.forall_mem_cons.mpr ⟨Or.inr rfl, (List.forall_mem_cons.mpr ⟨Or.inr rfl, (List.forall_mem_cons.mpr ⟨Or.inr rfl, (List.forall_mem_cons.mpr ⟨Or.inr rfl, (List.forall_mem_cons.mpr ⟨Or.inr rfl, (List.forall_mem_cons.mpr ⟨Or.inr rfl, (List.forall_mem_cons.mpr ⟨Or.inr rfl, (List.forall_mem_cons.mpr ⟨Or.inr rfl, (List.forall_mem_cons.mpr ⟨Or.inr rfl, (List.forall_mem_cons.mpr ⟨Or.inr rfl, (fun _ h => absurd h List.not_mem_nil)⟩)⟩)⟩)⟩)⟩)⟩)⟩)⟩)⟩)⟩)⟩)⟩)⟩)⟩)⟩)⟩)⟩)⟩)⟩)⟩)⟩)⟩)⟩)⟩)⟩)⟩)⟩)⟩)⟩)⟩)⟩)⟩)⟩)⟩)⟩)⟩)⟩)⟩)⟩)⟩)⟩)⟩)⟩)⟩)⟩)⟩)⟩)⟩)⟩)⟩)⟩)⟩)⟩)⟩)⟩)⟩)⟩)⟩)⟩)⟩)⟩)⟩)⟩)⟩)
theorem wx_11 (D : va_G) (sz ax : Nat) (v : Nat → VU) (qs qr : Nat) (cs cr : ClassId) (u0 u1 u2 u3 u4 u5 u6 u7 : VU) (am : Nat) (um : (Nat → Nat) × (Nat → ClassId)) (qo : Nat) (co : ClassId) : (WX ax (v, (qs, qr), (cs, cr), [u0, u1, u2, u3, u4, u5, u6, u7]) am um qo co)[31]? = some (adr (GW D (WX ax (v, (qs, qr), (cs, cr), [u0, u1, u2, u3, u4, u5, u6, u7]) am um qo co) sz) 11 0, .inl (gac (GW D (WX ax (v, (qs, qr), (cs, cr), [u0, u1, u2, u3, u4, u5, u6, u7]) am um qo co) sz) 11 0, 8, .inr (.inr (.inr (.inr (fS [u0, u1, u2, u3, u4, u5, u6, u7])))))) ∧ ∀ i, i < 8 → fS [u0, u1, u2, u3, u4, u5, u6, u7] i = some (adr (GW D (WX ax (v, (qs, qr), (cs, cr), [u0, u1, u2, u3, u4, u5, u6, u7]) am um qo co) sz) 12 i) := by
  refine ⟨rfl, fun i hi => ?_⟩
  match i, hi with
  | 0, _ => rfl
  | 1, _ => rfl
  | 2, _ => rfl
  | 3, _ => rfl
  | 4, _ => rfl
  | 5, _ => rfl
  | 6, _ => rfl
  | 7, _ => rfl
  | n + 8, h => exact absurd h (by omega)
set_option maxHeartbeats 8000000 in
set_option maxRecDepth 100000 in
theorem wx_ty (D : va_G) (sz ax : Nat) (v : Nat → VU) (qs qr : Nat) (cs cr : ClassId) (u0 u1 u2 u3 u4 u5 u6 u7 : VU) (am : Nat) (um : (Nat → Nat) × (Nat → ClassId)) (qo : Nat) (co : ClassId) {s : State} (hK : va_K D classes (TX9s (v, (qs, qr), (cs, cr), [u0, u1, u2, u3, u4, u5, u6, u7]) um) s) : va_K D classes (tysG (GW D (WX ax (v, (qs, qr), (cs, cr), [u0, u1, u2, u3, u4, u5, u6, u7]) am um qo co) sz)) s := by
  refine hK.sub [0, 9, 18, 1, 10, 19, 2, 11, 20, 3, 12, 21, 4, 13, 22, 5, 14, 23, 6, 15, 24, 7, 16, 25, 8, 17, 26, 27, 29, 30, 31, 32, 33, 34, 35, 36, 28, 37, 38, 39, 40, 41, 43, 42, 44, 45, 46, 47, 48, 49, 50] ?_
  unfold tysG
  rw [fixed_is]
  rfl
theorem fx_nodup : ∀ i, i < 64 → ∀ j, j < 64 → (fixed.map (fun q => pl q.1 q.2))[i]? = (fixed.map (fun q => pl q.1 q.2))[j]? → i = j := by decide +kernel
theorem fx_len : fixed.length = 64 := by decide +kernel
theorem fx_lt : ∀ q ∈ fixed, pl q.1 q.2 ≠ 64 := by decide +kernel
theorem q_ext {D : va_G} {a : Nat} {c : ClassId} {n : Nat} {f g : Nat → Option Nat} {H : Heap} (h : va_at D classes (a, .inl (c, n, .inr (.inr (.inr (.inr f))))) H) (e : ∀ i, i < n → f i = g i) : va_at D classes (a, .inl (c, n, .inr (.inr (.inr (.inr g))))) H := by
  have h : H[a]? = some (vp_cell c (n, .inr (.inr (.inr (.inr f))))) := h
  show H[a]? = some (vp_cell c (n, .inr (.inr (.inr (.inr g)))))
  rw [h, vp_cell_q, vp_cell_q]
  unfold arrV
  congr 2
  apply congrArg
  funext j
  show va_rf (f j.val) = va_rf (g j.val)
  rw [e j.val j.isLt]
theorem wx_world (D : va_G) (sz ax : Nat) (v : Nat → VU) (qs qr : Nat) (cs cr : ClassId) (u0 u1 u2 u3 u4 u5 u6 u7 : VU) (am : Nat) (um : (Nat → Nat) × (Nat → ClassId)) (qo : Nat) (co : ClassId) {H : Heap} (hP : va_P D classes (WX ax (v, (qs, qr), (cs, cr), [u0, u1, u2, u3, u4, u5, u6, u7]) am um qo co) H) (hD : va_D (fun q => sz ≤ q) (WX ax (v, (qs, qr), (cs, cr), [u0, u1, u2, u3, u4, u5, u6, u7]) am um qo co)) : va_P D classes (wl (GW D (WX ax (v, (qs, qr), (cs, cr), [u0, u1, u2, u3, u4, u5, u6, u7]) am um qo co) sz) h0) H ∧ va_D (gA0 (GW D (WX ax (v, (qs, qr), (cs, cr), [u0, u1, u2, u3, u4, u5, u6, u7]) am um qo co) sz)) (wl (GW D (WX ax (v, (qs, qr), (cs, cr), [u0, u1, u2, u3, u4, u5, u6, u7]) am um qo co) sz) h0) ∧ OU (GW D (WX ax (v, (qs, qr), (cs, cr), [u0, u1, u2, u3, u4, u5, u6, u7]) am um qo co) sz) (fun _ => 0) H ∧ sz ≤ adr (GW D (WX ax (v, (qs, qr), (cs, cr), [u0, u1, u2, u3, u4, u5, u6, u7]) am um qo co) sz) 23 0 := by
  have hat := wx_at D sz ax v qs qr cs cr u0 u1 u2 u3 u4 u5 u6 u7 am um qo co
  have h11 := wx_11 D sz ax v qs qr cs cr u0 u1 u2 u3 u4 u5 u6 u7 am um qo co
  have ho : (WX ax (v, (qs, qr), (cs, cr), [u0, u1, u2, u3, u4, u5, u6, u7]) am um qo co)[64]? = some (outE (GW D (WX ax (v, (qs, qr), (cs, cr), [u0, u1, u2, u3, u4, u5, u6, u7]) am um qo co) sz) (fun _ => 0)) := rfl
  generalize (WX ax (v, (qs, qr), (cs, cr), [u0, u1, u2, u3, u4, u5, u6, u7]) am um qo co) = W at hP hD hat h11 ho ⊢
  generalize hG : GW D W sz = G at hat h11 ho ⊢
  have hG1 : (G.1, G.2.1) = D := by rw [← hG]; rfl
  have hG5 : gB G = sz := by rw [← hG]; rfl
  have hadr : ∀ q ∈ fixed, ∃ e, W[pl q.1 q.2]? = some (adr G q.1 q.2, e) := fun q hq => by
    rcases hat q hq with rfl | h
    · exact ⟨_, h11.1⟩
    · exact ⟨_, h⟩
  have hwl : ∀ (k : Nat) (x : Nat × va_E), (wl G h0)[k]? = some x → ∃ q ∈ fixed, fixed[k]? = some q ∧ x = fW G h0 q := fun k x hx => by
    have hi : idx h0 = fixed := List.append_nil fixed
    unfold wl at hx
    rw [hi, List.getElem?_map] at hx
    cases hq : fixed[k]? with
    | none => rw [hq] at hx; cases hx
    | some q =>
      rw [hq] at hx
      exact ⟨q, List.mem_of_getElem? hq, rfl, (Option.some.inj hx).symm⟩
  have hO : sz ≤ adr G 23 0 := hD.2 64 _ ho
  refine ⟨fun k x hx => ?_, ⟨fun i j x y hi hj hxy => ?_, fun k x hx => ?_⟩, ?_, hO⟩
  · obtain ⟨q, hq, -, rfl⟩ := hwl k x hx
    rcases hat q hq with rfl | h
    · exact q_ext (hP 31 _ h11.1) h11.2
    · exact hP _ _ h
  · obtain ⟨a, ha, ha2, rfl⟩ := hwl i x hi
    obtain ⟨b, hb, hb2, rfl⟩ := hwl j y hj
    obtain ⟨e1, h1⟩ := hadr a ha
    obtain ⟨e2, h2⟩ := hadr b hb
    have hp := hD.1 _ _ _ _ h1 h2 hxy
    refine fx_nodup i ?_ j ?_ ?_
    · rw [← fx_len]; exact (List.getElem?_eq_some_iff.mp ha2).1
    · rw [← fx_len]; exact (List.getElem?_eq_some_iff.mp hb2).1
    · rw [List.getElem?_map, List.getElem?_map, ha2, hb2]
      exact congrArg some hp
  · obtain ⟨a, ha, -, rfl⟩ := hwl k x hx
    obtain ⟨e1, h1⟩ := hadr a ha
    refine ⟨?_, fun z => ?_⟩
    · rw [hG5]; exact (show sz ≤ adr G a.1 a.2 from hD.2 _ (adr G a.1 a.2, e1) h1)
    · exact fx_lt a ha (hD.1 _ _ _ _ h1 ho z)
  · unfold OU
    rw [hG1]
    exact hP 64 _ ho
/-! ===== the invariant at the start ===== -/
def V0 : Vm := fun t i => if t = 10 ∧ i = 2 then 6 else 0
def S0 : Sm := (fun _ _ => 0, fun _ _ => 0)
theorem v0_le {t i n : Nat} (ht : t ≠ 10) : V0 t i ≤ n := by
  rw [show V0 t i = 0 from if_neg (fun z => ht z.1)]
  exact Nat.zero_le n
theorem inv_0 : INV 0 h0 := by
  have e18 : ∀ z : Nat, V0 10 0 = 0 ∧ V0 10 1 = 0 := fun _ => ⟨rfl, rfl⟩
  refine ⟨V0, V0, S0, 0, ⟨?_, ?_, rfl, fun z => absurd z (by decide)⟩, ⟨?_, ?_, rfl, fun z => absurd z (by decide)⟩, ?_⟩
  · refine ⟨fun t i ht hi => ?_, rfl, rfl, rfl, rfl, fun s hs => absurd hs (Nat.not_lt_zero s)⟩
    have hV : V0 t i = 0 := if_neg (fun z => by omega)
    rw [hV]
    match t, ht with
    | 0, _ => rfl
    | 1, _ => rfl
    | 2, _ => rfl
    | 3, _ => rfl
    | 4, _ => rfl
    | 5, _ => rfl
    | 6, _ => rfl
    | 7, _ => rfl
    | n + 8, h => exact absurd h (by omega)
  · exact fun d hd => ⟨fun _ => ⟨rfl, rfl⟩, fun z => absurd (show (0 : Nat) = 1 from z) (by decide), fun z => absurd (show (0 : Nat) = 2 from z) (by decide)⟩
  · intro t i hi
    show upd (fun _ => (0 : Int32)) 2 (nI 6) (ro t i) = _
    have hu : ∀ k, k ≠ 2 → upd (fun _ => (0 : Int32)) 2 (nI 6) k = nI 0 := fun k hk => if_neg hk
    match t, hi with
    | 0, _ => rw [hu _ (by show 4 + 3 * i + 0 ≠ 2; omega)]; rfl
    | 1, _ => rw [hu _ (by show 4 + 3 * i + 1 ≠ 2; omega)]; rfl
    | 2, _ => rw [hu _ (by show 4 + 3 * i + 2 ≠ 2; omega)]; rfl
    | 3, _ => rw [hu _ (by show 44 + i ≠ 2; omega)]; rfl
    | 4, h => exact absurd h (Nat.not_lt_zero i)
    | 5, h => exact absurd h (Nat.not_lt_zero i)
    | 6, h => exact absurd h (Nat.not_lt_zero i)
    | 7, h => exact absurd h (Nat.not_lt_zero i)
    | 8, h => exact absurd h (Nat.not_lt_zero i)
    | 9, h => exact absurd h (Nat.not_lt_zero i)
    | 10, h =>
      have h : i < 4 := h
      rcases (show i = 0 ∨ i = 1 ∨ i = 2 ∨ i = 3 by omega) with rfl | rfl | rfl | rfl <;> rfl
    | n + 11, h => exact absurd h (Nat.not_lt_zero i)
  · exact fun d hd => ⟨rfl, fun z => absurd (show (0 : Nat) = 1 from z) (by decide), fun z => absurd (show (0 : Nat) = 2 from z) (by decide)⟩
  · have hWF : WF V0 := ⟨by decide, by decide, by decide, by decide, fun c hc => ⟨v0_le (by decide), v0_le (by decide), v0_le (by decide)⟩, fun e he => absurd he (Nat.not_lt_zero e), fun e he => absurd he (Nat.not_lt_zero e)⟩
    exact ⟨hWF, fun n hn => v0_le (by decide), fun d hd => ⟨Nat.zero_le _, fun z => absurd (show (0 : Nat) = 1 from z) (by decide), fun z => absurd (show (0 : Nat) = 2 from z) (by decide)⟩, fun d hd z => absurd (show (0 : Nat) = 2 from z) (by decide), by decide, fun z => absurd z (by decide)⟩
/-! ===== what a throw asks of the start ===== -/
theorem xs_lit {own tx : String} {k : Nat} {args : Array Value} {s : State} {T : Cond} (_ : ∀ c ∈ flatC T, c.before args s = true) (h1 : (Cond.stringRef own k tx).before args s = true) (h2 : (Cond.exactly (.string own k) "java/lang/String").before args s = true) : ∃ a, vk_R own k tx a s := by
  obtain ⟨a, c, cA, kA, q1, -⟩ := Cond.exactly_spec (args := args) (first := s) (o := none) (s := s) (idx := []) (t := .string own k) (cls := "java/lang/String") h2
  exact ⟨a, vk_R.of h1 q1⟩
set_option maxRecDepth 100000 in
theorem XG_start {G : GL} {args : Array Value} {s : State} (hts : ∀ w ∈ lw_tbl, w.before args s = true) (hgv : (Jvm.Cond.and given_1 narrow_1).before args s = true) (hA : ∀ a : Nat, a < s.heap.size → ¬ gA0 G a) : XG G s s.heap := by
  have hs := flat_of_before _ hgv
  refine ⟨⟨vx_Zqof (hts (.laysStatic Bundle.tN "UNASSIGNED_STACK" Bundle.steD) (List.mem_of_getElem? (i := 819) (by decide +kernel))) (hts (.initialized Bundle.tN) (List.mem_of_getElem? (i := 52) (by decide +kernel))) (hs (.isRef (.static Bundle.tN "UNASSIGNED_STACK" Bundle.steD)) (by decide +kernel)) hA, vx_Zqof (hts (.laysStatic Bundle.tN "SUPPRESSED_SENTINEL" Bundle.listD) (List.mem_of_getElem? (i := 821) (by decide +kernel))) (hts (.initialized Bundle.tN) (List.mem_of_getElem? (i := 52) (by decide +kernel))) (hs (.isRef (.static Bundle.tN "SUPPRESSED_SENTINEL" Bundle.listD)) (by decide +kernel)) hA⟩, ⟨(xs_lit hs (hts (.stringRef RX4 33 "a failure") (List.mem_of_getElem? (i := 893) (by decide +kernel))) (hs (.exactly (.string RX4 33) "java/lang/String") (by decide +kernel))), (xs_lit hs (hts (.stringRef RX2 30 "a fat one's failure") (List.mem_of_getElem? (i := 833) (by decide +kernel))) (hs (.exactly (.string RX2 30) "java/lang/String") (by decide +kernel))), (xs_lit hs (hts (.stringRef RX8 24 "a tied one's failure") (List.mem_of_getElem? (i := 876) (by decide +kernel))) (hs (.exactly (.string RX8 24) "java/lang/String") (by decide +kernel))), (xs_lit hs (hts (.stringRef RX10 251 "no such shelf") (List.mem_of_getElem? (i := 909) (by decide +kernel))) (hs (.exactly (.string RX10 251) "java/lang/String") (by decide +kernel))), (xs_lit hs (hts (.stringRef RX10 261 "no row, or no such place in it") (List.mem_of_getElem? (i := 911) (by decide +kernel))) (hs (.exactly (.string RX10 261) "java/lang/String") (by decide +kernel)))⟩, va_Nc.of (hs (.not (.castable eA eS)) (by decide +kernel)), va_Nc.of (hs (.not (.castable eU eS)) (by decide +kernel)), va_Nc.of (hs (.not (.castable eU eA)) (by decide +kernel)), va_Nc.of (hs (.not (.castable eS eA)) (by decide +kernel)), fun w hw => va_Nw.of (eW_ot w hw) (hts w ?_)⟩
  simp only [eW, List.mem_cons, List.not_mem_nil, or_false] at hw
  rcases hw with rfl | rfl | rfl | rfl | rfl | rfl
  · exact (List.mem_of_getElem? (i := 886) (by decide +kernel))
  · exact (List.mem_of_getElem? (i := 794) (by decide +kernel))
  · exact (List.mem_of_getElem? (i := 869) (by decide +kernel))
  · exact (List.mem_of_getElem? (i := 800) (by decide +kernel))
  · exact (List.mem_of_getElem? (i := 796) (by decide +kernel))
  · exact (List.mem_of_getElem? (i := 798) (by decide +kernel))
theorem nest_start {args : Array Value} {s : State} (hts : ∀ w ∈ lw_tbl, w.before args s = true) : ∀ w ∈ nestW, va_Nw w s := by
  intro w hw
  have hm : w ∈ lw_tbl ∧ w.onTables = true := by
    simp only [nestW, List.mem_cons, List.not_mem_nil, or_false] at hw
    rcases hw with rfl | rfl | rfl | rfl | rfl | rfl | rfl | rfl | rfl | rfl | rfl | rfl
    · exact ⟨(List.mem_of_getElem? (i := 205) (by decide +kernel)), rfl⟩
    · exact ⟨(List.mem_of_getElem? (i := 471) (by decide +kernel)), rfl⟩
    · exact ⟨(List.mem_of_getElem? (i := 500) (by decide +kernel)), rfl⟩
    · exact ⟨(List.mem_of_getElem? (i := 504) (by decide +kernel)), rfl⟩
    · exact ⟨(List.mem_of_getElem? (i := 697) (by decide +kernel)), rfl⟩
    · exact ⟨(List.mem_of_getElem? (i := 1334) (by decide +kernel)), rfl⟩
    · exact ⟨(List.mem_of_getElem? (i := 1335) (by decide +kernel)), rfl⟩
    · exact ⟨(List.mem_of_getElem? (i := 1336) (by decide +kernel)), rfl⟩
    · exact ⟨(List.mem_of_getElem? (i := 1337) (by decide +kernel)), rfl⟩
    · exact ⟨(List.mem_of_getElem? (i := 1338) (by decide +kernel)), rfl⟩
    · exact ⟨(List.mem_of_getElem? (i := 1339) (by decide +kernel)), rfl⟩
    · exact ⟨(List.mem_of_getElem? (i := 1340) (by decide +kernel)), rfl⟩
  exact va_Nw.of hm.2 (hts w hm.1)

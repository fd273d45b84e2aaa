/-! ===== the abstract machine: values, heap, one step as a weakest precondition ===== -/
abbrev AV : Type := Int32 ⊕ Int64 ⊕ (Nat × Nat) ⊕ Option Nat
abbrev aI (x : Int32) : AV := Sum.inl x
abbrev aL (x : Int64) : AV := Sum.inr (Sum.inl x)
abbrev aR (t p : Nat) : AV := Sum.inr (Sum.inr (Sum.inl (t, p)))
abbrev aS (o : Option Nat) : AV := Sum.inr (Sum.inr (Sum.inr o))
abbrev AH : Type := (Nat → Nat → Nat → Int32) × (Nat → Nat → Nat → Option Nat) × List Nat
abbrev LSt : Type := List (Option AV)
abbrev iI (n : Int) : Int32 := Int32.ofInt n
/-- a constant of the code -/
def cst (n : Int) : Int32 := match n with
  | .ofNat k => nI k
  | .negSucc k => Int32.ofInt (.negSucc k)
theorem cst_eq (n : Int) : Int32.ofInt n = cst n := by
  cases n with
  | ofNat k => exact Int32.ofInt_eq_ofNat
  | negSucc k => rfl
def uI (f : Nat → Nat → Nat → Int32) (t p i : Nat) (x : Int32) : Nat → Nat → Nat → Int32 := fun a b j => if a = t ∧ b = p ∧ j = i then x else f a b j
def uR (f : Nat → Nat → Nat → Option Nat) (t p i : Nat) (x : Option Nat) : Nat → Nat → Nat → Option Nat := fun a b j => if a = t ∧ b = p ∧ j = i then x else f a b j
/-- n elements of the array (t, p) from sp on come to (t', p') from dp on -/
def uC (f : Nat → Nat → Nat → Int32) (t p sp t' p' dp n : Nat) : Nat → Nat → Nat → Int32 := fun a b j => if a = t' ∧ b = p' ∧ dp ≤ j ∧ j < dp + n then f t p (sp + (j - dp)) else f a b j
abbrev wI (h : AH) (t p i : Nat) (x : Int32) : AH := (uI h.1 t p i x, h.2)
abbrev wR (h : AH) (t p i : Nat) (x : Option Nat) : AH := (h.1, uR h.2.1 t p i x, h.2.2)
def acnt (t : Nat) : Nat := [1, 3, 3, 3, 3, 3, 3, 3, 3, 3, 3, 1, 8, 8, 1, 1, 5, 1, 0, 1, 1, 5, 1].getD t 0
def alen (t : Nat) : Nat := [0, 0, 8, 8, 8, 4, 4, 4, 4, 4, 7, 8, 0, 100, 100, 0, 62, 200, 0, 4, 4, 8, 800].getD t 0
def akin (t : Nat) : Nat := [5, 5, 0, 0, 0, 0, 0, 0, 0, 0, 2, 3, 5, 0, 0, 5, 0, 1, 4, 0, 0, 0, 0].getD t 6
def fl (t : Nat) : List (Nat × Nat × Nat) := match t with
  | 0 => [(1, 1, 0), (1, 1, 1), (1, 1, 2), (3, 0, 0), (1, 11, 0), (1, 14, 0)]
  | 1 => [(1, 2, 0), (1, 3, 0), (1, 4, 0), (1, 5, 0), (0, 0, 0), (1, 6, 0), (1, 7, 0), (1, 8, 0), (1, 9, 0), (0, 0, 0), (1, 10, 0), (0, 0, 0), (0, 0, 0)]
  | 12 => [(2, 0, 0), (3, 0, 0), (0, 0, 0), (0, 0, 0), (1, 13, 0)]
  | 15 => [(1, 16, 0), (1, 16, 1), (1, 16, 2), (1, 16, 3), (1, 16, 4), (3, 0, 0), (0, 0, 0), (0, 0, 0), (0, 0, 0), (1, 19, 0), (0, 0, 0), (0, 0, 0), (0, 0, 0), (1, 17, 0), (1, 20, 0), (0, 0, 0), (1, 21, 0), (1, 21, 1), (1, 21, 2), (1, 21, 3), (1, 21, 4), (1, 22, 0), (0, 0, 0)]
  | 18 => [(0, 0, 0), (0, 0, 0), (0, 0, 0), (0, 0, 0), (0, 0, 0), (0, 0, 0), (0, 0, 0)]
  | _ => []
/-- the address, the numbers and the classes of the world: class ids, slots, addresses, array classes, the first address -/
abbrev GL : Type := (Nat → ClassId) × (Nat → Nat → Nat) × (Nat → Nat → Nat) × (Nat → Nat → ClassId) × Nat
def adr (G : GL) (t p : Nat) : Nat := if t = 18 then p else G.2.2.1 t p
abbrev gac (G : GL) : Nat → Nat → ClassId := G.2.2.2.1
abbrev gB (G : GL) : Nat := G.2.2.2.2
def cv (G : GL) (v : AV) : Value := match v with
  | .inl x => .int x
  | .inr (.inl x) => .long x
  | .inr (.inr (.inl q)) => .ref (adr G q.1 q.2)
  | .inr (.inr (.inr o)) => va_rf o
def fval (G : GL) (h : AH) (t p k : Nat) (f : Nat × Nat × Nat) : Value := match f.1 with
  | 1 => .ref (adr G f.2.1 (p + f.2.2))
  | 2 => va_rf (h.2.1 t p k)
  | _ => .int (h.1 t p k)
def flds (G : GL) (h : AH) (t p : Nat) : List Value := (fl t).zipIdx.map (fun q => fval G h t p q.2 q.1)
/-- the class of a sheep by its kind -/
def kcls (k : Int32) : Nat := if k = 1 then 7 else if k = 2 then 2 else if k = 3 then 8 else if k = 4 then 3 else if k = 5 then 1 else if k = 6 then 6 else if k = 7 then 0 else 4
def ocl (h : AH) (t p : Nat) : Nat := match t with
  | 0 => 10
  | 1 => 9
  | 12 => 5
  | 15 => 11
  | _ => kcls (h.1 18 p 0)
def cellE (G : GL) (h : AH) (t p : Nat) : va_E := match akin t with
  | 0 => .inl (gac G t p, (alen t, .inl (h.1 t p)))
  | 1 => .inl (gac G t p, (alen t, .inl (h.1 t p)))
  | 2 => .inl (gac G t p, (alen t, .inr (.inr (.inr (.inr (h.2.1 t p))))))
  | 3 => .inl (gac G t p, (alen t, .inr (.inr (.inr (.inr (fun i => some (adr G 12 i)))))))
  | _ => .inr (ocl h t p, flds G h t p)
def fixed : List (Nat × Nat) := (List.range 23).flatMap fun t => (List.range (acnt t)).map fun p => (t, p)
def idx (h : AH) : List (Nat × Nat) := fixed ++ h.2.2.map (fun a => (18, a))
def fW (G : GL) (h : AH) (q : Nat × Nat) : Nat × va_E := (adr G q.1 q.2, cellE G h q.1 q.2)
def wl (G : GL) (h : AH) : va_W := (idx h).map (fW G h)
def aty (t : Nat) : Option FieldType := match akin t with
  | 0 => some .int
  | 1 => some .boolean
  | 2 => some (.object "MeatForDiamonds$Sheep")
  | 3 => some (.object "MeatForDiamonds$Shelf")
  | _ => none
def tysG (G : GL) : List (ClassId × FieldType) := fixed.filterMap (fun q => (aty q.1).map (fun ty => (gac G q.1 q.2, ty)))
def okv (h : AH) (v : AV) : Prop := match v with
  | .inr (.inr (.inl q)) => q ∈ fixed
  | .inr (.inr (.inr (some a))) => a ∈ h.2.2
  | _ => True
def okh (h : AH) : Prop := ∀ t p i a, h.2.1 t p i = some a → a ∈ h.2.2
def okSt (h : AH) (st : List AV) : Prop := ∀ v ∈ st, okv h v
def nth : LSt → Nat → Option AV
  | [], _ => none
  | a :: _, 0 => a
  | _ :: l, n + 1 => nth l n
def setL : LSt → Nat → Option AV → LSt
  | [], _, _ => []
  | _ :: l, 0, v => v :: l
  | a :: l, n + 1, v => a :: setL l n v
/-- a store of one word: a long that reached into the slot is gone -/
def stL (L : LSt) (i : Nat) (v : Option AV) : LSt := match i with
  | 0 => setL L 0 v
  | j + 1 => match nth L j with
    | some (.inr (.inl _)) => setL (setL L j none) (j + 1) v
    | _ => setL L (j + 1) v
def okLs (h : AH) (L : LSt) : Prop := ∀ i v, nth L i = some v → okv h v
/-- the locals, as the kit lists them -/
def cvL (G : GL) (L : LSt) : List (Nat × Value) := (List.range L.length).filterMap (fun i => (nth L i).map (fun v => (i, cv G v)))
def acat (v : AV) : Nat := match v with
  | .inr (.inl _) => 2
  | _ => 1
def cats (st : List AV) : Nat := match st with
  | [] => 0
  | v :: r => acat v + cats r
/-- what a call does: int, nothing, long, a sheep or null -/
abbrev Tr : Type := (List AV → AH → (Int32 → AH → Prop) → Prop) ⊕ (List AV → AH → (AH → Prop) → Prop) ⊕ (List AV → AH → (Int64 → AH → Prop) → Prop) ⊕ (List AV → AH → (Option Nat → AH → Prop) → Prop)
abbrev RQ : Type := (Int32 → AH → Prop) ⊕ (AH → Prop) ⊕ (Int64 → AH → Prop) ⊕ (Option Nat → AH → Prop)
/-- a call's entry: how many values, frames, locals, cells, slots, what it does -/
abbrev CE : Type := Nat × Nat × Nat × Nat × Nat × Tr
/-- a field's: the receiver's tag, its place, its kind, the tag and the shift of what it links -/
abbrev FC : Type := Nat × Nat × Nat × Nat × Nat
/-- a method: class, bytes, locals, code, fields, constants, calls, and its room: frames, locals, cells, slots -/
abbrev MI : Type := String × ByteArray × Nat × List (Nat × Instr × List Nat) × List (Nat × FC) × List (Nat × Int32) × List (Nat × Int64) × List (Nat × CE) × Nat × Nat × Nat × Nat
abbrev mOwn (M : MI) : String := M.1
abbrev mCC (M : MI) : ByteArray := M.2.1
abbrev mNL (M : MI) : Nat := M.2.2.1
abbrev mCode (M : MI) : List (Nat × Instr × List Nat) := M.2.2.2.1
abbrev mF (M : MI) : List (Nat × FC) := M.2.2.2.2.1
abbrev mC (M : MI) : List (Nat × Int32) := M.2.2.2.2.2.1
abbrev mCl (M : MI) : List (Nat × Int64) := M.2.2.2.2.2.2.1
abbrev mCs (M : MI) : List (Nat × CE) := M.2.2.2.2.2.2.2.1
abbrev mFr (M : MI) : Nat := M.2.2.2.2.2.2.2.2.1
abbrev mLo (M : MI) : Nat := M.2.2.2.2.2.2.2.2.2.1
abbrev mMc (M : MI) : Nat := M.2.2.2.2.2.2.2.2.2.2.1
abbrev mMs (M : MI) : Nat := M.2.2.2.2.2.2.2.2.2.2.2
def lkp {α : Type} : List (Nat × α) → Nat → Option α
  | [], _ => none
  | q :: l, n => match Nat.beq q.1 n with
    | true => some q.2
    | false => lkp l n
def oE (o : Option Nat) (f : Nat → Prop) : Prop := match o with
  | some a => f a
  | none => False
def pI (st : List AV) (k : Int32 → List AV → Prop) : Prop := match st with
  | .inl x :: r => k x r
  | _ => False
def pL (st : List AV) (k : Int64 → List AV → Prop) : Prop := match st with
  | .inr (.inl x) :: r => k x r
  | _ => False
def pR (st : List AV) (k : Nat → Nat → List AV → Prop) : Prop := match st with
  | .inr (.inr (.inl q)) :: r => k q.1 q.2 r
  | _ => False
def pO (st : List AV) (k : Option Nat → List AV → Prop) : Prop := match st with
  | .inr (.inr (.inr o)) :: r => k o r
  | _ => False
/-- any value of one word -/
def p1 (st : List AV) (k : AV → List AV → Prop) : Prop := match st with
  | [] => False
  | v :: r => match Nat.beq (acat v) 1 with
    | true => k v r
    | false => False
/-- a reference: certain, or a sheep, or null -/
def pA (st : List AV) (k : AV → List AV → Prop) : Prop := match st with
  | .inr (.inr v) :: r => k (.inr (.inr v)) r
  | _ => False
def gI (L : LSt) (i : Nat) (k : Int32 → Prop) : Prop := match nth L i with
  | some (.inl x) => k x
  | _ => False
def gL (L : LSt) (i : Nat) (k : Int64 → Prop) : Prop := match nth L i with
  | some (.inr (.inl x)) => k x
  | _ => False
def gA (L : LSt) (i : Nat) (k : AV → Prop) : Prop := match nth L i with
  | some (.inr (.inr v)) => k (.inr (.inr v))
  | _ => False
/-- an instance's receiver: certain, or a sheep that is there -/
def pX (t : Nat) (st : List AV) (k : Nat → List AV → Prop) : Prop := match st with
  | .inr (.inr (.inl q)) :: r => match Nat.beq q.1 t with
    | true => k q.2 r
    | false => False
  | .inr (.inr (.inr o)) :: r => match Nat.beq t 18 with
    | true => oE o (fun a => k a r)
    | false => False
  | _ => False
def tif (b : Bool) (P : Prop) : Prop := match b with
  | true => P
  | false => False
def swc (x : Int32) (jp : Nat → Prop) : Nat → List Nat → Prop
  | _, [] => True
  | i, t :: ts => (x = nI i → jp t) ∧ swc x jp (i + 1) ts
def lks (x : Int32) (jp : Nat → Prop) (d : Nat) : List (Int × Int) → List Nat → Prop
  | [], [] => jp d
  | q :: qs, t :: ts => (x = iI q.1 → jp t) ∧ (¬ x = iI q.1 → lks x jp d qs ts)
  | _, _ => False
def bud (mc ms kc ks mc0 ms0 : Nat) (f : Nat → Nat → Prop) : Prop := match mc, ms with
  | 0, 0 => f kc ks
  | _, _ => (kc + mc ≤ mc0 ∧ ks + ms ≤ ms0) ∧ f (kc + mc) (ks + ms)
def cll (ce : CE) (st : List AV) (h : AH) (kc ks mc0 ms0 : Nat) (nx : List AV → AH → Nat → Nat → Prop) : Prop :=
  tif (Nat.ble ce.1 st.length && Nat.ble (cats (st.drop ce.1)) 8) (bud ce.2.2.2.1 ce.2.2.2.2.1 kc ks mc0 ms0 fun kc ks => match ce.2.2.2.2.2 with
    | .inl T => T (st.take ce.1).reverse h (fun x h => nx (aI x :: st.drop ce.1) h kc ks)
    | .inr (.inl T) => T (st.take ce.1).reverse h (fun h => nx (st.drop ce.1) h kc ks)
    | .inr (.inr (.inl T)) => T (st.take ce.1).reverse h (fun x h => nx (aL x :: st.drop ce.1) h kc ks)
    | .inr (.inr (.inr T)) => T (st.take ce.1).reverse h (fun x h => nx (aS x :: st.drop ce.1) h kc ks))
def inR (i : Int32) (n : Nat) : Prop := 0 ≤ i.toInt ∧ i.toInt < n
abbrev br (c : Prop) (A B : Prop) : Prop := (c → A) ∧ (¬ c → B)
def stp (M : MI) (Q : RQ) (nx : LSt → List AV → AH → Nat → Nat → Prop) (jp : Nat → LSt → List AV → AH → Nat → Nat → Prop) (ins : Instr) (tg : List Nat) (L : LSt) (st : List AV) (h : AH) (kc ks : Nat) : Prop :=
  match ins with
  | .iconst n => nx L (aI (cst n) :: st) h kc ks
  | .bipush n => nx L (aI (cst n) :: st) h kc ks
  | .sipush n => nx L (aI (cst n) :: st) h kc ks
  | .lconst n => nx L (aL (Int64.ofNat (n : Nat)) :: st) h kc ks
  | .aconst_null => nx L (aS none :: st) h kc ks
  | .ldc i => match lkp (mC M) i with
    | some v => nx L (aI v :: st) h kc ks
    | none => False
  | .ldc_w i => match lkp (mC M) i with
    | some v => nx L (aI v :: st) h kc ks
    | none => False
  | .ldc2_w i => match lkp (mCl M) i with
    | some v => nx L (aL v :: st) h kc ks
    | none => False
  | .iload_n i => gI L i fun x => nx L (aI x :: st) h kc ks
  | .iload i => gI L i fun x => nx L (aI x :: st) h kc ks
  | .lload_n i => gL L i fun x => nx L (aL x :: st) h kc ks
  | .lload i => gL L i fun x => nx L (aL x :: st) h kc ks
  | .aload_n i => gA L i fun x => nx L (x :: st) h kc ks
  | .aload i => gA L i fun x => nx L (x :: st) h kc ks
  | .istore_n i => pI st fun x st => nx (stL L i (some (aI x))) st h kc ks
  | .istore i => pI st fun x st => nx (stL L i (some (aI x))) st h kc ks
  | .lstore_n i => pL st fun x st => nx (setL (stL L i (some (aL x))) (i + 1) none) st h kc ks
  | .lstore i => pL st fun x st => nx (setL (stL L i (some (aL x))) (i + 1) none) st h kc ks
  | .astore_n i => pA st fun x st => nx (stL L i (some x)) st h kc ks
  | .astore i => pA st fun x st => nx (stL L i (some x)) st h kc ks
  | .iinc i n => gI L i fun x => nx (stL L i (some (aI (x + cst n)))) st h kc ks
  | .iadd => pI st fun y st => pI st fun x st => nx L (aI (x + y) :: st) h kc ks
  | .isub => pI st fun y st => pI st fun x st => nx L (aI (x - y) :: st) h kc ks
  | .imul => pI st fun y st => pI st fun x st => nx L (aI (x * y) :: st) h kc ks
  | .iand => pI st fun y st => pI st fun x st => nx L (aI (x &&& y) :: st) h kc ks
  | .ior => pI st fun y st => pI st fun x st => nx L (aI (x ||| y) :: st) h kc ks
  | .idiv => pI st fun y st => pI st fun x st => (¬ y = 0) ∧ nx L (aI (x / y) :: st) h kc ks
  | .irem => pI st fun y st => pI st fun x st => (¬ y = 0) ∧ nx L (aI (x - x / y * y) :: st) h kc ks
  | .ineg => pI st fun x st => nx L (aI (-x) :: st) h kc ks
  | .ishl => pI st fun y st => pI st fun x st => nx L (aI (x <<< (y &&& 31)) :: st) h kc ks
  | .ishr => pI st fun y st => pI st fun x st => nx L (aI (x >>> (y &&& 31)) :: st) h kc ks
  | .ladd => pL st fun y st => pL st fun x st => nx L (aL (x + y) :: st) h kc ks
  | .lsub => pL st fun y st => pL st fun x st => nx L (aL (x - y) :: st) h kc ks
  | .land => pL st fun y st => pL st fun x st => nx L (aL (x &&& y) :: st) h kc ks
  | .lor => pL st fun y st => pL st fun x st => nx L (aL (x ||| y) :: st) h kc ks
  | .ldiv => pL st fun y st => pL st fun x st => (¬ y = 0) ∧ nx L (aL (x / y) :: st) h kc ks
  | .lrem => pL st fun y st => pL st fun x st => (¬ y = 0) ∧ nx L (aL (x - x / y * y) :: st) h kc ks
  | .lushr => pI st fun y st => pL st fun x st => nx L (aL ((x.toUInt64 >>> (y.toInt64.toUInt64 &&& Int64.toUInt64 63)).toInt64) :: st) h kc ks
  | .lshl => pI st fun y st => pL st fun x st => nx L (aL (x <<< (y.toInt64 &&& 63)) :: st) h kc ks
  | .lcmp => pL st fun y st => pL st fun x st => nx L (aI (lg_cmp x y) :: st) h kc ks
  | .i2l => pI st fun x st => nx L (aL x.toInt64 :: st) h kc ks
  | .l2i => pL st fun x st => nx L (aI x.toInt32 :: st) h kc ks
  | .i2b => pI st fun x st => nx L (aI x.toInt8.toInt32 :: st) h kc ks
  | .i2s => pI st fun x st => nx L (aI x.toInt16.toInt32 :: st) h kc ks
  | .dup => p1 st fun v st => nx L (v :: v :: st) h kc ks
  | .dup2 => p1 st fun v st => p1 st fun w st => nx L (v :: w :: v :: w :: st) h kc ks
  | .pop => p1 st fun _ st => nx L st h kc ks
  | .goto _ => jp (tg.headD 0) L st h kc ks
  | .ifCond c _ => pI st fun x st => br (match c with
      | .eq => x = 0
      | .ne => ¬ x = 0
      | .lt => x < 0
      | .ge => 0 ≤ x
      | .gt => 0 < x
      | .le => x ≤ 0) (jp (tg.headD 0) L st h kc ks) (nx L st h kc ks)
  | .if_icmp c _ => pI st fun y st => pI st fun x st => br (match c with
      | .eq => x = y
      | .ne => ¬ x = y
      | .lt => x < y
      | .ge => y ≤ x
      | .gt => y < x
      | .le => x ≤ y) (jp (tg.headD 0) L st h kc ks) (nx L st h kc ks)
  | .ifnull _ => pO st fun o st => br (o = none) (jp (tg.headD 0) L st h kc ks) (nx L st h kc ks)
  | .ifnonnull _ => pO st fun o st => br (o = none) (nx L st h kc ks) (jp (tg.headD 0) L st h kc ks)
  | .tableswitch _ lo hi _ => pI st fun x st => (x.toInt < lo ∨ hi < x.toInt → jp (tg.headD 0) L st h kc ks) ∧ swc x (fun t => jp t L st h kc ks) lo.toNat tg.tail
  | .lookupswitch _ ps => pI st fun x st => lks x (fun t => jp t L st h kc ks) (tg.headD 0) ps.toList tg.tail
  | .getfield i => match lkp (mF M) i with
    | some f => pX f.1 st fun p st => match f.2.2.1 with
      | 1 => nx L (aR f.2.2.2.1 (p + f.2.2.2.2) :: st) h kc ks
      | 2 => nx L (aS (h.2.1 f.1 p f.2.1) :: st) h kc ks
      | _ => nx L (aI (h.1 f.1 p f.2.1) :: st) h kc ks
    | none => False
  | .putfield i => match lkp (mF M) i with
    | some f => match f.2.2.1 with
      | 0 => pI st fun x st => pX f.1 st fun p st => tif (!(Nat.beq f.1 18)) (nx L st (wI h f.1 p f.2.1 x) kc ks)
      | 3 => pI st fun x st => pX f.1 st fun p st => tif (!(Nat.beq f.1 18)) ((x = 0 ∨ x = 1) ∧ nx L st (wI h f.1 p f.2.1 x) kc ks)
      | 2 => pO st fun o st => pX f.1 st fun p st => tif (!(Nat.beq f.1 18)) (nx L st (wR h f.1 p f.2.1 o) kc ks)
      | _ => False
    | none => False
  | .iaload => pI st fun i st => pR st fun t p st => tif (Nat.beq (akin t) 0) (inR i (alen t) ∧ nx L (aI (h.1 t p i.toNatClampNeg) :: st) h kc ks)
  | .baload => pI st fun i st => pR st fun t p st => tif (Nat.beq (akin t) 1) (inR i (alen t) ∧ nx L (aI (h.1 t p i.toNatClampNeg) :: st) h kc ks)
  | .aaload => pI st fun i st => pR st fun t p st => match akin t with
    | 2 => inR i (alen t) ∧ nx L (aS (h.2.1 t p i.toNatClampNeg) :: st) h kc ks
    | 3 => inR i (alen t) ∧ nx L (aR 12 i.toNatClampNeg :: st) h kc ks
    | _ => False
  | .iastore => pI st fun x st => pI st fun i st => pR st fun t p st => tif (Nat.beq (akin t) 0) (inR i (alen t) ∧ nx L st (wI h t p i.toNatClampNeg x) kc ks)
  | .bastore => pI st fun x st => pI st fun i st => pR st fun t p st => tif (Nat.beq (akin t) 1) (inR i (alen t) ∧ (x = 0 ∨ x = 1) ∧ nx L st (wI h t p i.toNatClampNeg x) kc ks)
  | .aastore => pO st fun o st => pI st fun i st => pR st fun t p st => tif (Nat.beq (akin t) 2) (inR i (alen t) ∧ nx L st (wR h t p i.toNatClampNeg o) kc ks)
  | .arraylength => pR st fun t _ st => tif (Nat.ble (akin t) 3) (nx L (aI (nI (alen t)) :: st) h kc ks)
  | .invokevirtual i => match lkp (mCs M) (3 * i) with
    | some ce => cll ce st h kc ks (mMc M) (mMs M) fun st h kc ks => nx L st h kc ks
    | none => False
  | .invokestatic i => match lkp (mCs M) (3 * i + 1) with
    | some ce => cll ce st h kc ks (mMc M) (mMs M) fun st h kc ks => nx L st h kc ks
    | none => False
  | .invokespecial i => match lkp (mCs M) (3 * i + 2) with
    | some ce => cll ce st h kc ks (mMc M) (mMs M) fun st h kc ks => nx L st h kc ks
    | none => False
  | .ireturn => match Q with
    | .inl q => match st with
      | [.inl x] => q x h
      | _ => False
    | _ => False
  | .return_ => match Q with
    | .inr (.inl q) => match st with
      | [] => q h
      | _ => False
    | _ => False
  | .lreturn => match Q with
    | .inr (.inr (.inl q)) => match st with
      | [.inr (.inl x)] => q x h
      | _ => False
    | _ => False
  | .areturn => match Q with
    | .inr (.inr (.inr q)) => match st with
      | [.inr (.inr (.inr o))] => q o h
      | _ => False
    | _ => False
  | _ => False
/-! ===== what an abstract state says of the machine ===== -/
def nestW : List Cond := [.methodLinkNest RX5 35 yX10_within RX10, .methodLinkNest RX9 61 yX10_within RX10, .methodLinkNest RX9 90 yX10_stuckOf RX10, .methodLinkNest RX9 101 yX10_worthOfPair RX10, .methodLinkNest RX9 133 yX10_sum RX10, .castable RX7 RX4, .castable RX2 RX4, .castable RX8 RX4, .castable RX3 RX4, .castable RX1 RX4, .castable RX6 RX4, .castable RX0 RX4]
/-- a heap of this size holds the law's own array (its address: adr G 23 0), that no method of the world changes -/
def gok (G : GL) (n : Nat) : Prop := gB G ≤ n ∧ adr G 23 0 < n
theorem gok_mono {G : GL} {n k : Nat} (h : gok G n) (hk : n ≤ k) : gok G k := ⟨Nat.le_trans h.1 hk, Nat.lt_of_lt_of_le h.2 hk⟩
def KG (G : GL) (s : State) : Prop := va_K (G.1, G.2.1) classes (tysG G) s ∧ gok G s.heap.size ∧ ∀ w ∈ nestW, va_Nw w s
def gA0 (G : GL) : Nat → Prop := fun q => gB G ≤ q ∧ q ≠ adr G 23 0
theorem gok_A {G : GL} {n q : Nat} (h : gok G n) (hq : n ≤ q) : gA0 G q := ⟨Nat.le_trans h.1 hq, fun z => Nat.lt_irrefl _ (Nat.lt_of_lt_of_le h.2 (z ▸ hq))⟩
def Wd (G : GL) (h : AH) (s : State) (H : Heap) (locs : List Loc) : Prop := okh h ∧ va_P (G.1, G.2.1) classes (wl G h) H ∧ va_D (gA0 G) (wl G h) ∧ va_S (gA0 G) s.heap H locs
def Cx (M : MI) (p : Program) (R : Room) (s : State) (m : MethodId) (args : Array Value) (c : Code) : Prop :=
  p.tables.exec = Jvm.exec ∧ c.code = mCC M ∧ c.maxLocals = mNL M ∧ s.vm.findClass (mOwn M) = some m.cls ∧ (∀ w ∈ lw_g, w.before args s = true) ∧ mFr M ≤ R.frames ∧ mLo M ≤ R.locals ∧ mMc M ≤ R.cells ∧ mMs M ≤ R.slots
def EndOK (M : MI) (Q : RQ) (G : GL) (p : Program) (l : Launch) (e : Env) (R : Room) (s : State) (m : MethodId) (args : Array Value) (below : List Frame) (meth : Method) (c : Code) (Qf : State → Prop) (S0 : List Nat) : Prop :=
  match Q with
  | .inl q => ∀ (x : Int32) (h : AH) (H : Heap) (locs : List Loc) (kc ks pc : Nat) (ls : Array Slot), decode (mCC M) pc = .ok (.ireturn, 1) → q x h → Wd G h s H locs → (∀ a ∈ S0, a ∈ h.2.2) → kc ≤ mMc M → ks ≤ mMs M → W p l e R s m args below meth c H locs kc ks Qf (F0 m pc ls [.int x])
  | .inr (.inl q) => ∀ (h : AH) (H : Heap) (locs : List Loc) (kc ks pc : Nat) (ls : Array Slot), decode (mCC M) pc = .ok (.return_, 1) → q h → Wd G h s H locs → (∀ a ∈ S0, a ∈ h.2.2) → kc ≤ mMc M → ks ≤ mMs M → W p l e R s m args below meth c H locs kc ks Qf (F0 m pc ls [])
  | .inr (.inr (.inl q)) => ∀ (x : Int64) (h : AH) (H : Heap) (locs : List Loc) (kc ks pc : Nat) (ls : Array Slot), decode (mCC M) pc = .ok (.lreturn, 1) → q x h → Wd G h s H locs → (∀ a ∈ S0, a ∈ h.2.2) → kc ≤ mMc M → ks ≤ mMs M → W p l e R s m args below meth c H locs kc ks Qf (F0 m pc ls [.long x])
  | .inr (.inr (.inr q)) => ∀ (x : Option Nat) (h : AH) (H : Heap) (locs : List Loc) (kc ks pc : Nat) (ls : Array Slot), decode (mCC M) pc = .ok (.areturn, 1) → q x h → okv h (aS x) → Wd G h s H locs → (∀ a ∈ S0, a ∈ h.2.2) → kc ≤ mMc M → ks ≤ mMs M → W p l e R s m args below meth c H locs kc ks Qf (F0 m pc ls [va_rf x])
/-- from this state of the method the machine comes to its end -/
def AW (M : MI) (Q : RQ) (pc : Nat) (L : LSt) (st : List AV) (h : AH) (kc ks : Nat) : Prop :=
  ∀ (G : GL) (p : Program) (l : Launch) (e : Env) (R : Room) (s : State) (m : MethodId) (args : Array Value) (below : List Frame) (meth : Method) (c : Code) (H : Heap) (locs : List Loc) (ls : Array Slot) (Qf : State → Prop) (S0 : List Nat),
    Cx M p R s m args c → KG G s → EndOK M Q G p l e R s m args below meth c Qf S0 → Wd G h s H locs → (∀ a ∈ S0, a ∈ h.2.2) → kc ≤ mMc M → ks ≤ mMs M → okLs h L → okSt h st → lv_has ls (mNL M) (cvL G L) → L.length = mNL M →
    W p l e R s m args below meth c H locs kc ks Qf (F0 m pc ls (st.map (cv G)))
/-- a call's rule -/
def CR (own : String) (ins : Instr) (ce : CE) : Prop :=
  ∀ (G : GL) (p : Program) (l : Launch) (e : Env) (R : Room) (s : State) (m : MethodId) (args : Array Value) (below : List Frame) (meth : Method) (c : Code) (cc : ByteArray) (H : Heap) (locs : List Loc) (kc ks : Nat) (Qf : State → Prop) (pc : Nat) (ls : Array Slot) (as rest : List AV) (h : AH),
    p.tables.exec = Jvm.exec → c.code = cc → c.maxLocals = ls.size → s.vm.findClass own = some m.cls → (∀ w ∈ lw_g, w.before args s = true) → ce.2.1 ≤ R.frames → ce.2.2.1 ≤ R.locals → kc + ce.2.2.2.1 ≤ R.cells → ks + ce.2.2.2.2.1 ≤ R.slots →
    KG G s → Wd G h s H locs → okSt h as → as.length = ce.1 → cats rest ≤ 8 → decode cc pc = .ok (ins, 3) →
    match ce.2.2.2.2.2 with
    | .inl T => ∀ K : Int32 → AH → Prop, T as h K → (∀ (x : Int32) (h' : AH) (H' : Heap) (locs' : List Loc), K x h' → Wd G h' s H' locs' → (∀ a ∈ h.2.2, a ∈ h'.2.2) → W p l e R s m args below meth c H' locs' (kc + ce.2.2.2.1) (ks + ce.2.2.2.2.1) Qf (F0 m (pc + 3) ls (.int x :: rest.map (cv G)))) → W p l e R s m args below meth c H locs kc ks Qf (F0 m pc ls ((as.map (cv G)).reverse ++ rest.map (cv G)))
    | .inr (.inl T) => ∀ K : AH → Prop, T as h K → (∀ (h' : AH) (H' : Heap) (locs' : List Loc), K h' → Wd G h' s H' locs' → (∀ a ∈ h.2.2, a ∈ h'.2.2) → W p l e R s m args below meth c H' locs' (kc + ce.2.2.2.1) (ks + ce.2.2.2.2.1) Qf (F0 m (pc + 3) ls (rest.map (cv G)))) → W p l e R s m args below meth c H locs kc ks Qf (F0 m pc ls ((as.map (cv G)).reverse ++ rest.map (cv G)))
    | .inr (.inr (.inl T)) => ∀ K : Int64 → AH → Prop, T as h K → (∀ (x : Int64) (h' : AH) (H' : Heap) (locs' : List Loc), K x h' → Wd G h' s H' locs' → (∀ a ∈ h.2.2, a ∈ h'.2.2) → W p l e R s m args below meth c H' locs' (kc + ce.2.2.2.1) (ks + ce.2.2.2.2.1) Qf (F0 m (pc + 3) ls (.long x :: rest.map (cv G)))) → W p l e R s m args below meth c H locs kc ks Qf (F0 m pc ls ((as.map (cv G)).reverse ++ rest.map (cv G)))
    | .inr (.inr (.inr T)) => ∀ K : Option Nat → AH → Prop, T as h K → (∀ (x : Option Nat) (h' : AH) (H' : Heap) (locs' : List Loc), K x h' → okv h' (aS x) → Wd G h' s H' locs' → (∀ a ∈ h.2.2, a ∈ h'.2.2) → W p l e R s m args below meth c H' locs' (kc + ce.2.2.2.1) (ks + ce.2.2.2.2.1) Qf (F0 m (pc + 3) ls (va_rf x :: rest.map (cv G)))) → W p l e R s m args below meth c H locs kc ks Qf (F0 m pc ls ((as.map (cv G)).reverse ++ rest.map (cv G)))
/-! ===== the checks of a method's tables ===== -/
def ilen (i : Instr) : Nat := match i with
  | .bipush _ => 2
  | .sipush _ => 3
  | .ldc _ => 2
  | .ldc_w _ => 3
  | .ldc2_w _ => 3
  | .iload _ => 2
  | .lload _ => 2
  | .aload _ => 2
  | .istore _ => 2
  | .lstore _ => 2
  | .astore _ => 2
  | .iinc _ _ => 3
  | .goto _ => 3
  | .ifCond _ _ => 3
  | .if_icmp _ _ => 3
  | .ifnull _ => 3
  | .ifnonnull _ => 3
  | .getfield _ => 3
  | .putfield _ => 3
  | .invokevirtual _ => 3
  | .invokestatic _ => 3
  | .invokespecial _ => 3
  | .tableswitch _ _ _ _ => 0
  | .lookupswitch _ _ => 0
  | _ => 1
def nofall (i : Instr) : Bool := match i with
  | .goto _ => true
  | .tableswitch _ _ _ _ => true
  | .lookupswitch _ _ => true
  | .ireturn => true
  | .lreturn => true
  | .areturn => true
  | .return_ => true
  | _ => false
def tok (pc nL : Nat) (i : Instr) (tg : List Nat) : Bool := match i with
  | .goto off => decide ((pc : Int) + off = (tg.headD 0 : Int))
  | .ifCond _ off => decide ((pc : Int) + off = (tg.headD 0 : Int))
  | .if_icmp _ off => decide ((pc : Int) + off = (tg.headD 0 : Int))
  | .ifnull off => decide ((pc : Int) + off = (tg.headD 0 : Int))
  | .ifnonnull off => decide ((pc : Int) + off = (tg.headD 0 : Int))
  | .tableswitch d lo hi offs => decide ((pc : Int) + d = (tg.headD 0 : Int)) && decide (0 ≤ lo ∧ lo ≤ hi ∧ hi < 1000) && decide (offs.toList.map (fun o => (pc : Int) + o) = tg.tail.map (fun t : Nat => (t : Int))) && decide ((offs.size : Int) = hi - lo + 1)
  | .lookupswitch d ps => decide ((pc : Int) + d = (tg.headD 0 : Int)) && (ps.toList.zip (ps.toList.drop 1)).all (fun (a, next) => a.1 < next.1) && decide (ps.toList.map (fun o => (pc : Int) + o.2) = tg.tail.map (fun t : Nat => (t : Int))) && ps.toList.all (fun q => decide (-1000 < q.1 ∧ q.1 < 1000))
  | .bipush n => decide ((Int8.ofInt n).toInt32 = Int32.ofInt n)
  | .sipush n => decide ((Int16.ofInt n).toInt32 = Int32.ofInt n)
  | .istore_n k => Nat.blt k nL
  | .istore k => Nat.blt k nL
  | .astore_n k => Nat.blt k nL
  | .astore k => Nat.blt k nL
  | .iinc k _ => Nat.blt k nL
  | .lstore_n k => Nat.blt (k + 1) nL
  | .lstore k => Nat.blt (k + 1) nL
  | _ => true
def cok1 (cc : ByteArray) (nL : Nat) (q : Nat × Instr × List Nat) : Bool := (match decode cc q.1 with
  | .ok (i, n) => decide (i = q.2.1) && (Nat.beq (ilen i) 0 || Nat.beq (ilen i) n)
  | .error _ => false) && tok q.1 nL q.2.1 q.2.2
def cok (cc : ByteArray) (nL : Nat) : List (Nat × Instr × List Nat) → Bool
  | [] => true
  | q :: r => cok1 cc nL q && (match r with
    | [] => true
    | q' :: _ => nofall q.2.1 || Nat.beq q'.1 (q.1 + ilen q.2.1)) && cok cc nL r
def TC (t : Nat) : u_T := match t with
  | 0 => TX10
  | 1 => TX9
  | 12 => TX5
  | 15 => TX11
  | _ => TX4
def isob (t : Nat) : Bool := Nat.beq t 0 || Nat.beq t 1 || Nat.beq t 12 || Nat.beq t 15 || Nat.beq t 18
abbrev FOK (own : String) (q : Nat × FC) : Prop := isob q.2.1 = true ∧ (fl q.2.1)[q.2.2.1]? = some q.2.2.2 ∧ Cond.fieldLink own q.1 (TC q.2.1 q.2.2.1).1 (TC q.2.1 q.2.2.1).2.1 (TC q.2.1 q.2.2.1).2.2.1 ∈ lw_g
def kIns (k : Nat) : Instr := match k % 3 with
  | 0 => .invokevirtual (k / 3)
  | 1 => .invokestatic (k / 3)
  | _ => .invokespecial (k / 3)
def MOK (M : MI) : Prop := cok (mCC M) (mNL M) (mCode M) = true ∧ (∀ q ∈ mF M, FOK (mOwn M) q) ∧ (∀ q ∈ mC M, Cond.constant (mOwn M) q.1 q.2 ∈ lw_g) ∧ (∀ q ∈ mCl M, Cond.constantLong (mOwn M) q.1 q.2 ∈ lw_g) ∧ ∀ q ∈ mCs M, q.2.2.1 ≤ mFr M ∧ q.2.2.2.1 ≤ mLo M ∧ CR (mOwn M) (kIns q.1) q.2
/-! ===== the run of a method between its cuts ===== -/
def msk : List Bool → LSt → LSt
  | b :: bs, a :: l => (match b with
    | true => a
    | false => none) :: msk bs l
  | _, l => l
def frm : List (Nat × Instr × List Nat) → Nat → List (Nat × Instr × List Nat)
  | [], _ => []
  | q :: r, t => match Nat.beq q.1 t with
    | true => q :: r
    | false => frm r t
def ctg (M : MI) (Q : RQ) (cuts : List (Nat × List Bool)) (g : List (Nat × Instr × List Nat) → LSt → List AV → AH → Nat → Nat → Prop) (r : List (Nat × Instr × List Nat)) (L : LSt) (st : List AV) (h : AH) (kc ks : Nat) : Prop := match r with
  | [] => False
  | q :: r => match lkp cuts q.1 with
    | some b => AW M Q q.1 (msk b L) st h kc ks
    | none => g (q :: r) L st h kc ks
def go (M : MI) (Q : RQ) (cuts : List (Nat × List Bool)) : Nat → List (Nat × Instr × List Nat) → LSt → List AV → AH → Nat → Nat → Prop
  | 0, _, _, _, _, _, _ => False
  | n + 1, cur, L, st, h, kc, ks => match cur with
    | [] => False
    | q :: r => stp M Q (ctg M Q cuts (go M Q cuts n) r) (fun t => ctg M Q cuts (go M Q cuts n) (frm (mCode M) t)) q.2.1 q.2.2 L st h kc ks

section
-- ===== PART A: goes FIRST, ahead of the names: the tables' words, and 'selects' of the private methods out of them =====
/-- a private method of a class that the tables say can be made, by its rows of tables_1 -/
def lw_okq (q : MethodName × Nat) : Prop := (q.1.cls ≠ "java/lang/invoke/MethodHandle" ∧ q.1.cls ≠ "java/lang/invoke/VarHandle") ∧ Cond.instantiable q.1.cls q.2 ∈ tables_1 ∧ Cond.privateMethod q.1 ∈ tables_1 ∧ Cond.instanceMethod q.1 ∈ tables_1
theorem lw_p0 : lw_okq (⟨"MeatForDiamonds", "refusedBytes", "(I)I"⟩, 6) := ⟨⟨by decide +kernel, by decide +kernel⟩, List.mem_of_getElem? (i := 23) (by decide +kernel), List.mem_of_getElem? (i := 144) (by decide +kernel), List.mem_of_getElem? (i := 145) (by decide +kernel)⟩
theorem lw_p1 : lw_okq (⟨"MeatForDiamonds", "refusedRow", "(I)I"⟩, 6) := ⟨⟨by decide +kernel, by decide +kernel⟩, List.mem_of_getElem? (i := 23) (by decide +kernel), List.mem_of_getElem? (i := 148) (by decide +kernel), List.mem_of_getElem? (i := 149) (by decide +kernel)⟩
theorem lw_p2 : lw_okq (⟨"MeatForDiamonds", "refusedHeld", "(I)I"⟩, 6) := ⟨⟨by decide +kernel, by decide +kernel⟩, List.mem_of_getElem? (i := 23) (by decide +kernel), List.mem_of_getElem? (i := 152) (by decide +kernel), List.mem_of_getElem? (i := 153) (by decide +kernel)⟩
theorem lw_p3 : lw_okq (⟨"MeatForDiamonds", "follow", "(LMeatForDiamonds$Shelf;I)Z"⟩, 6) := ⟨⟨by decide +kernel, by decide +kernel⟩, List.mem_of_getElem? (i := 23) (by decide +kernel), List.mem_of_getElem? (i := 179) (by decide +kernel), List.mem_of_getElem? (i := 180) (by decide +kernel)⟩
theorem lw_p4 : lw_okq (⟨"MeatForDiamonds", "followCell", "(LMeatForDiamonds$Shelf;I)Z"⟩, 6) := ⟨⟨by decide +kernel, by decide +kernel⟩, List.mem_of_getElem? (i := 23) (by decide +kernel), List.mem_of_getElem? (i := 183) (by decide +kernel), List.mem_of_getElem? (i := 184) (by decide +kernel)⟩
theorem lw_p5 : lw_okq (⟨"MeatForDiamonds", "followEagle", "(LMeatForDiamonds$Shelf;I)Z"⟩, 6) := ⟨⟨by decide +kernel, by decide +kernel⟩, List.mem_of_getElem? (i := 23) (by decide +kernel), List.mem_of_getElem? (i := 195) (by decide +kernel), List.mem_of_getElem? (i := 196) (by decide +kernel)⟩
theorem lw_p6 : lw_okq (⟨"MeatForDiamonds", "followDrums", "(I)Z"⟩, 6) := ⟨⟨by decide +kernel, by decide +kernel⟩, List.mem_of_getElem? (i := 23) (by decide +kernel), List.mem_of_getElem? (i := 409) (by decide +kernel), List.mem_of_getElem? (i := 410) (by decide +kernel)⟩
theorem lw_p7 : lw_okq (⟨"MeatForDiamonds", "followWait", "(I)Z"⟩, 6) := ⟨⟨by decide +kernel, by decide +kernel⟩, List.mem_of_getElem? (i := 23) (by decide +kernel), List.mem_of_getElem? (i := 413) (by decide +kernel), List.mem_of_getElem? (i := 414) (by decide +kernel)⟩
theorem lw_p8 : lw_okq (⟨"MeatForDiamonds", "followThrow", "(II)Z"⟩, 6) := ⟨⟨by decide +kernel, by decide +kernel⟩, List.mem_of_getElem? (i := 23) (by decide +kernel), List.mem_of_getElem? (i := 424) (by decide +kernel), List.mem_of_getElem? (i := 425) (by decide +kernel)⟩
theorem lw_p9 : lw_okq (⟨"MeatForDiamonds", "refusedSheep", "(I)I"⟩, 6) := ⟨⟨by decide +kernel, by decide +kernel⟩, List.mem_of_getElem? (i := 23) (by decide +kernel), List.mem_of_getElem? (i := 496) (by decide +kernel), List.mem_of_getElem? (i := 497) (by decide +kernel)⟩
theorem lw_p10 : lw_okq (⟨"MeatForDiamonds", "broughtDrumming", "(IIII)I"⟩, 6) := ⟨⟨by decide +kernel, by decide +kernel⟩, List.mem_of_getElem? (i := 23) (by decide +kernel), List.mem_of_getElem? (i := 571) (by decide +kernel), List.mem_of_getElem? (i := 572) (by decide +kernel)⟩
theorem lw_p11 : lw_okq (⟨"MeatForDiamonds", "refusedTold", "(II)I"⟩, 6) := ⟨⟨by decide +kernel, by decide +kernel⟩, List.mem_of_getElem? (i := 23) (by decide +kernel), List.mem_of_getElem? (i := 605) (by decide +kernel), List.mem_of_getElem? (i := 606) (by decide +kernel)⟩
theorem lw_p12 : lw_okq (⟨"MeatForDiamonds", "fitPairs", "(LMeatForDiamonds$Sheep;LMeatForDiamonds$Shelf;)I"⟩, 6) := ⟨⟨by decide +kernel, by decide +kernel⟩, List.mem_of_getElem? (i := 23) (by decide +kernel), List.mem_of_getElem? (i := 609) (by decide +kernel), List.mem_of_getElem? (i := 610) (by decide +kernel)⟩
theorem lw_p13 : lw_okq (⟨"MeatForDiamonds", "unlikeNumbers", "(LMeatForDiamonds$Sheep;)I"⟩, 6) := ⟨⟨by decide +kernel, by decide +kernel⟩, List.mem_of_getElem? (i := 23) (by decide +kernel), List.mem_of_getElem? (i := 622) (by decide +kernel), List.mem_of_getElem? (i := 623) (by decide +kernel)⟩
theorem lw_p14 : lw_okq (⟨"java/lang/Throwable", "fillInStackTrace", "(I)Ljava/lang/Throwable;"⟩, 6) := ⟨⟨by decide +kernel, by decide +kernel⟩, List.mem_of_getElem? (i := 790) (by decide +kernel), List.mem_of_getElem? (i := 788) (by decide +kernel), List.mem_of_getElem? (i := 789) (by decide +kernel)⟩
theorem lw_p15 : lw_okq (⟨"MeatForDiamondsModel", "wrongRow", "(II)I"⟩, 23) := ⟨⟨by decide +kernel, by decide +kernel⟩, List.mem_of_getElem? (i := 873) (by decide +kernel), List.mem_of_getElem? (i := 954) (by decide +kernel), List.mem_of_getElem? (i := 955) (by decide +kernel)⟩
def lw_privs_1 : List (MethodName × Nat) := [(⟨"MeatForDiamonds", "refusedBytes", "(I)I"⟩, 6), (⟨"MeatForDiamonds", "refusedRow", "(I)I"⟩, 6), (⟨"MeatForDiamonds", "refusedHeld", "(I)I"⟩, 6), (⟨"MeatForDiamonds", "follow", "(LMeatForDiamonds$Shelf;I)Z"⟩, 6), (⟨"MeatForDiamonds", "followCell", "(LMeatForDiamonds$Shelf;I)Z"⟩, 6), (⟨"MeatForDiamonds", "followEagle", "(LMeatForDiamonds$Shelf;I)Z"⟩, 6), (⟨"MeatForDiamonds", "followDrums", "(I)Z"⟩, 6), (⟨"MeatForDiamonds", "followWait", "(I)Z"⟩, 6), (⟨"MeatForDiamonds", "followThrow", "(II)Z"⟩, 6), (⟨"MeatForDiamonds", "refusedSheep", "(I)I"⟩, 6), (⟨"MeatForDiamonds", "broughtDrumming", "(IIII)I"⟩, 6), (⟨"MeatForDiamonds", "refusedTold", "(II)I"⟩, 6), (⟨"MeatForDiamonds", "fitPairs", "(LMeatForDiamonds$Sheep;LMeatForDiamonds$Shelf;)I"⟩, 6), (⟨"MeatForDiamonds", "unlikeNumbers", "(LMeatForDiamonds$Sheep;)I"⟩, 6), (⟨"java/lang/Throwable", "fillInStackTrace", "(I)Ljava/lang/Throwable;"⟩, 6), (⟨"MeatForDiamondsModel", "wrongRow", "(II)I"⟩, 23)]
theorem lw_r1 : ∀ q ∈ lw_privs_1, lw_okq q := List.forall_mem_cons.mpr ⟨lw_p0, List.forall_mem_cons.mpr ⟨lw_p1, List.forall_mem_cons.mpr ⟨lw_p2, List.forall_mem_cons.mpr ⟨lw_p3, List.forall_mem_cons.mpr ⟨lw_p4, List.forall_mem_cons.mpr ⟨lw_p5, List.forall_mem_cons.mpr ⟨lw_p6, List.forall_mem_cons.mpr ⟨lw_p7, List.forall_mem_cons.mpr ⟨lw_p8, List.forall_mem_cons.mpr ⟨lw_p9, List.forall_mem_cons.mpr ⟨lw_p10, List.forall_mem_cons.mpr ⟨lw_p11, List.forall_mem_cons.mpr ⟨lw_p12, List.forall_mem_cons.mpr ⟨lw_p13, List.forall_mem_cons.mpr ⟨lw_p14, List.forall_mem_cons.mpr ⟨lw_p15, fun _ h => absurd h List.not_mem_nil⟩⟩⟩⟩⟩⟩⟩⟩⟩⟩⟩⟩⟩⟩⟩⟩
theorem lw_p16 : lw_okq (⟨"MeatForDiamondsModel", "readsStatement", "()Z"⟩, 23) := ⟨⟨by decide +kernel, by decide +kernel⟩, List.mem_of_getElem? (i := 873) (by decide +kernel), List.mem_of_getElem? (i := 964) (by decide +kernel), List.mem_of_getElem? (i := 965) (by decide +kernel)⟩
theorem lw_p17 : lw_okq (⟨"MeatForDiamondsModel", "here", "()I"⟩, 23) := ⟨⟨by decide +kernel, by decide +kernel⟩, List.mem_of_getElem? (i := 873) (by decide +kernel), List.mem_of_getElem? (i := 968) (by decide +kernel), List.mem_of_getElem? (i := 969) (by decide +kernel)⟩
theorem lw_p18 : lw_okq (⟨"MeatForDiamondsModel", "readsNumber", "(II)Z"⟩, 23) := ⟨⟨by decide +kernel, by decide +kernel⟩, List.mem_of_getElem? (i := 873) (by decide +kernel), List.mem_of_getElem? (i := 972) (by decide +kernel), List.mem_of_getElem? (i := 973) (by decide +kernel)⟩
theorem lw_p19 : lw_okq (⟨"MeatForDiamondsModel", "isDone", "(I)Z"⟩, 23) := ⟨⟨by decide +kernel, by decide +kernel⟩, List.mem_of_getElem? (i := 873) (by decide +kernel), List.mem_of_getElem? (i := 979) (by decide +kernel), List.mem_of_getElem? (i := 980) (by decide +kernel)⟩
theorem lw_p20 : lw_okq (⟨"MeatForDiamondsModel", "addsSheep", "(II)V"⟩, 23) := ⟨⟨by decide +kernel, by decide +kernel⟩, List.mem_of_getElem? (i := 873) (by decide +kernel), List.mem_of_getElem? (i := 992) (by decide +kernel), List.mem_of_getElem? (i := 993) (by decide +kernel)⟩
theorem lw_p21 : lw_okq (⟨"MeatForDiamondsModel", "isSheep", "(I)Z"⟩, 23) := ⟨⟨by decide +kernel, by decide +kernel⟩, List.mem_of_getElem? (i := 873) (by decide +kernel), List.mem_of_getElem? (i := 1008) (by decide +kernel), List.mem_of_getElem? (i := 1009) (by decide +kernel)⟩
theorem lw_p22 : lw_okq (⟨"MeatForDiamondsModel", "isEagle", "(I)Z"⟩, 23) := ⟨⟨by decide +kernel, by decide +kernel⟩, List.mem_of_getElem? (i := 873) (by decide +kernel), List.mem_of_getElem? (i := 1050) (by decide +kernel), List.mem_of_getElem? (i := 1051) (by decide +kernel)⟩
theorem lw_p23 : lw_okq (⟨"MeatForDiamondsModel", "wrongKept", "(I)I"⟩, 23) := ⟨⟨by decide +kernel, by decide +kernel⟩, List.mem_of_getElem? (i := 873) (by decide +kernel), List.mem_of_getElem? (i := 1069) (by decide +kernel), List.mem_of_getElem? (i := 1070) (by decide +kernel)⟩
theorem lw_p24 : lw_okq (⟨"MeatForDiamondsModel", "wrongThrow", "(II)I"⟩, 23) := ⟨⟨by decide +kernel, by decide +kernel⟩, List.mem_of_getElem? (i := 873) (by decide +kernel), List.mem_of_getElem? (i := 1085) (by decide +kernel), List.mem_of_getElem? (i := 1086) (by decide +kernel)⟩
theorem lw_p25 : lw_okq (⟨"MeatForDiamondsModel", "broughtBy", "([III)I"⟩, 23) := ⟨⟨by decide +kernel, by decide +kernel⟩, List.mem_of_getElem? (i := 873) (by decide +kernel), List.mem_of_getElem? (i := 1097) (by decide +kernel), List.mem_of_getElem? (i := 1098) (by decide +kernel)⟩
theorem lw_p26 : lw_okq (⟨"MeatForDiamondsModel", "bestBy", "([I)I"⟩, 23) := ⟨⟨by decide +kernel, by decide +kernel⟩, List.mem_of_getElem? (i := 873) (by decide +kernel), List.mem_of_getElem? (i := 1109) (by decide +kernel), List.mem_of_getElem? (i := 1110) (by decide +kernel)⟩
theorem lw_p27 : lw_okq (⟨"MeatForDiamondsModel", "wrongSheepRow", "(II)I"⟩, 23) := ⟨⟨by decide +kernel, by decide +kernel⟩, List.mem_of_getElem? (i := 873) (by decide +kernel), List.mem_of_getElem? (i := 1163) (by decide +kernel), List.mem_of_getElem? (i := 1164) (by decide +kernel)⟩
theorem lw_p28 : lw_okq (⟨"MeatForDiamondsModel", "wrongAt", "(III)I"⟩, 23) := ⟨⟨by decide +kernel, by decide +kernel⟩, List.mem_of_getElem? (i := 873) (by decide +kernel), List.mem_of_getElem? (i := 1167) (by decide +kernel), List.mem_of_getElem? (i := 1168) (by decide +kernel)⟩
theorem lw_p29 : lw_okq (⟨"MeatForDiamondsModel", "takes", "(I)I"⟩, 23) := ⟨⟨by decide +kernel, by decide +kernel⟩, List.mem_of_getElem? (i := 873) (by decide +kernel), List.mem_of_getElem? (i := 1171) (by decide +kernel), List.mem_of_getElem? (i := 1172) (by decide +kernel)⟩
theorem lw_p30 : lw_okq (⟨"MeatForDiamondsModel", "partsBy", "(III)I"⟩, 23) := ⟨⟨by decide +kernel, by decide +kernel⟩, List.mem_of_getElem? (i := 873) (by decide +kernel), List.mem_of_getElem? (i := 1179) (by decide +kernel), List.mem_of_getElem? (i := 1180) (by decide +kernel)⟩
theorem lw_p31 : lw_okq (⟨"MeatForDiamondsModel", "isChoice", "(II)Z"⟩, 23) := ⟨⟨by decide +kernel, by decide +kernel⟩, List.mem_of_getElem? (i := 873) (by decide +kernel), List.mem_of_getElem? (i := 1202) (by decide +kernel), List.mem_of_getElem? (i := 1203) (by decide +kernel)⟩
def lw_privs_2 : List (MethodName × Nat) := [(⟨"MeatForDiamondsModel", "readsStatement", "()Z"⟩, 23), (⟨"MeatForDiamondsModel", "here", "()I"⟩, 23), (⟨"MeatForDiamondsModel", "readsNumber", "(II)Z"⟩, 23), (⟨"MeatForDiamondsModel", "isDone", "(I)Z"⟩, 23), (⟨"MeatForDiamondsModel", "addsSheep", "(II)V"⟩, 23), (⟨"MeatForDiamondsModel", "isSheep", "(I)Z"⟩, 23), (⟨"MeatForDiamondsModel", "isEagle", "(I)Z"⟩, 23), (⟨"MeatForDiamondsModel", "wrongKept", "(I)I"⟩, 23), (⟨"MeatForDiamondsModel", "wrongThrow", "(II)I"⟩, 23), (⟨"MeatForDiamondsModel", "broughtBy", "([III)I"⟩, 23), (⟨"MeatForDiamondsModel", "bestBy", "([I)I"⟩, 23), (⟨"MeatForDiamondsModel", "wrongSheepRow", "(II)I"⟩, 23), (⟨"MeatForDiamondsModel", "wrongAt", "(III)I"⟩, 23), (⟨"MeatForDiamondsModel", "takes", "(I)I"⟩, 23), (⟨"MeatForDiamondsModel", "partsBy", "(III)I"⟩, 23), (⟨"MeatForDiamondsModel", "isChoice", "(II)Z"⟩, 23)]
theorem lw_r2 : ∀ q ∈ lw_privs_2, lw_okq q := List.forall_mem_cons.mpr ⟨lw_p16, List.forall_mem_cons.mpr ⟨lw_p17, List.forall_mem_cons.mpr ⟨lw_p18, List.forall_mem_cons.mpr ⟨lw_p19, List.forall_mem_cons.mpr ⟨lw_p20, List.forall_mem_cons.mpr ⟨lw_p21, List.forall_mem_cons.mpr ⟨lw_p22, List.forall_mem_cons.mpr ⟨lw_p23, List.forall_mem_cons.mpr ⟨lw_p24, List.forall_mem_cons.mpr ⟨lw_p25, List.forall_mem_cons.mpr ⟨lw_p26, List.forall_mem_cons.mpr ⟨lw_p27, List.forall_mem_cons.mpr ⟨lw_p28, List.forall_mem_cons.mpr ⟨lw_p29, List.forall_mem_cons.mpr ⟨lw_p30, List.forall_mem_cons.mpr ⟨lw_p31, fun _ h => absurd h List.not_mem_nil⟩⟩⟩⟩⟩⟩⟩⟩⟩⟩⟩⟩⟩⟩⟩⟩
theorem lw_p32 : lw_okq (⟨"MeatForDiamondsModel", "isBest", "([III)Z"⟩, 23) := ⟨⟨by decide +kernel, by decide +kernel⟩, List.mem_of_getElem? (i := 873) (by decide +kernel), List.mem_of_getElem? (i := 1206) (by decide +kernel), List.mem_of_getElem? (i := 1207) (by decide +kernel)⟩
theorem lw_p33 : lw_okq (⟨"MeatForDiamondsModel", "gainBy", "([III)I"⟩, 23) := ⟨⟨by decide +kernel, by decide +kernel⟩, List.mem_of_getElem? (i := 873) (by decide +kernel), List.mem_of_getElem? (i := 1210) (by decide +kernel), List.mem_of_getElem? (i := 1211) (by decide +kernel)⟩
theorem lw_p34 : lw_okq (⟨"MeatForDiamondsModel", "sorts", "()V"⟩, 23) := ⟨⟨by decide +kernel, by decide +kernel⟩, List.mem_of_getElem? (i := 873) (by decide +kernel), List.mem_of_getElem? (i := 1218) (by decide +kernel), List.mem_of_getElem? (i := 1219) (by decide +kernel)⟩
theorem lw_p35 : lw_okq (⟨"MeatForDiamondsModel", "drawn", "(I)I"⟩, 23) := ⟨⟨by decide +kernel, by decide +kernel⟩, List.mem_of_getElem? (i := 873) (by decide +kernel), List.mem_of_getElem? (i := 1238) (by decide +kernel), List.mem_of_getElem? (i := 1239) (by decide +kernel)⟩
def lw_privs_3 : List (MethodName × Nat) := [(⟨"MeatForDiamondsModel", "isBest", "([III)Z"⟩, 23), (⟨"MeatForDiamondsModel", "gainBy", "([III)I"⟩, 23), (⟨"MeatForDiamondsModel", "sorts", "()V"⟩, 23), (⟨"MeatForDiamondsModel", "drawn", "(I)I"⟩, 23)]
theorem lw_r3 : ∀ q ∈ lw_privs_3, lw_okq q := List.forall_mem_cons.mpr ⟨lw_p32, List.forall_mem_cons.mpr ⟨lw_p33, List.forall_mem_cons.mpr ⟨lw_p34, List.forall_mem_cons.mpr ⟨lw_p35, fun _ h => absurd h List.not_mem_nil⟩⟩⟩⟩
def lw_privs : List (MethodName × Nat) := lw_privs_1 ++ (lw_privs_2 ++ (lw_privs_3))
def lw_tbl : List Cond := k2_sels lw_privs ++ tables_1
theorem lw_privs_ok : ∀ q ∈ lw_privs, lw_okq q := by
  show ∀ q ∈ lw_privs_1 ++ (lw_privs_2 ++ (lw_privs_3)), lw_okq q
  exact List.forall_mem_append.mpr ⟨lw_r1, List.forall_mem_append.mpr ⟨lw_r2, lw_r3⟩⟩
end
section
def RX0 : String := "MeatForDiamonds$Bone"
def TX0 : u_T := fun k => match k with
  | 0 => ("MeatForDiamonds$Sheep", "kind", "I", true)
  | 1 => ("MeatForDiamonds$Sheep", "figure", "I", true)
  | 2 => ("MeatForDiamonds$Sheep", "weight", "I", false)
  | 3 => ("MeatForDiamonds$Sheep", "sticks", "I", false)
  | 4 => ("MeatForDiamonds$Sheep", "flies", "I", false)
  | 5 => ("MeatForDiamonds$Sheep", "price", "I", false)
  | _ => ("MeatForDiamonds$Sheep", "costs", "I", false)
def tyX0 : Nat → FieldType := fun k => match k with
  | 0 => .int
  | 1 => .int
  | 2 => .int
  | 3 => .int
  | 4 => .int
  | 5 => .int
  | _ => .int
abbrev wsX00 : List Cond := u_ws RX0 TX0 7
theorem nmX0 : ∀ a, a < 7 → ∀ b, b < 7 → a ≠ b → (TX0 a).2.1 ≠ (TX0 b).2.1 := by decide +kernel
theorem tyX0_ok : ∀ k, k < 7 → parseFieldDescriptor (TX0 k).2.2.1 = some (tyX0 k) := by decide +kernel
abbrev cX0_init : ByteArray := prog_2_method_1_code
def yX0_init : MethodName := ⟨RX0, "<init>", "(II)V"⟩
abbrev cX0_fail : ByteArray := prog_2_method_2_code
def yX0_fail : MethodName := ⟨RX0, "fail", "()V"⟩
def RX1 : String := "MeatForDiamonds$DoubleSheep"
def TX1 : u_T := fun k => match k with
  | 0 => ("MeatForDiamonds$Sheep", "kind", "I", true)
  | 1 => ("MeatForDiamonds$Sheep", "figure", "I", true)
  | 2 => ("MeatForDiamonds$Sheep", "weight", "I", false)
  | 3 => ("MeatForDiamonds$Sheep", "sticks", "I", false)
  | 4 => ("MeatForDiamonds$Sheep", "flies", "I", false)
  | 5 => ("MeatForDiamonds$Sheep", "price", "I", false)
  | _ => ("MeatForDiamonds$Sheep", "costs", "I", false)
def tyX1 : Nat → FieldType := fun k => match k with
  | 0 => .int
  | 1 => .int
  | 2 => .int
  | 3 => .int
  | 4 => .int
  | 5 => .int
  | _ => .int
abbrev wsX10 : List Cond := u_ws RX1 TX1 7
theorem nmX1 : ∀ a, a < 7 → ∀ b, b < 7 → a ≠ b → (TX1 a).2.1 ≠ (TX1 b).2.1 := by decide +kernel
theorem tyX1_ok : ∀ k, k < 7 → parseFieldDescriptor (TX1 k).2.2.1 = some (tyX1 k) := by decide +kernel
abbrev cX1_init : ByteArray := prog_3_method_1_code
def yX1_init : MethodName := ⟨RX1, "<init>", "(II)V"⟩
def RX2 : String := "MeatForDiamonds$FatSheep"
def TX2 : u_T := fun k => match k with
  | 0 => ("MeatForDiamonds$Sheep", "kind", "I", true)
  | 1 => ("MeatForDiamonds$Sheep", "figure", "I", true)
  | 2 => ("MeatForDiamonds$Sheep", "weight", "I", false)
  | 3 => ("MeatForDiamonds$Sheep", "sticks", "I", false)
  | 4 => ("MeatForDiamonds$Sheep", "flies", "I", false)
  | 5 => ("MeatForDiamonds$Sheep", "price", "I", false)
  | _ => ("MeatForDiamonds$Sheep", "costs", "I", false)
def tyX2 : Nat → FieldType := fun k => match k with
  | 0 => .int
  | 1 => .int
  | 2 => .int
  | 3 => .int
  | 4 => .int
  | 5 => .int
  | _ => .int
abbrev wsX20 : List Cond := u_ws RX2 TX2 7
theorem nmX2 : ∀ a, a < 7 → ∀ b, b < 7 → a ≠ b → (TX2 a).2.1 ≠ (TX2 b).2.1 := by decide +kernel
theorem tyX2_ok : ∀ k, k < 7 → parseFieldDescriptor (TX2 k).2.2.1 = some (tyX2 k) := by decide +kernel
abbrev cX2_init : ByteArray := prog_4_method_1_code
def yX2_init : MethodName := ⟨RX2, "<init>", "(II)V"⟩
abbrev cX2_fail : ByteArray := prog_4_method_2_code
def yX2_fail : MethodName := ⟨RX2, "fail", "()V"⟩
def RX3 : String := "MeatForDiamonds$PaintedSheep"
def TX3 : u_T := fun k => match k with
  | 0 => ("MeatForDiamonds$Sheep", "kind", "I", true)
  | 1 => ("MeatForDiamonds$Sheep", "figure", "I", true)
  | 2 => ("MeatForDiamonds$Sheep", "weight", "I", false)
  | 3 => ("MeatForDiamonds$Sheep", "sticks", "I", false)
  | 4 => ("MeatForDiamonds$Sheep", "flies", "I", false)
  | 5 => ("MeatForDiamonds$Sheep", "price", "I", false)
  | _ => ("MeatForDiamonds$Sheep", "costs", "I", false)
def tyX3 : Nat → FieldType := fun k => match k with
  | 0 => .int
  | 1 => .int
  | 2 => .int
  | 3 => .int
  | 4 => .int
  | 5 => .int
  | _ => .int
abbrev wsX30 : List Cond := u_ws RX3 TX3 7
theorem nmX3 : ∀ a, a < 7 → ∀ b, b < 7 → a ≠ b → (TX3 a).2.1 ≠ (TX3 b).2.1 := by decide +kernel
theorem tyX3_ok : ∀ k, k < 7 → parseFieldDescriptor (TX3 k).2.2.1 = some (tyX3 k) := by decide +kernel
abbrev cX3_init : ByteArray := prog_5_method_1_code
def yX3_init : MethodName := ⟨RX3, "<init>", "(II)V"⟩
def RX4 : String := "MeatForDiamonds$Sheep"
def TX4 : u_T := fun k => match k with
  | 0 => ("MeatForDiamonds$Sheep", "kind", "I", true)
  | 1 => ("MeatForDiamonds$Sheep", "figure", "I", true)
  | 2 => ("MeatForDiamonds$Sheep", "weight", "I", false)
  | 3 => ("MeatForDiamonds$Sheep", "sticks", "I", false)
  | 4 => ("MeatForDiamonds$Sheep", "flies", "I", false)
  | 5 => ("MeatForDiamonds$Sheep", "price", "I", false)
  | _ => ("MeatForDiamonds$Sheep", "costs", "I", false)
def tyX4 : Nat → FieldType := fun k => match k with
  | 0 => .int
  | 1 => .int
  | 2 => .int
  | 3 => .int
  | 4 => .int
  | 5 => .int
  | _ => .int
abbrev wsX40 : List Cond := u_ws RX4 TX4 7
theorem nmX4 : ∀ a, a < 7 → ∀ b, b < 7 → a ≠ b → (TX4 a).2.1 ≠ (TX4 b).2.1 := by decide +kernel
theorem tyX4_ok : ∀ k, k < 7 → parseFieldDescriptor (TX4 k).2.2.1 = some (tyX4 k) := by decide +kernel
abbrev cX4_init : ByteArray := prog_6_method_1_code
def yX4_init : MethodName := ⟨RX4, "<init>", "(II)V"⟩
abbrev cX4_fail : ByteArray := prog_6_method_2_code
def yX4_fail : MethodName := ⟨RX4, "fail", "()V"⟩
def RX5 : String := "MeatForDiamonds$Shelf"
def TX5 : u_T := fun k => match k with
  | 0 => ("MeatForDiamonds$Shelf", "held", "LMeatForDiamonds$Sheep;", false)
  | 1 => ("MeatForDiamonds$Shelf", "holdsRow", "Z", false)
  | 2 => ("MeatForDiamonds$Shelf", "sort", "I", false)
  | 3 => ("MeatForDiamonds$Shelf", "size", "I", false)
  | _ => ("MeatForDiamonds$Shelf", "elements", "[I", true)
def tyX5 : Nat → FieldType := fun k => match k with
  | 0 => .object "MeatForDiamonds$Sheep"
  | 1 => .boolean
  | 2 => .int
  | 3 => .int
  | _ => .array .int
abbrev wsX50 : List Cond := u_ws RX5 TX5 5
theorem nmX5 : ∀ a, a < 5 → ∀ b, b < 5 → a ≠ b → (TX5 a).2.1 ≠ (TX5 b).2.1 := by decide +kernel
theorem tyX5_ok : ∀ k, k < 5 → parseFieldDescriptor (TX5 k).2.2.1 = some (tyX5 k) := by decide +kernel
abbrev cX5_init : ByteArray := prog_7_method_1_code
def yX5_init : MethodName := ⟨RX5, "<init>", "()V"⟩
abbrev cX5_isEmpty : ByteArray := prog_7_method_2_code
def yX5_isEmpty : MethodName := ⟨RX5, "isEmpty", "()Z"⟩
abbrev cX5_holdSheep : ByteArray := prog_7_method_3_code
def yX5_holdSheep : MethodName := ⟨RX5, "holdSheep", "(LMeatForDiamonds$Sheep;)V"⟩
abbrev cX5_holdRow : ByteArray := prog_7_method_4_code
def yX5_holdRow : MethodName := ⟨RX5, "holdRow", "(II)V"⟩
abbrev cX5_cutToSort : ByteArray := prog_7_method_5_code
def yX5_cutToSort : MethodName := ⟨RX5, "cutToSort", "(I)I"⟩
abbrev cX5_leastNumber : ByteArray := prog_7_method_6_code
def yX5_leastNumber : MethodName := ⟨RX5, "leastNumber", "()I"⟩
abbrev cX5_digitsBehind : ByteArray := prog_7_method_7_code
def yX5_digitsBehind : MethodName := ⟨RX5, "digitsBehind", "(I)I"⟩
abbrev cX5_firstBadByte : ByteArray := prog_7_method_8_code
def yX5_firstBadByte : MethodName := ⟨RX5, "firstBadByte", "()I"⟩
abbrev cX5_number : ByteArray := prog_7_method_9_code
def yX5_number : MethodName := ⟨RX5, "number", "(II)I"⟩
def RX6 : String := "MeatForDiamonds$StolenSheep"
def TX6 : u_T := fun k => match k with
  | 0 => ("MeatForDiamonds$Sheep", "kind", "I", true)
  | 1 => ("MeatForDiamonds$Sheep", "figure", "I", true)
  | 2 => ("MeatForDiamonds$Sheep", "weight", "I", false)
  | 3 => ("MeatForDiamonds$Sheep", "sticks", "I", false)
  | 4 => ("MeatForDiamonds$Sheep", "flies", "I", false)
  | 5 => ("MeatForDiamonds$Sheep", "price", "I", false)
  | _ => ("MeatForDiamonds$Sheep", "costs", "I", false)
def tyX6 : Nat → FieldType := fun k => match k with
  | 0 => .int
  | 1 => .int
  | 2 => .int
  | 3 => .int
  | 4 => .int
  | 5 => .int
  | _ => .int
abbrev wsX60 : List Cond := u_ws RX6 TX6 7
theorem nmX6 : ∀ a, a < 7 → ∀ b, b < 7 → a ≠ b → (TX6 a).2.1 ≠ (TX6 b).2.1 := by decide +kernel
theorem tyX6_ok : ∀ k, k < 7 → parseFieldDescriptor (TX6 k).2.2.1 = some (tyX6 k) := by decide +kernel
abbrev cX6_init : ByteArray := prog_8_method_1_code
def yX6_init : MethodName := ⟨RX6, "<init>", "(II)V"⟩
def RX7 : String := "MeatForDiamonds$ThinSheep"
def TX7 : u_T := fun k => match k with
  | 0 => ("MeatForDiamonds$Sheep", "kind", "I", true)
  | 1 => ("MeatForDiamonds$Sheep", "figure", "I", true)
  | 2 => ("MeatForDiamonds$Sheep", "weight", "I", false)
  | 3 => ("MeatForDiamonds$Sheep", "sticks", "I", false)
  | 4 => ("MeatForDiamonds$Sheep", "flies", "I", false)
  | 5 => ("MeatForDiamonds$Sheep", "price", "I", false)
  | _ => ("MeatForDiamonds$Sheep", "costs", "I", false)
def tyX7 : Nat → FieldType := fun k => match k with
  | 0 => .int
  | 1 => .int
  | 2 => .int
  | 3 => .int
  | 4 => .int
  | 5 => .int
  | _ => .int
abbrev wsX70 : List Cond := u_ws RX7 TX7 7
theorem nmX7 : ∀ a, a < 7 → ∀ b, b < 7 → a ≠ b → (TX7 a).2.1 ≠ (TX7 b).2.1 := by decide +kernel
theorem tyX7_ok : ∀ k, k < 7 → parseFieldDescriptor (TX7 k).2.2.1 = some (tyX7 k) := by decide +kernel
abbrev cX7_init : ByteArray := prog_9_method_1_code
def yX7_init : MethodName := ⟨RX7, "<init>", "(II)V"⟩
def RX8 : String := "MeatForDiamonds$TiedSheep"
def TX8 : u_T := fun k => match k with
  | 0 => ("MeatForDiamonds$Sheep", "kind", "I", true)
  | 1 => ("MeatForDiamonds$Sheep", "figure", "I", true)
  | 2 => ("MeatForDiamonds$Sheep", "weight", "I", false)
  | 3 => ("MeatForDiamonds$Sheep", "sticks", "I", false)
  | 4 => ("MeatForDiamonds$Sheep", "flies", "I", false)
  | 5 => ("MeatForDiamonds$Sheep", "price", "I", false)
  | _ => ("MeatForDiamonds$Sheep", "costs", "I", false)
def tyX8 : Nat → FieldType := fun k => match k with
  | 0 => .int
  | 1 => .int
  | 2 => .int
  | 3 => .int
  | 4 => .int
  | 5 => .int
  | _ => .int
abbrev wsX80 : List Cond := u_ws RX8 TX8 7
theorem nmX8 : ∀ a, a < 7 → ∀ b, b < 7 → a ≠ b → (TX8 a).2.1 ≠ (TX8 b).2.1 := by decide +kernel
theorem tyX8_ok : ∀ k, k < 7 → parseFieldDescriptor (TX8 k).2.2.1 = some (tyX8 k) := by decide +kernel
abbrev cX8_init : ByteArray := prog_10_method_1_code
def yX8_init : MethodName := ⟨RX8, "<init>", "(II)V"⟩
abbrev cX8_fail : ByteArray := prog_10_method_2_code
def yX8_fail : MethodName := ⟨RX8, "fail", "()V"⟩
def RX9 : String := "MeatForDiamonds$Valley"
def TX9 : u_T := fun k => match k with
  | 0 => ("MeatForDiamonds$Valley", "big", "[I", true)
  | 1 => ("MeatForDiamonds$Valley", "small", "[I", true)
  | 2 => ("MeatForDiamonds$Valley", "snakes", "[I", true)
  | 3 => ("MeatForDiamonds$Valley", "worth", "[I", true)
  | 4 => ("MeatForDiamonds$Valley", "eagles", "I", false)
  | 5 => ("MeatForDiamonds$Valley", "strength", "[I", true)
  | 6 => ("MeatForDiamonds$Valley", "hunger", "[I", true)
  | 7 => ("MeatForDiamonds$Valley", "home", "[I", true)
  | 8 => ("MeatForDiamonds$Valley", "wary", "[I", true)
  | 9 => ("MeatForDiamonds$Valley", "flockSize", "I", false)
  | 10 => ("MeatForDiamonds$Valley", "flock", "[LMeatForDiamonds$Sheep;", true)
  | 11 => ("MeatForDiamonds$Valley", "hour", "I", false)
  | _ => ("MeatForDiamonds$Valley", "drums", "I", false)
def tyX9 : Nat → FieldType := fun k => match k with
  | 0 => .array .int
  | 1 => .array .int
  | 2 => .array .int
  | 3 => .array .int
  | 4 => .int
  | 5 => .array .int
  | 6 => .array .int
  | 7 => .array .int
  | 8 => .array .int
  | 9 => .int
  | 10 => .array (.object "MeatForDiamonds$Sheep")
  | 11 => .int
  | _ => .int
abbrev wsX90 : List Cond := u_ws RX9 TX9 13
theorem nmX9 : ∀ a, a < 13 → ∀ b, b < 13 → a ≠ b → (TX9 a).2.1 ≠ (TX9 b).2.1 := by decide +kernel
theorem tyX9_ok : ∀ k, k < 13 → parseFieldDescriptor (TX9 k).2.2.1 = some (tyX9 k) := by decide +kernel
abbrev cX9_init : ByteArray := prog_11_method_1_code
def yX9_init : MethodName := ⟨RX9, "<init>", "()V"⟩
abbrev cX9_become : ByteArray := prog_11_method_2_code
def yX9_become : MethodName := ⟨RX9, "become", "(LMeatForDiamonds$Valley;)V"⟩
abbrev cX9_sheepAt : ByteArray := prog_11_method_3_code
def yX9_sheepAt : MethodName := ⟨RX9, "sheepAt", "(I)LMeatForDiamonds$Sheep;"⟩
abbrev cX9_addSheep : ByteArray := prog_11_method_4_code
def yX9_addSheep : MethodName := ⟨RX9, "addSheep", "(LMeatForDiamonds$Sheep;)Z"⟩
abbrev cX9_addEagle : ByteArray := prog_11_method_5_code
def yX9_addEagle : MethodName := ⟨RX9, "addEagle", "(III)Z"⟩
abbrev cX9_fillCell : ByteArray := prog_11_method_6_code
def yX9_fillCell : MethodName := ⟨RX9, "fillCell", "(IIII)V"⟩
abbrev cX9_worthIn : ByteArray := prog_11_method_7_code
def yX9_worthIn : MethodName := ⟨RX9, "worthIn", "(I)I"⟩
abbrev cX9_refusedThrow : ByteArray := prog_11_method_8_code
def yX9_refusedThrow : MethodName := ⟨RX9, "refusedThrow", "(II)I"⟩
abbrev cX9_snakesSleep : ByteArray := prog_11_method_9_code
def yX9_snakesSleep : MethodName := ⟨RX9, "snakesSleep", "()Z"⟩
abbrev cX9_isEaten : ByteArray := prog_11_method_10_code
def yX9_isEaten : MethodName := ⟨RX9, "isEaten", "(LMeatForDiamonds$Sheep;I)Z"⟩
abbrev cX9_carrierOf : ByteArray := prog_11_method_11_code
def yX9_carrierOf : MethodName := ⟨RX9, "carrierOf", "(I)I"⟩
abbrev cX9_takerOf : ByteArray := prog_11_method_12_code
def yX9_takerOf : MethodName := ⟨RX9, "takerOf", "(LMeatForDiamonds$Sheep;I)I"⟩
abbrev cX9_stuckIn : ByteArray := prog_11_method_13_code
def yX9_stuckIn : MethodName := ⟨RX9, "stuckIn", "(LMeatForDiamonds$Sheep;I)I"⟩
abbrev cX9_broughtBy : ByteArray := prog_11_method_14_code
def yX9_broughtBy : MethodName := ⟨RX9, "broughtBy", "(LMeatForDiamonds$Sheep;I)I"⟩
abbrev cX9_throwOnto : ByteArray := prog_11_method_15_code
def yX9_throwOnto : MethodName := ⟨RX9, "throwOnto", "(II)I"⟩
abbrev cX9_carryOff : ByteArray := prog_11_method_16_code
def yX9_carryOff : MethodName := ⟨RX9, "carryOff", "(LMeatForDiamonds$Sheep;II)I"⟩
abbrev cX9_pass : ByteArray := prog_11_method_17_code
def yX9_pass : MethodName := ⟨RX9, "pass", "(I)V"⟩
abbrev cX9_richestCell : ByteArray := prog_11_method_18_code
def yX9_richestCell : MethodName := ⟨RX9, "richestCell", "(LMeatForDiamonds$Sheep;)I"⟩
abbrev cX9_richestThrow : ByteArray := prog_11_method_19_code
def yX9_richestThrow : MethodName := ⟨RX9, "richestThrow", "()I"⟩
abbrev cX9_gainOf : ByteArray := prog_11_method_20_code
def yX9_gainOf : MethodName := ⟨RX9, "gainOf", "(II)I"⟩
abbrev cX9_bestChoice : ByteArray := prog_11_method_21_code
def yX9_bestChoice : MethodName := ⟨RX9, "bestChoice", "(I)I"⟩
abbrev cX9_shared : ByteArray := prog_11_method_22_code
def yX9_shared : MethodName := ⟨RX9, "shared", "()I"⟩
def RX10 : String := "MeatForDiamonds"
def TX10 : u_T := fun k => match k with
  | 0 => ("MeatForDiamonds", "now", "LMeatForDiamonds$Valley;", true)
  | 1 => ("MeatForDiamonds", "mind", "LMeatForDiamonds$Valley;", true)
  | 2 => ("MeatForDiamonds", "kept", "LMeatForDiamonds$Valley;", true)
  | 3 => ("MeatForDiamonds", "imageTaken", "Z", false)
  | 4 => ("MeatForDiamonds", "shelves", "[LMeatForDiamonds$Shelf;", true)
  | _ => ("MeatForDiamonds", "rests", "[I", true)
def tyX10 : Nat → FieldType := fun k => match k with
  | 0 => .object "MeatForDiamonds$Valley"
  | 1 => .object "MeatForDiamonds$Valley"
  | 2 => .object "MeatForDiamonds$Valley"
  | 3 => .boolean
  | 4 => .array (.object "MeatForDiamonds$Shelf")
  | _ => .array .int
abbrev wsX100 : List Cond := u_ws RX10 TX10 6
theorem nmX10 : ∀ a, a < 6 → ∀ b, b < 6 → a ≠ b → (TX10 a).2.1 ≠ (TX10 b).2.1 := by decide +kernel
theorem tyX10_ok : ∀ k, k < 6 → parseFieldDescriptor (TX10 k).2.2.1 = some (tyX10 k) := by decide +kernel
abbrev cX10_init : ByteArray := prog_1_method_1_code
def yX10_init : MethodName := ⟨RX10, "<init>", "()V"⟩
abbrev cX10_valley : ByteArray := prog_1_method_2_code
def yX10_valley : MethodName := ⟨RX10, "valley", "(I)I"⟩
abbrev cX10_cellOf : ByteArray := prog_1_method_3_code
def yX10_cellOf : MethodName := ⟨RX10, "cellOf", "(II)I"⟩
abbrev cX10_eagle : ByteArray := prog_1_method_4_code
def yX10_eagle : MethodName := ⟨RX10, "eagle", "(II)I"⟩
abbrev cX10_sheep : ByteArray := prog_1_method_5_code
def yX10_sheep : MethodName := ⟨RX10, "sheep", "(II)I"⟩
abbrev cX10_nest : ByteArray := prog_1_method_6_code
def yX10_nest : MethodName := ⟨RX10, "nest", "(I)I"⟩
abbrev cX10_buys : ByteArray := prog_1_method_7_code
def yX10_buys : MethodName := ⟨RX10, "buys", "(I)I"⟩
abbrev cX10_lays : ByteArray := prog_1_method_8_code
def yX10_lays : MethodName := ⟨RX10, "lays", "(IIII)I"⟩
abbrev cX10_set : ByteArray := prog_1_method_9_code
def yX10_set : MethodName := ⟨RX10, "set", "(II)I"⟩
abbrev cX10_throwsOne : ByteArray := prog_1_method_10_code
def yX10_throwsOne : MethodName := ⟨RX10, "throwsOne", "(II)I"⟩
abbrev cX10_waits : ByteArray := prog_1_method_11_code
def yX10_waits : MethodName := ⟨RX10, "waits", "(I)I"⟩
abbrev cX10_brings : ByteArray := prog_1_method_12_code
def yX10_brings : MethodName := ⟨RX10, "brings", "(III)I"⟩
abbrev cX10_bestCell : ByteArray := prog_1_method_13_code
def yX10_bestCell : MethodName := ⟨RX10, "bestCell", "(I)I"⟩
abbrev cX10_bestThrow : ByteArray := prog_1_method_14_code
def yX10_bestThrow : MethodName := ⟨RX10, "bestThrow", "()I"⟩
abbrev cX10_gain : ByteArray := prog_1_method_15_code
def yX10_gain : MethodName := ⟨RX10, "gain", "()I"⟩
abbrev cX10_bestHour : ByteArray := prog_1_method_16_code
def yX10_bestHour : MethodName := ⟨RX10, "bestHour", "(III)I"⟩
abbrev cX10_twoThrows : ByteArray := prog_1_method_17_code
def yX10_twoThrows : MethodName := ⟨RX10, "twoThrows", "(I)I"⟩
abbrev cX10_greedily : ByteArray := prog_1_method_18_code
def yX10_greedily : MethodName := ⟨RX10, "greedily", "(II)I"⟩
abbrev cX10_drum : ByteArray := prog_1_method_19_code
def yX10_drum : MethodName := ⟨RX10, "drum", "(IIII)I"⟩
abbrev cX10_lifts : ByteArray := prog_1_method_20_code
def yX10_lifts : MethodName := ⟨RX10, "lifts", "(II)I"⟩
abbrev cX10_man : ByteArray := prog_1_method_21_code
def yX10_man : MethodName := ⟨RX10, "man", "(I)I"⟩
abbrev cX10_safe : ByteArray := prog_1_method_22_code
def yX10_safe : MethodName := ⟨RX10, "safe", "(I)I"⟩
abbrev cX10_noon : ByteArray := prog_1_method_23_code
def yX10_noon : MethodName := ⟨RX10, "noon", "()I"⟩
abbrev cX10_left : ByteArray := prog_1_method_24_code
def yX10_left : MethodName := ⟨RX10, "left", "(I)I"⟩
abbrev cX10_still : ByteArray := prog_1_method_25_code
def yX10_still : MethodName := ⟨RX10, "still", "(III)I"⟩
abbrev cX10_tellsMost : ByteArray := prog_1_method_26_code
def yX10_tellsMost : MethodName := ⟨RX10, "tellsMost", "(III)I"⟩
abbrev cX10_whose : ByteArray := prog_1_method_27_code
def yX10_whose : MethodName := ⟨RX10, "whose", "(II)I"⟩
abbrev cX10_mean : ByteArray := prog_1_method_28_code
def yX10_mean : MethodName := ⟨RX10, "mean", "(II)J"⟩
abbrev cX10_merchants : ByteArray := prog_1_method_29_code
def yX10_merchants : MethodName := ⟨RX10, "merchants", "(I)I"⟩
abbrev cX10_quarrel : ByteArray := prog_1_method_30_code
def yX10_quarrel : MethodName := ⟨RX10, "quarrel", "(I)I"⟩
abbrev cX10_forged : ByteArray := prog_1_method_31_code
def yX10_forged : MethodName := ⟨RX10, "forged", "(II)I"⟩
abbrev cX10_judge : ByteArray := prog_1_method_32_code
def yX10_judge : MethodName := ⟨RX10, "judge", "(III)I"⟩
abbrev cX10_seasons : ByteArray := prog_1_method_33_code
def yX10_seasons : MethodName := ⟨RX10, "seasons", "(III)I"⟩
abbrev cX10_image : ByteArray := prog_1_method_34_code
def yX10_image : MethodName := ⟨RX10, "image", "()I"⟩
abbrev cX10_restore : ByteArray := prog_1_method_35_code
def yX10_restore : MethodName := ⟨RX10, "restore", "()I"⟩
abbrev cX10_count : ByteArray := prog_1_method_36_code
def yX10_count : MethodName := ⟨RX10, "count", "(I)I"⟩
abbrev cX10_keep : ByteArray := prog_1_method_37_code
def yX10_keep : MethodName := ⟨RX10, "keep", "(IIII)I"⟩
abbrev cX10_row : ByteArray := prog_1_method_38_code
def yX10_row : MethodName := ⟨RX10, "row", "(III)I"⟩
abbrev cX10_put : ByteArray := prog_1_method_39_code
def yX10_put : MethodName := ⟨RX10, "put", "(III)I"⟩
abbrev cX10_element : ByteArray := prog_1_method_40_code
def yX10_element : MethodName := ⟨RX10, "element", "(II)J"⟩
abbrev cX10_copy : ByteArray := prog_1_method_41_code
def yX10_copy : MethodName := ⟨RX10, "copy", "(IIIII)I"⟩
abbrev cX10_cost : ByteArray := prog_1_method_42_code
def yX10_cost : MethodName := ⟨RX10, "cost", "(I)I"⟩
abbrev cX10_toss : ByteArray := prog_1_method_43_code
def yX10_toss : MethodName := ⟨RX10, "toss", "(I)I"⟩
abbrev cX10_within : ByteArray := prog_1_method_44_code
def yX10_within : MethodName := ⟨RX10, "within", "(III)Z"⟩
abbrev cX10_sum : ByteArray := prog_1_method_45_code
def yX10_sum : MethodName := ⟨RX10, "sum", "([II)I"⟩
abbrev cX10_refusedHeld : ByteArray := prog_1_method_46_code
def yX10_refusedHeld : MethodName := ⟨RX10, "refusedHeld", "(I)I"⟩
abbrev cX10_refusedSheep : ByteArray := prog_1_method_47_code
def yX10_refusedSheep : MethodName := ⟨RX10, "refusedSheep", "(I)I"⟩
abbrev cX10_refusedRow : ByteArray := prog_1_method_48_code
def yX10_refusedRow : MethodName := ⟨RX10, "refusedRow", "(I)I"⟩
abbrev cX10_refusedBytes : ByteArray := prog_1_method_49_code
def yX10_refusedBytes : MethodName := ⟨RX10, "refusedBytes", "(I)I"⟩
abbrev cX10_refusedTold : ByteArray := prog_1_method_50_code
def yX10_refusedTold : MethodName := ⟨RX10, "refusedTold", "(II)I"⟩
abbrev cX10_newSheep : ByteArray := prog_1_method_51_code
def yX10_newSheep : MethodName := ⟨RX10, "newSheep", "(II)LMeatForDiamonds$Sheep;"⟩
abbrev cX10_caughtFailure : ByteArray := prog_1_method_52_code
def yX10_caughtFailure : MethodName := ⟨RX10, "caughtFailure", "(LMeatForDiamonds$Sheep;)I"⟩
abbrev cX10_follow : ByteArray := prog_1_method_53_code
def yX10_follow : MethodName := ⟨RX10, "follow", "(LMeatForDiamonds$Shelf;I)Z"⟩
abbrev cX10_followCell : ByteArray := prog_1_method_54_code
def yX10_followCell : MethodName := ⟨RX10, "followCell", "(LMeatForDiamonds$Shelf;I)Z"⟩
abbrev cX10_followEagle : ByteArray := prog_1_method_55_code
def yX10_followEagle : MethodName := ⟨RX10, "followEagle", "(LMeatForDiamonds$Shelf;I)Z"⟩
abbrev cX10_followDrums : ByteArray := prog_1_method_56_code
def yX10_followDrums : MethodName := ⟨RX10, "followDrums", "(I)Z"⟩
abbrev cX10_followWait : ByteArray := prog_1_method_57_code
def yX10_followWait : MethodName := ⟨RX10, "followWait", "(I)Z"⟩
abbrev cX10_followThrow : ByteArray := prog_1_method_58_code
def yX10_followThrow : MethodName := ⟨RX10, "followThrow", "(II)Z"⟩
abbrev cX10_broughtDrumming : ByteArray := prog_1_method_59_code
def yX10_broughtDrumming : MethodName := ⟨RX10, "broughtDrumming", "(IIII)I"⟩
abbrev cX10_worthOfPair : ByteArray := prog_1_method_60_code
def yX10_worthOfPair : MethodName := ⟨RX10, "worthOfPair", "(I)I"⟩
abbrev cX10_stuckOf : ByteArray := prog_1_method_61_code
def yX10_stuckOf : MethodName := ⟨RX10, "stuckOf", "(II)I"⟩
abbrev cX10_fitPairs : ByteArray := prog_1_method_62_code
def yX10_fitPairs : MethodName := ⟨RX10, "fitPairs", "(LMeatForDiamonds$Sheep;LMeatForDiamonds$Shelf;)I"⟩
abbrev cX10_restOf : ByteArray := prog_1_method_63_code
def yX10_restOf : MethodName := ⟨RX10, "restOf", "(III)I"⟩
abbrev cX10_unlikeNumbers : ByteArray := prog_1_method_64_code
def yX10_unlikeNumbers : MethodName := ⟨RX10, "unlikeNumbers", "(LMeatForDiamonds$Sheep;)I"⟩
abbrev cX10_nextSeed : ByteArray := prog_1_method_65_code
def yX10_nextSeed : MethodName := ⟨RX10, "nextSeed", "(I)I"⟩
abbrev cX10_drawn : ByteArray := prog_1_method_66_code
def yX10_drawn : MethodName := ⟨RX10, "drawn", "(II)I"⟩
def RX11 : String := "MeatForDiamondsModel"
def TX11 : u_T := fun k => match k with
  | 0 => ("MeatForDiamondsModel", "s", "[I", true)
  | 1 => ("MeatForDiamondsModel", "m", "[I", true)
  | 2 => ("MeatForDiamondsModel", "then", "[I", true)
  | 3 => ("MeatForDiamondsModel", "image", "[I", true)
  | 4 => ("MeatForDiamondsModel", "was", "[I", true)
  | 5 => ("MeatForDiamondsModel", "hasImage", "Z", false)
  | 6 => ("MeatForDiamondsModel", "place", "I", false)
  | 7 => ("MeatForDiamondsModel", "rowAt", "I", false)
  | 8 => ("MeatForDiamondsModel", "rowEnd", "I", false)
  | 9 => ("MeatForDiamondsModel", "numbers", "[I", true)
  | 10 => ("MeatForDiamondsModel", "bestGain", "I", false)
  | 11 => ("MeatForDiamondsModel", "bigLeft", "I", false)
  | 12 => ("MeatForDiamondsModel", "smallLeft", "I", false)
  | 13 => ("MeatForDiamondsModel", "told", "[Z", true)
  | 14 => ("MeatForDiamondsModel", "sorted", "[I", true)
  | 15 => ("MeatForDiamondsModel", "seed", "I", false)
  | 16 => ("MeatForDiamondsModel", "kept", "[I", true)
  | 17 => ("MeatForDiamondsModel", "keptKind", "[I", true)
  | 18 => ("MeatForDiamondsModel", "keptFigure", "[I", true)
  | 19 => ("MeatForDiamondsModel", "sort", "[I", true)
  | 20 => ("MeatForDiamondsModel", "size", "[I", true)
  | 21 => ("MeatForDiamondsModel", "element", "[I", true)
  | _ => ("MeatForDiamondsModel", "thrown", "I", false)
def tyX11 : Nat → FieldType := fun k => match k with
  | 0 => .array .int
  | 1 => .array .int
  | 2 => .array .int
  | 3 => .array .int
  | 4 => .array .int
  | 5 => .boolean
  | 6 => .int
  | 7 => .int
  | 8 => .int
  | 9 => .array .int
  | 10 => .int
  | 11 => .int
  | 12 => .int
  | 13 => .array .boolean
  | 14 => .array .int
  | 15 => .int
  | 16 => .array .int
  | 17 => .array .int
  | 18 => .array .int
  | 19 => .array .int
  | 20 => .array .int
  | 21 => .array .int
  | _ => .int
abbrev wsX110 : List Cond := u_ws RX11 TX11 23
theorem nmX11 : ∀ a, a < 23 → ∀ b, b < 23 → a ≠ b → (TX11 a).2.1 ≠ (TX11 b).2.1 := by decide +kernel
theorem tyX11_ok : ∀ k, k < 23 → parseFieldDescriptor (TX11 k).2.2.1 = some (tyX11 k) := by decide +kernel
abbrev cX11_init : ByteArray := prog_13_method_1_code
def yX11_init : MethodName := ⟨RX11, "<init>", "()V"⟩
abbrev cX11_isIn : ByteArray := prog_13_method_2_code
def yX11_isIn : MethodName := ⟨RX11, "isIn", "(III)Z"⟩
abbrev cX11_least : ByteArray := prog_13_method_3_code
def yX11_least : MethodName := ⟨RX11, "least", "(II)I"⟩
abbrev cX11_most : ByteArray := prog_13_method_4_code
def yX11_most : MethodName := ⟨RX11, "most", "(II)I"⟩
abbrev cX11_copies : ByteArray := prog_13_method_5_code
def yX11_copies : MethodName := ⟨RX11, "copies", "([I[I)V"⟩
abbrev cX11_atCell : ByteArray := prog_13_method_6_code
def yX11_atCell : MethodName := ⟨RX11, "atCell", "(II)I"⟩
abbrev cX11_atEagle : ByteArray := prog_13_method_7_code
def yX11_atEagle : MethodName := ⟨RX11, "atEagle", "(II)I"⟩
abbrev cX11_kind : ByteArray := prog_13_method_8_code
def yX11_kind : MethodName := ⟨RX11, "kind", "([II)I"⟩
abbrev cX11_figure : ByteArray := prog_13_method_9_code
def yX11_figure : MethodName := ⟨RX11, "figure", "([II)I"⟩
abbrev cX11_isCell : ByteArray := prog_13_method_10_code
def yX11_isCell : MethodName := ⟨RX11, "isCell", "(I)Z"⟩
abbrev cX11_isEagle : ByteArray := prog_13_method_11_code
def yX11_isEagle : MethodName := ⟨RX11, "isEagle", "(I)Z"⟩
abbrev cX11_isSheep : ByteArray := prog_13_method_12_code
def yX11_isSheep : MethodName := ⟨RX11, "isSheep", "(I)Z"⟩
abbrev cX11_weight : ByteArray := prog_13_method_13_code
def yX11_weight : MethodName := ⟨RX11, "weight", "([II)I"⟩
abbrev cX11_sticks : ByteArray := prog_13_method_14_code
def yX11_sticks : MethodName := ⟨RX11, "sticks", "([II)I"⟩
abbrev cX11_flies : ByteArray := prog_13_method_15_code
def yX11_flies : MethodName := ⟨RX11, "flies", "([II)I"⟩
abbrev cX11_price : ByteArray := prog_13_method_16_code
def yX11_price : MethodName := ⟨RX11, "price", "([II)I"⟩
abbrev cX11_isNoon : ByteArray := prog_13_method_17_code
def yX11_isNoon : MethodName := ⟨RX11, "isNoon", "([I)Z"⟩
abbrev cX11_isEaten : ByteArray := prog_13_method_18_code
def yX11_isEaten : MethodName := ⟨RX11, "isEaten", "([III)Z"⟩
abbrev cX11_power : ByteArray := prog_13_method_19_code
def yX11_power : MethodName := ⟨RX11, "power", "([II)I"⟩
abbrev cX11_carrier : ByteArray := prog_13_method_20_code
def yX11_carrier : MethodName := ⟨RX11, "carrier", "([III)I"⟩
abbrev cX11_hungers : ByteArray := prog_13_method_21_code
def yX11_hungers : MethodName := ⟨RX11, "hungers", "([III)V"⟩
abbrev cX11_throwIn : ByteArray := prog_13_method_22_code
def yX11_throwIn : MethodName := ⟨RX11, "throwIn", "([III)I"⟩
abbrev cX11_waitIn : ByteArray := prog_13_method_23_code
def yX11_waitIn : MethodName := ⟨RX11, "waitIn", "([II)V"⟩
abbrev cX11_here : ByteArray := prog_13_method_24_code
def yX11_here : MethodName := ⟨RX11, "here", "()I"⟩
abbrev cX11_readsNumber : ByteArray := prog_13_method_25_code
def yX11_readsNumber : MethodName := ⟨RX11, "readsNumber", "(II)Z"⟩
abbrev cX11_readsStatement : ByteArray := prog_13_method_26_code
def yX11_readsStatement : MethodName := ⟨RX11, "readsStatement", "()Z"⟩
abbrev cX11_addsSheep : ByteArray := prog_13_method_27_code
def yX11_addsSheep : MethodName := ⟨RX11, "addsSheep", "(II)V"⟩
abbrev cX11_isDone : ByteArray := prog_13_method_28_code
def yX11_isDone : MethodName := ⟨RX11, "isDone", "(I)Z"⟩
abbrev cX11_valley : ByteArray := prog_13_method_29_code
def yX11_valley : MethodName := ⟨RX11, "valley", "(I)I"⟩
abbrev cX11_cellOf : ByteArray := prog_13_method_30_code
def yX11_cellOf : MethodName := ⟨RX11, "cellOf", "(II)I"⟩
abbrev cX11_eagle : ByteArray := prog_13_method_31_code
def yX11_eagle : MethodName := ⟨RX11, "eagle", "(II)I"⟩
abbrev cX11_sheep : ByteArray := prog_13_method_32_code
def yX11_sheep : MethodName := ⟨RX11, "sheep", "(II)I"⟩
abbrev cX11_nest : ByteArray := prog_13_method_33_code
def yX11_nest : MethodName := ⟨RX11, "nest", "(I)I"⟩
abbrev cX11_buys : ByteArray := prog_13_method_34_code
def yX11_buys : MethodName := ⟨RX11, "buys", "(I)I"⟩
abbrev cX11_lays : ByteArray := prog_13_method_35_code
def yX11_lays : MethodName := ⟨RX11, "lays", "(IIII)I"⟩
abbrev cX11_set : ByteArray := prog_13_method_36_code
def yX11_set : MethodName := ⟨RX11, "set", "(II)I"⟩
abbrev cX11_wrongThrow : ByteArray := prog_13_method_37_code
def yX11_wrongThrow : MethodName := ⟨RX11, "wrongThrow", "(II)I"⟩
abbrev cX11_throwsOne : ByteArray := prog_13_method_38_code
def yX11_throwsOne : MethodName := ⟨RX11, "throwsOne", "(II)I"⟩
abbrev cX11_waits : ByteArray := prog_13_method_39_code
def yX11_waits : MethodName := ⟨RX11, "waits", "(I)I"⟩
abbrev cX11_broughtBy : ByteArray := prog_13_method_40_code
def yX11_broughtBy : MethodName := ⟨RX11, "broughtBy", "([III)I"⟩
abbrev cX11_brings : ByteArray := prog_13_method_41_code
def yX11_brings : MethodName := ⟨RX11, "brings", "(III)I"⟩
abbrev cX11_bestCell : ByteArray := prog_13_method_42_code
def yX11_bestCell : MethodName := ⟨RX11, "bestCell", "(I)I"⟩
abbrev cX11_bestBy : ByteArray := prog_13_method_43_code
def yX11_bestBy : MethodName := ⟨RX11, "bestBy", "([I)I"⟩
abbrev cX11_bestThrow : ByteArray := prog_13_method_44_code
def yX11_bestThrow : MethodName := ⟨RX11, "bestThrow", "()I"⟩
abbrev cX11_gain : ByteArray := prog_13_method_45_code
def yX11_gain : MethodName := ⟨RX11, "gain", "()I"⟩
abbrev cX11_bestHour : ByteArray := prog_13_method_46_code
def yX11_bestHour : MethodName := ⟨RX11, "bestHour", "(III)I"⟩
abbrev cX11_twoThrows : ByteArray := prog_13_method_47_code
def yX11_twoThrows : MethodName := ⟨RX11, "twoThrows", "(I)I"⟩
abbrev cX11_greedily : ByteArray := prog_13_method_48_code
def yX11_greedily : MethodName := ⟨RX11, "greedily", "(II)I"⟩
abbrev cX11_drum : ByteArray := prog_13_method_49_code
def yX11_drum : MethodName := ⟨RX11, "drum", "(IIII)I"⟩
abbrev cX11_lifts : ByteArray := prog_13_method_50_code
def yX11_lifts : MethodName := ⟨RX11, "lifts", "(II)I"⟩
abbrev cX11_man : ByteArray := prog_13_method_51_code
def yX11_man : MethodName := ⟨RX11, "man", "(I)I"⟩
abbrev cX11_safe : ByteArray := prog_13_method_52_code
def yX11_safe : MethodName := ⟨RX11, "safe", "(I)I"⟩
abbrev cX11_noon : ByteArray := prog_13_method_53_code
def yX11_noon : MethodName := ⟨RX11, "noon", "()I"⟩
abbrev cX11_worthOf : ByteArray := prog_13_method_54_code
def yX11_worthOf : MethodName := ⟨RX11, "worthOf", "([II)I"⟩
abbrev cX11_left : ByteArray := prog_13_method_55_code
def yX11_left : MethodName := ⟨RX11, "left", "(I)I"⟩
abbrev cX11_takes : ByteArray := prog_13_method_56_code
def yX11_takes : MethodName := ⟨RX11, "takes", "(I)I"⟩
abbrev cX11_wrongAt : ByteArray := prog_13_method_57_code
def yX11_wrongAt : MethodName := ⟨RX11, "wrongAt", "(III)I"⟩
abbrev cX11_wrongSheepRow : ByteArray := prog_13_method_58_code
def yX11_wrongSheepRow : MethodName := ⟨RX11, "wrongSheepRow", "(II)I"⟩
abbrev cX11_still : ByteArray := prog_13_method_59_code
def yX11_still : MethodName := ⟨RX11, "still", "(III)I"⟩
abbrev cX11_partsBy : ByteArray := prog_13_method_60_code
def yX11_partsBy : MethodName := ⟨RX11, "partsBy", "(III)I"⟩
abbrev cX11_tellsMost : ByteArray := prog_13_method_61_code
def yX11_tellsMost : MethodName := ⟨RX11, "tellsMost", "(III)I"⟩
abbrev cX11_whose : ByteArray := prog_13_method_62_code
def yX11_whose : MethodName := ⟨RX11, "whose", "(II)I"⟩
abbrev cX11_gcd : ByteArray := prog_13_method_63_code
def yX11_gcd : MethodName := ⟨RX11, "gcd", "(JJ)J"⟩
abbrev cX11_partOf : ByteArray := prog_13_method_64_code
def yX11_partOf : MethodName := ⟨RX11, "partOf", "(JJI)J"⟩
abbrev cX11_mean : ByteArray := prog_13_method_65_code
def yX11_mean : MethodName := ⟨RX11, "mean", "(II)J"⟩
abbrev cX11_isChoice : ByteArray := prog_13_method_66_code
def yX11_isChoice : MethodName := ⟨RX11, "isChoice", "(II)Z"⟩
abbrev cX11_gainBy : ByteArray := prog_13_method_67_code
def yX11_gainBy : MethodName := ⟨RX11, "gainBy", "([III)I"⟩
abbrev cX11_isBest : ByteArray := prog_13_method_68_code
def yX11_isBest : MethodName := ⟨RX11, "isBest", "([III)Z"⟩
abbrev cX11_merchants : ByteArray := prog_13_method_69_code
def yX11_merchants : MethodName := ⟨RX11, "merchants", "(I)I"⟩
abbrev cX11_sorts : ByteArray := prog_13_method_70_code
def yX11_sorts : MethodName := ⟨RX11, "sorts", "()V"⟩
abbrev cX11_quarrel : ByteArray := prog_13_method_71_code
def yX11_quarrel : MethodName := ⟨RX11, "quarrel", "(I)I"⟩
abbrev cX11_forged : ByteArray := prog_13_method_72_code
def yX11_forged : MethodName := ⟨RX11, "forged", "(II)I"⟩
abbrev cX11_leastOf : ByteArray := prog_13_method_73_code
def yX11_leastOf : MethodName := ⟨RX11, "leastOf", "(I)I"⟩
abbrev cX11_judge : ByteArray := prog_13_method_74_code
def yX11_judge : MethodName := ⟨RX11, "judge", "(III)I"⟩
abbrev cX11_drawn : ByteArray := prog_13_method_75_code
def yX11_drawn : MethodName := ⟨RX11, "drawn", "(I)I"⟩
abbrev cX11_seasons : ByteArray := prog_13_method_76_code
def yX11_seasons : MethodName := ⟨RX11, "seasons", "(III)I"⟩
abbrev cX11_image : ByteArray := prog_13_method_77_code
def yX11_image : MethodName := ⟨RX11, "image", "()I"⟩
abbrev cX11_restore : ByteArray := prog_13_method_78_code
def yX11_restore : MethodName := ⟨RX11, "restore", "()I"⟩
abbrev cX11_count : ByteArray := prog_13_method_79_code
def yX11_count : MethodName := ⟨RX11, "count", "(I)I"⟩
abbrev cX11_thrown : ByteArray := prog_13_method_80_code
def yX11_thrown : MethodName := ⟨RX11, "thrown", "()I"⟩
abbrev cX11_isShelf : ByteArray := prog_13_method_81_code
def yX11_isShelf : MethodName := ⟨RX11, "isShelf", "(I)Z"⟩
abbrev cX11_wrongRow : ByteArray := prog_13_method_82_code
def yX11_wrongRow : MethodName := ⟨RX11, "wrongRow", "(II)I"⟩
abbrev cX11_wrongKept : ByteArray := prog_13_method_83_code
def yX11_wrongKept : MethodName := ⟨RX11, "wrongKept", "(I)I"⟩
abbrev cX11_keep : ByteArray := prog_13_method_84_code
def yX11_keep : MethodName := ⟨RX11, "keep", "(IIII)I"⟩
abbrev cX11_row : ByteArray := prog_13_method_85_code
def yX11_row : MethodName := ⟨RX11, "row", "(III)I"⟩
abbrev cX11_put : ByteArray := prog_13_method_86_code
def yX11_put : MethodName := ⟨RX11, "put", "(III)I"⟩
abbrev cX11_element : ByteArray := prog_13_method_87_code
def yX11_element : MethodName := ⟨RX11, "element", "(II)J"⟩
abbrev cX11_copy : ByteArray := prog_13_method_88_code
def yX11_copy : MethodName := ⟨RX11, "copy", "(IIIII)I"⟩
abbrev cX11_costBy : ByteArray := prog_13_method_89_code
def yX11_costBy : MethodName := ⟨RX11, "costBy", "(II)I"⟩
abbrev cX11_cost : ByteArray := prog_13_method_90_code
def yX11_cost : MethodName := ⟨RX11, "cost", "(I)I"⟩
abbrev cX11_toss : ByteArray := prog_13_method_91_code
def yX11_toss : MethodName := ⟨RX11, "toss", "(I)I"⟩
def RJ13 : String := "java/lang/Long"
def TJ13 : u_T := fun k => match k with
  | _ => ("", "", "", false)
def tyJ13 : Nat → FieldType := fun k => match k with
  | _ => .int
abbrev wsJ130 : List Cond := u_ws RJ13 TJ13 0
theorem nmJ13 : ∀ a, a < 0 → ∀ b, b < 0 → a ≠ b → (TJ13 a).2.1 ≠ (TJ13 b).2.1 := by decide +kernel
theorem tyJ13_ok : ∀ k, k < 0 → parseFieldDescriptor (TJ13 k).2.2.1 = some (tyJ13 k) := by decide +kernel
abbrev cJ13_bitCount_95d88 : ByteArray := prog_17_method_50_code
def yJ13_bitCount_95d88 : MethodName := ⟨RJ13, "bitCount", "(J)I"⟩
def RJ9 : String := "java/lang/Math"
def TJ9 : u_T := fun k => match k with
  | _ => ("", "", "", false)
def tyJ9 : Nat → FieldType := fun k => match k with
  | _ => .int
abbrev wsJ90 : List Cond := u_ws RJ9 TJ9 0
theorem nmJ9 : ∀ a, a < 0 → ∀ b, b < 0 → a ≠ b → (TJ9 a).2.1 ≠ (TJ9 b).2.1 := by decide +kernel
theorem tyJ9_ok : ∀ k, k < 0 → parseFieldDescriptor (TJ9 k).2.2.1 = some (tyJ9 k) := by decide +kernel
abbrev cJ9_max_7cf53 : ByteArray := prog_18_method_65_code
def yJ9_max_7cf53 : MethodName := ⟨RJ9, "max", "(II)I"⟩
abbrev cJ9_min_7cf53 : ByteArray := prog_18_method_69_code
def yJ9_min_7cf53 : MethodName := ⟨RJ9, "min", "(II)I"⟩
def RJ0 : String := "java/lang/String"
def TJ0 : u_T := fun k => match k with
  | _ => ("", "", "", false)
def tyJ0 : Nat → FieldType := fun k => match k with
  | _ => .int
abbrev wsJ00 : List Cond := u_ws RJ0 TJ0 0
theorem nmJ0 : ∀ a, a < 0 → ∀ b, b < 0 → a ≠ b → (TJ0 a).2.1 ≠ (TJ0 b).2.1 := by decide +kernel
theorem tyJ0_ok : ∀ k, k < 0 → parseFieldDescriptor (TJ0 k).2.2.1 = some (tyJ0 k) := by decide +kernel
def RJ10 : String := "java/lang/System"
def TJ10 : u_T := fun k => match k with
  | _ => ("", "", "", false)
def tyJ10 : Nat → FieldType := fun k => match k with
  | _ => .int
abbrev wsJ100 : List Cond := u_ws RJ10 TJ10 0
theorem nmJ10 : ∀ a, a < 0 → ∀ b, b < 0 → a ≠ b → (TJ10 a).2.1 ≠ (TJ10 b).2.1 := by decide +kernel
theorem tyJ10_ok : ∀ k, k < 0 → parseFieldDescriptor (TJ10 k).2.2.1 = some (tyJ10 k) := by decide +kernel
def RL : String := "MeatForDiamondsLaw"
abbrev cL_element : ByteArray := method_3_code
def yL_element : MethodName := ⟨RL, "element", "(LMeatForDiamonds;II[J)I"⟩
abbrev cL_law : ByteArray := code
def yL_law : MethodName := ⟨RL, "law", "([I)Z"⟩
/-- the words that a callee may be given -/
def lw_g : List Cond := lw_tbl.filter goodWord
theorem inX0 : ∀ w ∈ wsX00, w ∈ lw_g := by decide +kernel
theorem inX1 : ∀ w ∈ wsX10, w ∈ lw_g := by decide +kernel
theorem inX2 : ∀ w ∈ wsX20, w ∈ lw_g := by decide +kernel
theorem inX3 : ∀ w ∈ wsX30, w ∈ lw_g := by decide +kernel
theorem inX4 : ∀ w ∈ wsX40, w ∈ lw_g := by decide +kernel
theorem inX5 : ∀ w ∈ wsX50, w ∈ lw_g := by decide +kernel
theorem inX6 : ∀ w ∈ wsX60, w ∈ lw_g := by decide +kernel
theorem inX7 : ∀ w ∈ wsX70, w ∈ lw_g := by decide +kernel
theorem inX8 : ∀ w ∈ wsX80, w ∈ lw_g := by decide +kernel
theorem inX9 : ∀ w ∈ wsX90, w ∈ lw_g := by decide +kernel
theorem inX10 : ∀ w ∈ wsX100, w ∈ lw_g := by decide +kernel
theorem inX11 : ∀ w ∈ wsX110, w ∈ lw_g := by decide +kernel
abbrev classes : List vw_C := [(RX0, TX0, 7), (RX1, TX1, 7), (RX2, TX2, 7), (RX3, TX3, 7), (RX4, TX4, 7), (RX5, TX5, 5), (RX6, TX6, 7), (RX7, TX7, 7), (RX8, TX8, 7), (RX9, TX9, 13), (RX10, TX10, 6), (RX11, TX11, 23)]
end
section
/-! ===== the abstract machine: values, heap, one step as a weakest precondition ===== -/
abbrev AV : Type := Int32 ⊕ Int64 ⊕ (Nat × Nat) ⊕ Option Nat
abbrev aI (x : Int32) : AV := Sum.inl x
abbrev aL (x : Int64) : AV := Sum.inr (Sum.inl x)
abbrev aR (t p : Nat) : AV := Sum.inr (Sum.inr (Sum.inl (t, p)))
abbrev aS (o : Option Nat) : AV := Sum.inr (Sum.inr (Sum.inr o))
abbrev AH : Type := (Nat → Nat → Nat → Int32) × (Nat → Nat → Nat → Option Nat) × List Nat
abbrev LSt : Type := List (Option AV)
abbrev iI (n : Int) : Int32 := Int32.ofInt n
/-- a constant of the code -/
def cst (n : Int) : Int32 := match n with
  | .ofNat k => nI k
  | .negSucc k => Int32.ofInt (.negSucc k)
theorem cst_eq (n : Int) : Int32.ofInt n = cst n := by
  cases n with
  | ofNat k => exact Int32.ofInt_eq_ofNat
  | negSucc k => rfl
def uI (f : Nat → Nat → Nat → Int32) (t p i : Nat) (x : Int32) : Nat → Nat → Nat → Int32 := fun a b j => if a = t ∧ b = p ∧ j = i then x else f a b j
def uR (f : Nat → Nat → Nat → Option Nat) (t p i : Nat) (x : Option Nat) : Nat → Nat → Nat → Option Nat := fun a b j => if a = t ∧ b = p ∧ j = i then x else f a b j
/-- n elements of the array (t, p) from sp on come to (t', p') from dp on -/
def uC (f : Nat → Nat → Nat → Int32) (t p sp t' p' dp n : Nat) : Nat → Nat → Nat → Int32 := fun a b j => if a = t' ∧ b = p' ∧ dp ≤ j ∧ j < dp + n then f t p (sp + (j - dp)) else f a b j
abbrev wI (h : AH) (t p i : Nat) (x : Int32) : AH := (uI h.1 t p i x, h.2)
abbrev wR (h : AH) (t p i : Nat) (x : Option Nat) : AH := (h.1, uR h.2.1 t p i x, h.2.2)
def acnt (t : Nat) : Nat := [1, 3, 3, 3, 3, 3, 3, 3, 3, 3, 3, 1, 8, 8, 1, 1, 5, 1, 0, 1, 1, 5, 1].getD t 0
def alen (t : Nat) : Nat := [0, 0, 8, 8, 8, 4, 4, 4, 4, 4, 7, 8, 0, 100, 100, 0, 62, 200, 0, 4, 4, 8, 800].getD t 0
def akin (t : Nat) : Nat := [5, 5, 0, 0, 0, 0, 0, 0, 0, 0, 2, 3, 5, 0, 0, 5, 0, 1, 4, 0, 0, 0, 0].getD t 6
def fl (t : Nat) : List (Nat × Nat × Nat) := match t with
  | 0 => [(1, 1, 0), (1, 1, 1), (1, 1, 2), (3, 0, 0), (1, 11, 0), (1, 14, 0)]
  | 1 => [(1, 2, 0), (1, 3, 0), (1, 4, 0), (1, 5, 0), (0, 0, 0), (1, 6, 0), (1, 7, 0), (1, 8, 0), (1, 9, 0), (0, 0, 0), (1, 10, 0), (0, 0, 0), (0, 0, 0)]
  | 12 => [(2, 0, 0), (3, 0, 0), (0, 0, 0), (0, 0, 0), (1, 13, 0)]
  | 15 => [(1, 16, 0), (1, 16, 1), (1, 16, 2), (1, 16, 3), (1, 16, 4), (3, 0, 0), (0, 0, 0), (0, 0, 0), (0, 0, 0), (1, 19, 0), (0, 0, 0), (0, 0, 0), (0, 0, 0), (1, 17, 0), (1, 20, 0), (0, 0, 0), (1, 21, 0), (1, 21, 1), (1, 21, 2), (1, 21, 3), (1, 21, 4), (1, 22, 0), (0, 0, 0)]
  | 18 => [(0, 0, 0), (0, 0, 0), (0, 0, 0), (0, 0, 0), (0, 0, 0), (0, 0, 0), (0, 0, 0)]
  | _ => []
/-- the address, the numbers and the classes of the world: class ids, slots, addresses, array classes, the first address -/
abbrev GL : Type := (Nat → ClassId) × (Nat → Nat → Nat) × (Nat → Nat → Nat) × (Nat → Nat → ClassId) × Nat
def adr (G : GL) (t p : Nat) : Nat := if t = 18 then p else G.2.2.1 t p
abbrev gac (G : GL) : Nat → Nat → ClassId := G.2.2.2.1
abbrev gB (G : GL) : Nat := G.2.2.2.2
def cv (G : GL) (v : AV) : Value := match v with
  | .inl x => .int x
  | .inr (.inl x) => .long x
  | .inr (.inr (.inl q)) => .ref (adr G q.1 q.2)
  | .inr (.inr (.inr o)) => va_rf o
def fval (G : GL) (h : AH) (t p k : Nat) (f : Nat × Nat × Nat) : Value := match f.1 with
  | 1 => .ref (adr G f.2.1 (p + f.2.2))
  | 2 => va_rf (h.2.1 t p k)
  | _ => .int (h.1 t p k)
def flds (G : GL) (h : AH) (t p : Nat) : List Value := (fl t).zipIdx.map (fun q => fval G h t p q.2 q.1)
/-- the class of a sheep by its kind -/
def kcls (k : Int32) : Nat := if k = 1 then 7 else if k = 2 then 2 else if k = 3 then 8 else if k = 4 then 3 else if k = 5 then 1 else if k = 6 then 6 else if k = 7 then 0 else 4
def ocl (h : AH) (t p : Nat) : Nat := match t with
  | 0 => 10
  | 1 => 9
  | 12 => 5
  | 15 => 11
  | _ => kcls (h.1 18 p 0)
def cellE (G : GL) (h : AH) (t p : Nat) : va_E := match akin t with
  | 0 => .inl (gac G t p, (alen t, .inl (h.1 t p)))
  | 1 => .inl (gac G t p, (alen t, .inl (h.1 t p)))
  | 2 => .inl (gac G t p, (alen t, .inr (.inr (.inr (.inr (h.2.1 t p))))))
  | 3 => .inl (gac G t p, (alen t, .inr (.inr (.inr (.inr (fun i => some (adr G 12 i)))))))
  | _ => .inr (ocl h t p, flds G h t p)
def fixed : List (Nat × Nat) := (List.range 23).flatMap fun t => (List.range (acnt t)).map fun p => (t, p)
def idx (h : AH) : List (Nat × Nat) := fixed ++ h.2.2.map (fun a => (18, a))
def fW (G : GL) (h : AH) (q : Nat × Nat) : Nat × va_E := (adr G q.1 q.2, cellE G h q.1 q.2)
def wl (G : GL) (h : AH) : va_W := (idx h).map (fW G h)
def aty (t : Nat) : Option FieldType := match akin t with
  | 0 => some .int
  | 1 => some .boolean
  | 2 => some (.object "MeatForDiamonds$Sheep")
  | 3 => some (.object "MeatForDiamonds$Shelf")
  | _ => none
def tysG (G : GL) : List (ClassId × FieldType) := fixed.filterMap (fun q => (aty q.1).map (fun ty => (gac G q.1 q.2, ty)))
def okv (h : AH) (v : AV) : Prop := match v with
  | .inr (.inr (.inl q)) => q ∈ fixed
  | .inr (.inr (.inr (some a))) => a ∈ h.2.2
  | _ => True
def okh (h : AH) : Prop := ∀ t p i a, h.2.1 t p i = some a → a ∈ h.2.2
def okSt (h : AH) (st : List AV) : Prop := ∀ v ∈ st, okv h v
def nth : LSt → Nat → Option AV
  | [], _ => none
  | a :: _, 0 => a
  | _ :: l, n + 1 => nth l n
def setL : LSt → Nat → Option AV → LSt
  | [], _, _ => []
  | _ :: l, 0, v => v :: l
  | a :: l, n + 1, v => a :: setL l n v
/-- a store of one word: a long that reached into the slot is gone -/
def stL (L : LSt) (i : Nat) (v : Option AV) : LSt := match i with
  | 0 => setL L 0 v
  | j + 1 => match nth L j with
    | some (.inr (.inl _)) => setL (setL L j none) (j + 1) v
    | _ => setL L (j + 1) v
def okLs (h : AH) (L : LSt) : Prop := ∀ i v, nth L i = some v → okv h v
/-- the locals, as the kit lists them -/
def cvL (G : GL) (L : LSt) : List (Nat × Value) := (List.range L.length).filterMap (fun i => (nth L i).map (fun v => (i, cv G v)))
def acat (v : AV) : Nat := match v with
  | .inr (.inl _) => 2
  | _ => 1
def cats (st : List AV) : Nat := match st with
  | [] => 0
  | v :: r => acat v + cats r
/-- what a call does: int, nothing, long, a sheep or null -/
abbrev Tr : Type := (List AV → AH → (Int32 → AH → Prop) → Prop) ⊕ (List AV → AH → (AH → Prop) → Prop) ⊕ (List AV → AH → (Int64 → AH → Prop) → Prop) ⊕ (List AV → AH → (Option Nat → AH → Prop) → Prop)
abbrev RQ : Type := (Int32 → AH → Prop) ⊕ (AH → Prop) ⊕ (Int64 → AH → Prop) ⊕ (Option Nat → AH → Prop)
/-- a call's entry: how many values, frames, locals, cells, slots, what it does -/
abbrev CE : Type := Nat × Nat × Nat × Nat × Nat × Tr
/-- a field's: the receiver's tag, its place, its kind, the tag and the shift of what it links -/
abbrev FC : Type := Nat × Nat × Nat × Nat × Nat
/-- a method: class, bytes, locals, code, fields, constants, calls, and its room: frames, locals, cells, slots -/
abbrev MI : Type := String × ByteArray × Nat × List (Nat × Instr × List Nat) × List (Nat × FC) × List (Nat × Int32) × List (Nat × Int64) × List (Nat × CE) × Nat × Nat × Nat × Nat
abbrev mOwn (M : MI) : String := M.1
abbrev mCC (M : MI) : ByteArray := M.2.1
abbrev mNL (M : MI) : Nat := M.2.2.1
abbrev mCode (M : MI) : List (Nat × Instr × List Nat) := M.2.2.2.1
abbrev mF (M : MI) : List (Nat × FC) := M.2.2.2.2.1
abbrev mC (M : MI) : List (Nat × Int32) := M.2.2.2.2.2.1
abbrev mCl (M : MI) : List (Nat × Int64) := M.2.2.2.2.2.2.1
abbrev mCs (M : MI) : List (Nat × CE) := M.2.2.2.2.2.2.2.1
abbrev mFr (M : MI) : Nat := M.2.2.2.2.2.2.2.2.1
abbrev mLo (M : MI) : Nat := M.2.2.2.2.2.2.2.2.2.1
abbrev mMc (M : MI) : Nat := M.2.2.2.2.2.2.2.2.2.2.1
abbrev mMs (M : MI) : Nat := M.2.2.2.2.2.2.2.2.2.2.2
def lkp {α : Type} : List (Nat × α) → Nat → Option α
  | [], _ => none
  | q :: l, n => match Nat.beq q.1 n with
    | true => some q.2
    | false => lkp l n
def oE (o : Option Nat) (f : Nat → Prop) : Prop := match o with
  | some a => f a
  | none => False
def pI (st : List AV) (k : Int32 → List AV → Prop) : Prop := match st with
  | .inl x :: r => k x r
  | _ => False
def pL (st : List AV) (k : Int64 → List AV → Prop) : Prop := match st with
  | .inr (.inl x) :: r => k x r
  | _ => False
def pR (st : List AV) (k : Nat → Nat → List AV → Prop) : Prop := match st with
  | .inr (.inr (.inl q)) :: r => k q.1 q.2 r
  | _ => False
def pO (st : List AV) (k : Option Nat → List AV → Prop) : Prop := match st with
  | .inr (.inr (.inr o)) :: r => k o r
  | _ => False
/-- any value of one word -/
def p1 (st : List AV) (k : AV → List AV → Prop) : Prop := match st with
  | [] => False
  | v :: r => match Nat.beq (acat v) 1 with
    | true => k v r
    | false => False
/-- a reference: certain, or a sheep, or null -/
def pA (st : List AV) (k : AV → List AV → Prop) : Prop := match st with
  | .inr (.inr v) :: r => k (.inr (.inr v)) r
  | _ => False
def gI (L : LSt) (i : Nat) (k : Int32 → Prop) : Prop := match nth L i with
  | some (.inl x) => k x
  | _ => False
def gL (L : LSt) (i : Nat) (k : Int64 → Prop) : Prop := match nth L i with
  | some (.inr (.inl x)) => k x
  | _ => False
def gA (L : LSt) (i : Nat) (k : AV → Prop) : Prop := match nth L i with
  | some (.inr (.inr v)) => k (.inr (.inr v))
  | _ => False
/-- an instance's receiver: certain, or a sheep that is there -/
def pX (t : Nat) (st : List AV) (k : Nat → List AV → Prop) : Prop := match st with
  | .inr (.inr (.inl q)) :: r => match Nat.beq q.1 t with
    | true => k q.2 r
    | false => False
  | .inr (.inr (.inr o)) :: r => match Nat.beq t 18 with
    | true => oE o (fun a => k a r)
    | false => False
  | _ => False
def tif (b : Bool) (P : Prop) : Prop := match b with
  | true => P
  | false => False
def swc (x : Int32) (jp : Nat → Prop) : Nat → List Nat → Prop
  | _, [] => True
  | i, t :: ts => (x = nI i → jp t) ∧ swc x jp (i + 1) ts
def lks (x : Int32) (jp : Nat → Prop) (d : Nat) : List (Int × Int) → List Nat → Prop
  | [], [] => jp d
  | q :: qs, t :: ts => (x = iI q.1 → jp t) ∧ (¬ x = iI q.1 → lks x jp d qs ts)
  | _, _ => False
def bud (mc ms kc ks mc0 ms0 : Nat) (f : Nat → Nat → Prop) : Prop := match mc, ms with
  | 0, 0 => f kc ks
  | _, _ => (kc + mc ≤ mc0 ∧ ks + ms ≤ ms0) ∧ f (kc + mc) (ks + ms)
def cll (ce : CE) (st : List AV) (h : AH) (kc ks mc0 ms0 : Nat) (nx : List AV → AH → Nat → Nat → Prop) : Prop :=
  tif (Nat.ble ce.1 st.length && Nat.ble (cats (st.drop ce.1)) 8) (bud ce.2.2.2.1 ce.2.2.2.2.1 kc ks mc0 ms0 fun kc ks => match ce.2.2.2.2.2 with
    | .inl T => T (st.take ce.1).reverse h (fun x h => nx (aI x :: st.drop ce.1) h kc ks)
    | .inr (.inl T) => T (st.take ce.1).reverse h (fun h => nx (st.drop ce.1) h kc ks)
    | .inr (.inr (.inl T)) => T (st.take ce.1).reverse h (fun x h => nx (aL x :: st.drop ce.1) h kc ks)
    | .inr (.inr (.inr T)) => T (st.take ce.1).reverse h (fun x h => nx (aS x :: st.drop ce.1) h kc ks))
def inR (i : Int32) (n : Nat) : Prop := 0 ≤ i.toInt ∧ i.toInt < n
abbrev br (c : Prop) (A B : Prop) : Prop := (c → A) ∧ (¬ c → B)
def stp (M : MI) (Q : RQ) (nx : LSt → List AV → AH → Nat → Nat → Prop) (jp : Nat → LSt → List AV → AH → Nat → Nat → Prop) (ins : Instr) (tg : List Nat) (L : LSt) (st : List AV) (h : AH) (kc ks : Nat) : Prop :=
  match ins with
  | .iconst n => nx L (aI (cst n) :: st) h kc ks
  | .bipush n => nx L (aI (cst n) :: st) h kc ks
  | .sipush n => nx L (aI (cst n) :: st) h kc ks
  | .lconst n => nx L (aL (Int64.ofNat (n : Nat)) :: st) h kc ks
  | .aconst_null => nx L (aS none :: st) h kc ks
  | .ldc i => match lkp (mC M) i with
    | some v => nx L (aI v :: st) h kc ks
    | none => False
  | .ldc_w i => match lkp (mC M) i with
    | some v => nx L (aI v :: st) h kc ks
    | none => False
  | .ldc2_w i => match lkp (mCl M) i with
    | some v => nx L (aL v :: st) h kc ks
    | none => False
  | .iload_n i => gI L i fun x => nx L (aI x :: st) h kc ks
  | .iload i => gI L i fun x => nx L (aI x :: st) h kc ks
  | .lload_n i => gL L i fun x => nx L (aL x :: st) h kc ks
  | .lload i => gL L i fun x => nx L (aL x :: st) h kc ks
  | .aload_n i => gA L i fun x => nx L (x :: st) h kc ks
  | .aload i => gA L i fun x => nx L (x :: st) h kc ks
  | .istore_n i => pI st fun x st => nx (stL L i (some (aI x))) st h kc ks
  | .istore i => pI st fun x st => nx (stL L i (some (aI x))) st h kc ks
  | .lstore_n i => pL st fun x st => nx (setL (stL L i (some (aL x))) (i + 1) none) st h kc ks
  | .lstore i => pL st fun x st => nx (setL (stL L i (some (aL x))) (i + 1) none) st h kc ks
  | .astore_n i => pA st fun x st => nx (stL L i (some x)) st h kc ks
  | .astore i => pA st fun x st => nx (stL L i (some x)) st h kc ks
  | .iinc i n => gI L i fun x => nx (stL L i (some (aI (x + cst n)))) st h kc ks
  | .iadd => pI st fun y st => pI st fun x st => nx L (aI (x + y) :: st) h kc ks
  | .isub => pI st fun y st => pI st fun x st => nx L (aI (x - y) :: st) h kc ks
  | .imul => pI st fun y st => pI st fun x st => nx L (aI (x * y) :: st) h kc ks
  | .iand => pI st fun y st => pI st fun x st => nx L (aI (x &&& y) :: st) h kc ks
  | .ior => pI st fun y st => pI st fun x st => nx L (aI (x ||| y) :: st) h kc ks
  | .idiv => pI st fun y st => pI st fun x st => (¬ y = 0) ∧ nx L (aI (x / y) :: st) h kc ks
  | .irem => pI st fun y st => pI st fun x st => (¬ y = 0) ∧ nx L (aI (x - x / y * y) :: st) h kc ks
  | .ineg => pI st fun x st => nx L (aI (-x) :: st) h kc ks
  | .ishl => pI st fun y st => pI st fun x st => nx L (aI (x <<< (y &&& 31)) :: st) h kc ks
  | .ishr => pI st fun y st => pI st fun x st => nx L (aI (x >>> (y &&& 31)) :: st) h kc ks
  | .ladd => pL st fun y st => pL st fun x st => nx L (aL (x + y) :: st) h kc ks
  | .lsub => pL st fun y st => pL st fun x st => nx L (aL (x - y) :: st) h kc ks
  | .land => pL st fun y st => pL st fun x st => nx L (aL (x &&& y) :: st) h kc ks
  | .lor => pL st fun y st => pL st fun x st => nx L (aL (x ||| y) :: st) h kc ks
  | .ldiv => pL st fun y st => pL st fun x st => (¬ y = 0) ∧ nx L (aL (x / y) :: st) h kc ks
  | .lrem => pL st fun y st => pL st fun x st => (¬ y = 0) ∧ nx L (aL (x - x / y * y) :: st) h kc ks
  | .lushr => pI st fun y st => pL st fun x st => nx L (aL ((x.toUInt64 >>> (y.toInt64.toUInt64 &&& Int64.toUInt64 63)).toInt64) :: st) h kc ks
  | .lshl => pI st fun y st => pL st fun x st => nx L (aL (x <<< (y.toInt64 &&& 63)) :: st) h kc ks
  | .lcmp => pL st fun y st => pL st fun x st => nx L (aI (lg_cmp x y) :: st) h kc ks
  | .i2l => pI st fun x st => nx L (aL x.toInt64 :: st) h kc ks
  | .l2i => pL st fun x st => nx L (aI x.toInt32 :: st) h kc ks
  | .i2b => pI st fun x st => nx L (aI x.toInt8.toInt32 :: st) h kc ks
  | .i2s => pI st fun x st => nx L (aI x.toInt16.toInt32 :: st) h kc ks
  | .dup => p1 st fun v st => nx L (v :: v :: st) h kc ks
  | .dup2 => p1 st fun v st => p1 st fun w st => nx L (v :: w :: v :: w :: st) h kc ks
  | .pop => p1 st fun _ st => nx L st h kc ks
  | .goto _ => jp (tg.headD 0) L st h kc ks
  | .ifCond c _ => pI st fun x st => br (match c with
      | .eq => x = 0
      | .ne => ¬ x = 0
      | .lt => x < 0
      | .ge => 0 ≤ x
      | .gt => 0 < x
      | .le => x ≤ 0) (jp (tg.headD 0) L st h kc ks) (nx L st h kc ks)
  | .if_icmp c _ => pI st fun y st => pI st fun x st => br (match c with
      | .eq => x = y
      | .ne => ¬ x = y
      | .lt => x < y
      | .ge => y ≤ x
      | .gt => y < x
      | .le => x ≤ y) (jp (tg.headD 0) L st h kc ks) (nx L st h kc ks)
  | .ifnull _ => pO st fun o st => br (o = none) (jp (tg.headD 0) L st h kc ks) (nx L st h kc ks)
  | .ifnonnull _ => pO st fun o st => br (o = none) (nx L st h kc ks) (jp (tg.headD 0) L st h kc ks)
  | .tableswitch _ lo hi _ => pI st fun x st => (x.toInt < lo ∨ hi < x.toInt → jp (tg.headD 0) L st h kc ks) ∧ swc x (fun t => jp t L st h kc ks) lo.toNat tg.tail
  | .lookupswitch _ ps => pI st fun x st => lks x (fun t => jp t L st h kc ks) (tg.headD 0) ps.toList tg.tail
  | .getfield i => match lkp (mF M) i with
    | some f => pX f.1 st fun p st => match f.2.2.1 with
      | 1 => nx L (aR f.2.2.2.1 (p + f.2.2.2.2) :: st) h kc ks
      | 2 => nx L (aS (h.2.1 f.1 p f.2.1) :: st) h kc ks
      | _ => nx L (aI (h.1 f.1 p f.2.1) :: st) h kc ks
    | none => False
  | .putfield i => match lkp (mF M) i with
    | some f => match f.2.2.1 with
      | 0 => pI st fun x st => pX f.1 st fun p st => tif (!(Nat.beq f.1 18)) (nx L st (wI h f.1 p f.2.1 x) kc ks)
      | 3 => pI st fun x st => pX f.1 st fun p st => tif (!(Nat.beq f.1 18)) ((x = 0 ∨ x = 1) ∧ nx L st (wI h f.1 p f.2.1 x) kc ks)
      | 2 => pO st fun o st => pX f.1 st fun p st => tif (!(Nat.beq f.1 18)) (nx L st (wR h f.1 p f.2.1 o) kc ks)
      | _ => False
    | none => False
  | .iaload => pI st fun i st => pR st fun t p st => tif (Nat.beq (akin t) 0) (inR i (alen t) ∧ nx L (aI (h.1 t p i.toNatClampNeg) :: st) h kc ks)
  | .baload => pI st fun i st => pR st fun t p st => tif (Nat.beq (akin t) 1) (inR i (alen t) ∧ nx L (aI (h.1 t p i.toNatClampNeg) :: st) h kc ks)
  | .aaload => pI st fun i st => pR st fun t p st => match akin t with
    | 2 => inR i (alen t) ∧ nx L (aS (h.2.1 t p i.toNatClampNeg) :: st) h kc ks
    | 3 => inR i (alen t) ∧ nx L (aR 12 i.toNatClampNeg :: st) h kc ks
    | _ => False
  | .iastore => pI st fun x st => pI st fun i st => pR st fun t p st => tif (Nat.beq (akin t) 0) (inR i (alen t) ∧ nx L st (wI h t p i.toNatClampNeg x) kc ks)
  | .bastore => pI st fun x st => pI st fun i st => pR st fun t p st => tif (Nat.beq (akin t) 1) (inR i (alen t) ∧ (x = 0 ∨ x = 1) ∧ nx L st (wI h t p i.toNatClampNeg x) kc ks)
  | .aastore => pO st fun o st => pI st fun i st => pR st fun t p st => tif (Nat.beq (akin t) 2) (inR i (alen t) ∧ nx L st (wR h t p i.toNatClampNeg o) kc ks)
  | .arraylength => pR st fun t _ st => tif (Nat.ble (akin t) 3) (nx L (aI (nI (alen t)) :: st) h kc ks)
  | .invokevirtual i => match lkp (mCs M) (3 * i) with
    | some ce => cll ce st h kc ks (mMc M) (mMs M) fun st h kc ks => nx L st h kc ks
    | none => False
  | .invokestatic i => match lkp (mCs M) (3 * i + 1) with
    | some ce => cll ce st h kc ks (mMc M) (mMs M) fun st h kc ks => nx L st h kc ks
    | none => False
  | .invokespecial i => match lkp (mCs M) (3 * i + 2) with
    | some ce => cll ce st h kc ks (mMc M) (mMs M) fun st h kc ks => nx L st h kc ks
    | none => False
  | .ireturn => match Q with
    | .inl q => match st with
      | [.inl x] => q x h
      | _ => False
    | _ => False
  | .return_ => match Q with
    | .inr (.inl q) => match st with
      | [] => q h
      | _ => False
    | _ => False
  | .lreturn => match Q with
    | .inr (.inr (.inl q)) => match st with
      | [.inr (.inl x)] => q x h
      | _ => False
    | _ => False
  | .areturn => match Q with
    | .inr (.inr (.inr q)) => match st with
      | [.inr (.inr (.inr o))] => q o h
      | _ => False
    | _ => False
  | _ => False
/-! ===== what an abstract state says of the machine ===== -/
def nestW : List Cond := [.methodLinkNest RX5 35 yX10_within RX10, .methodLinkNest RX9 61 yX10_within RX10, .methodLinkNest RX9 90 yX10_stuckOf RX10, .methodLinkNest RX9 101 yX10_worthOfPair RX10, .methodLinkNest RX9 129 yX10_sum RX10, .castable RX7 RX4, .castable RX2 RX4, .castable RX8 RX4, .castable RX3 RX4, .castable RX1 RX4, .castable RX6 RX4, .castable RX0 RX4]
def KG (G : GL) (s : State) : Prop := va_K (G.1, G.2.1) classes (tysG G) s ∧ gB G ≤ s.heap.size ∧ ∀ w ∈ nestW, va_Nw w s
def gA0 (G : GL) : Nat → Prop := fun q => gB G ≤ q
def Wd (G : GL) (h : AH) (s : State) (H : Heap) (locs : List Loc) : Prop := okh h ∧ va_P (G.1, G.2.1) classes (wl G h) H ∧ va_D (gA0 G) (wl G h) ∧ va_S (gA0 G) s.heap H locs
def Cx (M : MI) (p : Program) (R : Room) (s : State) (m : MethodId) (args : Array Value) (c : Code) : Prop :=
  p.tables.exec = Jvm.exec ∧ c.code = mCC M ∧ c.maxLocals = mNL M ∧ s.vm.findClass (mOwn M) = some m.cls ∧ (∀ w ∈ lw_g, w.before args s = true) ∧ mFr M ≤ R.frames ∧ mLo M ≤ R.locals ∧ mMc M ≤ R.cells ∧ mMs M ≤ R.slots
def EndOK (M : MI) (Q : RQ) (G : GL) (p : Program) (l : Launch) (e : Env) (R : Room) (s : State) (m : MethodId) (args : Array Value) (below : List Frame) (meth : Method) (c : Code) (Qf : State → Prop) (S0 : List Nat) : Prop :=
  match Q with
  | .inl q => ∀ (x : Int32) (h : AH) (H : Heap) (locs : List Loc) (kc ks pc : Nat) (ls : Array Slot), decode (mCC M) pc = .ok (.ireturn, 1) → q x h → Wd G h s H locs → (∀ a ∈ S0, a ∈ h.2.2) → kc ≤ mMc M → ks ≤ mMs M → W p l e R s m args below meth c H locs kc ks Qf (F0 m pc ls [.int x])
  | .inr (.inl q) => ∀ (h : AH) (H : Heap) (locs : List Loc) (kc ks pc : Nat) (ls : Array Slot), decode (mCC M) pc = .ok (.return_, 1) → q h → Wd G h s H locs → (∀ a ∈ S0, a ∈ h.2.2) → kc ≤ mMc M → ks ≤ mMs M → W p l e R s m args below meth c H locs kc ks Qf (F0 m pc ls [])
  | .inr (.inr (.inl q)) => ∀ (x : Int64) (h : AH) (H : Heap) (locs : List Loc) (kc ks pc : Nat) (ls : Array Slot), decode (mCC M) pc = .ok (.lreturn, 1) → q x h → Wd G h s H locs → (∀ a ∈ S0, a ∈ h.2.2) → kc ≤ mMc M → ks ≤ mMs M → W p l e R s m args below meth c H locs kc ks Qf (F0 m pc ls [.long x])
  | .inr (.inr (.inr q)) => ∀ (x : Option Nat) (h : AH) (H : Heap) (locs : List Loc) (kc ks pc : Nat) (ls : Array Slot), decode (mCC M) pc = .ok (.areturn, 1) → q x h → okv h (aS x) → Wd G h s H locs → (∀ a ∈ S0, a ∈ h.2.2) → kc ≤ mMc M → ks ≤ mMs M → W p l e R s m args below meth c H locs kc ks Qf (F0 m pc ls [va_rf x])
/-- from this state of the method the machine comes to its end -/
def AW (M : MI) (Q : RQ) (pc : Nat) (L : LSt) (st : List AV) (h : AH) (kc ks : Nat) : Prop :=
  ∀ (G : GL) (p : Program) (l : Launch) (e : Env) (R : Room) (s : State) (m : MethodId) (args : Array Value) (below : List Frame) (meth : Method) (c : Code) (H : Heap) (locs : List Loc) (ls : Array Slot) (Qf : State → Prop) (S0 : List Nat),
    Cx M p R s m args c → KG G s → EndOK M Q G p l e R s m args below meth c Qf S0 → Wd G h s H locs → (∀ a ∈ S0, a ∈ h.2.2) → kc ≤ mMc M → ks ≤ mMs M → okLs h L → okSt h st → lv_has ls (mNL M) (cvL G L) → L.length = mNL M →
    W p l e R s m args below meth c H locs kc ks Qf (F0 m pc ls (st.map (cv G)))
/-- a call's rule -/
def CR (own : String) (ins : Instr) (ce : CE) : Prop :=
  ∀ (G : GL) (p : Program) (l : Launch) (e : Env) (R : Room) (s : State) (m : MethodId) (args : Array Value) (below : List Frame) (meth : Method) (c : Code) (cc : ByteArray) (H : Heap) (locs : List Loc) (kc ks : Nat) (Qf : State → Prop) (pc : Nat) (ls : Array Slot) (as rest : List AV) (h : AH),
    p.tables.exec = Jvm.exec → c.code = cc → c.maxLocals = ls.size → s.vm.findClass own = some m.cls → (∀ w ∈ lw_g, w.before args s = true) → ce.2.1 ≤ R.frames → ce.2.2.1 ≤ R.locals → kc + ce.2.2.2.1 ≤ R.cells → ks + ce.2.2.2.2.1 ≤ R.slots →
    KG G s → Wd G h s H locs → okSt h as → as.length = ce.1 → cats rest ≤ 8 → decode cc pc = .ok (ins, 3) →
    match ce.2.2.2.2.2 with
    | .inl T => ∀ K : Int32 → AH → Prop, T as h K → (∀ (x : Int32) (h' : AH) (H' : Heap) (locs' : List Loc), K x h' → Wd G h' s H' locs' → (∀ a ∈ h.2.2, a ∈ h'.2.2) → W p l e R s m args below meth c H' locs' (kc + ce.2.2.2.1) (ks + ce.2.2.2.2.1) Qf (F0 m (pc + 3) ls (.int x :: rest.map (cv G)))) → W p l e R s m args below meth c H locs kc ks Qf (F0 m pc ls ((as.map (cv G)).reverse ++ rest.map (cv G)))
    | .inr (.inl T) => ∀ K : AH → Prop, T as h K → (∀ (h' : AH) (H' : Heap) (locs' : List Loc), K h' → Wd G h' s H' locs' → (∀ a ∈ h.2.2, a ∈ h'.2.2) → W p l e R s m args below meth c H' locs' (kc + ce.2.2.2.1) (ks + ce.2.2.2.2.1) Qf (F0 m (pc + 3) ls (rest.map (cv G)))) → W p l e R s m args below meth c H locs kc ks Qf (F0 m pc ls ((as.map (cv G)).reverse ++ rest.map (cv G)))
    | .inr (.inr (.inl T)) => ∀ K : Int64 → AH → Prop, T as h K → (∀ (x : Int64) (h' : AH) (H' : Heap) (locs' : List Loc), K x h' → Wd G h' s H' locs' → (∀ a ∈ h.2.2, a ∈ h'.2.2) → W p l e R s m args below meth c H' locs' (kc + ce.2.2.2.1) (ks + ce.2.2.2.2.1) Qf (F0 m (pc + 3) ls (.long x :: rest.map (cv G)))) → W p l e R s m args below meth c H locs kc ks Qf (F0 m pc ls ((as.map (cv G)).reverse ++ rest.map (cv G)))
    | .inr (.inr (.inr T)) => ∀ K : Option Nat → AH → Prop, T as h K → (∀ (x : Option Nat) (h' : AH) (H' : Heap) (locs' : List Loc), K x h' → okv h' (aS x) → Wd G h' s H' locs' → (∀ a ∈ h.2.2, a ∈ h'.2.2) → W p l e R s m args below meth c H' locs' (kc + ce.2.2.2.1) (ks + ce.2.2.2.2.1) Qf (F0 m (pc + 3) ls (va_rf x :: rest.map (cv G)))) → W p l e R s m args below meth c H locs kc ks Qf (F0 m pc ls ((as.map (cv G)).reverse ++ rest.map (cv G)))
/-! ===== the checks of a method's tables ===== -/
def ilen (i : Instr) : Nat := match i with
  | .bipush _ => 2
  | .sipush _ => 3
  | .ldc _ => 2
  | .ldc_w _ => 3
  | .ldc2_w _ => 3
  | .iload _ => 2
  | .lload _ => 2
  | .aload _ => 2
  | .istore _ => 2
  | .lstore _ => 2
  | .astore _ => 2
  | .iinc _ _ => 3
  | .goto _ => 3
  | .ifCond _ _ => 3
  | .if_icmp _ _ => 3
  | .ifnull _ => 3
  | .ifnonnull _ => 3
  | .getfield _ => 3
  | .putfield _ => 3
  | .invokevirtual _ => 3
  | .invokestatic _ => 3
  | .invokespecial _ => 3
  | .tableswitch _ _ _ _ => 0
  | .lookupswitch _ _ => 0
  | _ => 1
def nofall (i : Instr) : Bool := match i with
  | .goto _ => true
  | .tableswitch _ _ _ _ => true
  | .lookupswitch _ _ => true
  | .ireturn => true
  | .lreturn => true
  | .areturn => true
  | .return_ => true
  | _ => false
def tok (pc nL : Nat) (i : Instr) (tg : List Nat) : Bool := match i with
  | .goto off => decide ((pc : Int) + off = (tg.headD 0 : Int))
  | .ifCond _ off => decide ((pc : Int) + off = (tg.headD 0 : Int))
  | .if_icmp _ off => decide ((pc : Int) + off = (tg.headD 0 : Int))
  | .ifnull off => decide ((pc : Int) + off = (tg.headD 0 : Int))
  | .ifnonnull off => decide ((pc : Int) + off = (tg.headD 0 : Int))
  | .tableswitch d lo hi offs => decide ((pc : Int) + d = (tg.headD 0 : Int)) && decide (0 ≤ lo ∧ lo ≤ hi ∧ hi < 1000) && decide (offs.toList.map (fun o => (pc : Int) + o) = tg.tail.map (fun t : Nat => (t : Int))) && decide ((offs.size : Int) = hi - lo + 1)
  | .lookupswitch d ps => decide ((pc : Int) + d = (tg.headD 0 : Int)) && (ps.toList.zip (ps.toList.drop 1)).all (fun (a, next) => a.1 < next.1) && decide (ps.toList.map (fun o => (pc : Int) + o.2) = tg.tail.map (fun t : Nat => (t : Int))) && ps.toList.all (fun q => decide (-1000 < q.1 ∧ q.1 < 1000))
  | .bipush n => decide ((Int8.ofInt n).toInt32 = Int32.ofInt n)
  | .sipush n => decide ((Int16.ofInt n).toInt32 = Int32.ofInt n)
  | .istore_n k => Nat.blt k nL
  | .istore k => Nat.blt k nL
  | .astore_n k => Nat.blt k nL
  | .astore k => Nat.blt k nL
  | .iinc k _ => Nat.blt k nL
  | .lstore_n k => Nat.blt (k + 1) nL
  | .lstore k => Nat.blt (k + 1) nL
  | _ => true
def cok1 (cc : ByteArray) (nL : Nat) (q : Nat × Instr × List Nat) : Bool := (match decode cc q.1 with
  | .ok (i, n) => decide (i = q.2.1) && (Nat.beq (ilen i) 0 || Nat.beq (ilen i) n)
  | .error _ => false) && tok q.1 nL q.2.1 q.2.2
def cok (cc : ByteArray) (nL : Nat) : List (Nat × Instr × List Nat) → Bool
  | [] => true
  | q :: r => cok1 cc nL q && (match r with
    | [] => true
    | q' :: _ => nofall q.2.1 || Nat.beq q'.1 (q.1 + ilen q.2.1)) && cok cc nL r
def TC (t : Nat) : u_T := match t with
  | 0 => TX10
  | 1 => TX9
  | 12 => TX5
  | 15 => TX11
  | _ => TX4
def isob (t : Nat) : Bool := Nat.beq t 0 || Nat.beq t 1 || Nat.beq t 12 || Nat.beq t 15 || Nat.beq t 18
abbrev FOK (own : String) (q : Nat × FC) : Prop := isob q.2.1 = true ∧ (fl q.2.1)[q.2.2.1]? = some q.2.2.2 ∧ Cond.fieldLink own q.1 (TC q.2.1 q.2.2.1).1 (TC q.2.1 q.2.2.1).2.1 (TC q.2.1 q.2.2.1).2.2.1 ∈ lw_g
def kIns (k : Nat) : Instr := match k % 3 with
  | 0 => .invokevirtual (k / 3)
  | 1 => .invokestatic (k / 3)
  | _ => .invokespecial (k / 3)
def MOK (M : MI) : Prop := cok (mCC M) (mNL M) (mCode M) = true ∧ (∀ q ∈ mF M, FOK (mOwn M) q) ∧ (∀ q ∈ mC M, Cond.constant (mOwn M) q.1 q.2 ∈ lw_g) ∧ (∀ q ∈ mCl M, Cond.constantLong (mOwn M) q.1 q.2 ∈ lw_g) ∧ ∀ q ∈ mCs M, q.2.2.1 ≤ mFr M ∧ q.2.2.2.1 ≤ mLo M ∧ CR (mOwn M) (kIns q.1) q.2
/-! ===== the run of a method between its cuts ===== -/
def msk : List Bool → LSt → LSt
  | b :: bs, a :: l => (match b with
    | true => a
    | false => none) :: msk bs l
  | _, l => l
def frm : List (Nat × Instr × List Nat) → Nat → List (Nat × Instr × List Nat)
  | [], _ => []
  | q :: r, t => match Nat.beq q.1 t with
    | true => q :: r
    | false => frm r t
def ctg (M : MI) (Q : RQ) (cuts : List (Nat × List Bool)) (g : List (Nat × Instr × List Nat) → LSt → List AV → AH → Nat → Nat → Prop) (r : List (Nat × Instr × List Nat)) (L : LSt) (st : List AV) (h : AH) (kc ks : Nat) : Prop := match r with
  | [] => False
  | q :: r => match lkp cuts q.1 with
    | some b => AW M Q q.1 (msk b L) st h kc ks
    | none => g (q :: r) L st h kc ks
def go (M : MI) (Q : RQ) (cuts : List (Nat × List Bool)) : Nat → List (Nat × Instr × List Nat) → LSt → List AV → AH → Nat → Nat → Prop
  | 0, _, _, _, _, _, _ => False
  | n + 1, cur, L, st, h, kc, ks => match cur with
    | [] => False
    | q :: r => stp M Q (ctg M Q cuts (go M Q cuts n) r) (fun t => ctg M Q cuts (go M Q cuts n) (frm (mCode M) t)) q.2.1 q.2.2 L st h kc ks
end
section
/-! ===== soundness of a step ===== -/
theorem pI_inv {st : List AV} {k : Int32 → List AV → Prop} (h : pI st k) : ∃ x r, st = aI x :: r ∧ k x r := by
  match st, h with
  | .inl x :: r, h => exact ⟨x, r, rfl, h⟩
theorem pL_inv {st : List AV} {k : Int64 → List AV → Prop} (h : pL st k) : ∃ x r, st = aL x :: r ∧ k x r := by
  match st, h with
  | .inr (.inl x) :: r, h => exact ⟨x, r, rfl, h⟩
theorem pR_inv {st : List AV} {k : Nat → Nat → List AV → Prop} (h : pR st k) : ∃ t p r, st = aR t p :: r ∧ k t p r := by
  match st, h with
  | .inr (.inr (.inl q)) :: r, h => exact ⟨q.1, q.2, r, rfl, h⟩
theorem pO_inv {st : List AV} {k : Option Nat → List AV → Prop} (h : pO st k) : ∃ o r, st = aS o :: r ∧ k o r := by
  match st, h with
  | .inr (.inr (.inr o)) :: r, h => exact ⟨o, r, rfl, h⟩
theorem pA_inv {st : List AV} {k : AV → List AV → Prop} (h : pA st k) : ∃ v r, st = (.inr (.inr v) : AV) :: r ∧ k (.inr (.inr v)) r := by
  match st, h with
  | .inr (.inr v) :: r, h => exact ⟨v, r, rfl, h⟩
theorem p1_inv {st : List AV} {k : AV → List AV → Prop} (h : p1 st k) : ∃ v r, st = v :: r ∧ acat v = 1 ∧ k v r := by
  match st, h with
  | v :: r, h =>
    unfold p1 at h
    cases hb : Nat.beq (acat v) 1 with
    | true => simp only [hb] at h; exact ⟨v, r, rfl, Nat.eq_of_beq_eq_true hb, h⟩
    | false => simp only [hb] at h
theorem tif_inv {b : Bool} {P : Prop} (h : tif b P) : b = true ∧ P := by
  cases b with
  | true => exact ⟨rfl, h⟩
  | false => exact h.elim
theorem gI_inv {L : LSt} {i : Nat} {k : Int32 → Prop} (h : gI L i k) : ∃ x, nth L i = some (aI x) ∧ k x := by
  unfold gI at h
  split at h
  · exact ⟨_, by assumption, h⟩
  · exact h.elim
theorem gL_inv {L : LSt} {i : Nat} {k : Int64 → Prop} (h : gL L i k) : ∃ x, nth L i = some (aL x) ∧ k x := by
  unfold gL at h
  split at h
  · exact ⟨_, by assumption, h⟩
  · exact h.elim
theorem gA_inv {L : LSt} {i : Nat} {k : AV → Prop} (h : gA L i k) : ∃ x, nth L i = some (.inr (.inr x)) ∧ k (.inr (.inr x)) := by
  unfold gA at h
  split at h
  · exact ⟨_, by assumption, h⟩
  · exact h.elim
theorem lkp_mem {α : Type} {l : List (Nat × α)} {n : Nat} {x : α} (h : lkp l n = some x) : (n, x) ∈ l := by
  induction l with
  | nil => cases h
  | cons q l ih =>
    unfold lkp at h
    cases hb : Nat.beq q.1 n with
    | true =>
      simp only [hb] at h
      cases h
      have := Nat.eq_of_beq_eq_true hb
      subst this
      exact List.mem_cons_self
    | false =>
      simp only [hb] at h
      exact List.mem_cons_of_mem _ (ih h)
/-- a receiver: the tag is that of the field, the cell is there -/
theorem pX_inv {t : Nat} {st : List AV} {k : Nat → List AV → Prop} (h : pX t st k) : ∃ (v : AV) (p : Nat) (r : List AV), st = v :: r ∧ k p r ∧ (v = aR t p ∨ (t = 18 ∧ v = aS (some p))) := by
  match st, h with
  | .inr (.inr (.inl q)) :: r, h =>
    have h2 : (match Nat.beq q.1 t with
      | true => k q.2 r
      | false => False) := h
    clear h
    generalize hb : Nat.beq q.1 t = b at h2
    cases b with
    | true =>
      have := Nat.eq_of_beq_eq_true hb
      subst this
      exact ⟨_, q.2, r, rfl, h2, Or.inl rfl⟩
    | false => exact h2.elim
  | .inr (.inr (.inr o)) :: r, h =>
    have h2 : (match Nat.beq t 18 with
      | true => oE o (fun a => k a r)
      | false => False) := h
    clear h
    generalize hb : Nat.beq t 18 = b at h2
    cases b with
    | true =>
      cases o with
      | none => exact h2.elim
      | some a => exact ⟨_, a, r, rfl, h2, Or.inr ⟨Nat.eq_of_beq_eq_true hb, rfl⟩⟩
    | false => exact h2.elim
theorem okSt_t {h : AH} {v : AV} {r : List AV} (k : okSt h (v :: r)) : okSt h r := fun w hw => k w (List.mem_cons_of_mem _ hw)
theorem okSt_h {h : AH} {v : AV} {r : List AV} (k : okSt h (v :: r)) : okv h v := k v List.mem_cons_self
theorem okSt_c {h : AH} {v : AV} {r : List AV} (hv : okv h v) (k : okSt h r) : okSt h (v :: r) := fun w hw => (List.mem_cons.mp hw).elim (fun e => e ▸ hv) (k w)
theorem okSt_i {h : AH} {x : Int32} {r : List AV} (k : okSt h r) : okSt h (aI x :: r) := okSt_c trivial k
theorem okSt_l {h : AH} {x : Int64} {r : List AV} (k : okSt h r) : okSt h (aL x :: r) := okSt_c trivial k
theorem okv_mono {h h' : AH} (hs : ∀ a ∈ h.2.2, a ∈ h'.2.2) {v : AV} (k : okv h v) : okv h' v := by
  match v, k with
  | .inl _, _ => trivial
  | .inr (.inl _), _ => trivial
  | .inr (.inr (.inl _)), k => exact k
  | .inr (.inr (.inr none)), _ => trivial
  | .inr (.inr (.inr (some a))), k => exact hs a k
theorem nth_lt {L : LSt} {i : Nat} {v : AV} (h : nth L i = some v) : i < L.length := by
  induction L generalizing i with
  | nil => cases h
  | cons a l ih =>
    cases i with
    | zero => simp
    | succ i => have := ih h; simp; omega
theorem setL_len (L : LSt) (i : Nat) (v : Option AV) : (setL L i v).length = L.length := by
  induction L generalizing i with
  | nil => rfl
  | cons a l ih =>
    cases i with
    | zero => rfl
    | succ i => simp [setL, ih]
theorem nth_setL (L : LSt) (i j : Nat) (v : Option AV) : nth (setL L i v) j = if j = i ∧ i < L.length then v else nth L j := by
  induction L generalizing i j with
  | nil => simp [setL, nth]
  | cons a l ih =>
    cases i with
    | zero =>
      cases j with
      | zero => simp [setL, nth]
      | succ j => simp [setL, nth]
    | succ i =>
      cases j with
      | zero => simp [setL, nth]
      | succ j => simp [setL, nth, ih]
theorem cvL_mem {G : GL} {L : LSt} {q : Nat × Value} : q ∈ cvL G L ↔ ∃ v, nth L q.1 = some v ∧ q.2 = cv G v := by
  unfold cvL
  rw [List.mem_filterMap]
  constructor
  · rintro ⟨i, -, h⟩
    cases hn : nth L i with
    | none => rw [hn] at h; cases h
    | some v => rw [hn] at h; cases h; exact ⟨v, hn, rfl⟩
  · rintro ⟨v, h1, h2⟩
    refine ⟨q.1, List.mem_range.mpr (nth_lt h1), ?_⟩
    rw [h1, Option.map_some, ← h2]
theorem cvL_at {G : GL} {L : LSt} {ls : Array Slot} {nL i : Nat} {v : AV} (hl : lv_has ls nL (cvL G L)) (h : nth L i = some v) : ls[i]? = some (.val (cv G v)) := hl.2.2 (i, cv G v) (cvL_mem.mpr ⟨v, h, rfl⟩)
theorem cv_cat (G : GL) (v : AV) : (cv G v).category = acat v := by
  match v with
  | .inl _ => rfl
  | .inr (.inl _) => rfl
  | .inr (.inr (.inl _)) => rfl
  | .inr (.inr (.inr none)) => rfl
  | .inr (.inr (.inr (some _))) => rfl
theorem cats_map (G : GL) (st : List AV) : ((st.map (cv G)).map fun v => v.category).sum = cats st := by
  induction st with
  | nil => rfl
  | cons v r ih => simp only [List.map_cons, List.sum_cons, cats, cv_cat, ih]
theorem stL_len (L : LSt) (i : Nat) (v : Option AV) : (stL L i v).length = L.length := by
  unfold stL
  split
  · exact setL_len ..
  · split
    · rw [setL_len, setL_len]
    · rw [setL_len]
/-- what is still there behind a store -/
theorem nth_stL {L : LSt} {i j : Nat} {v : Option AV} {w : AV} (hn : nth (stL L i v) j = some w) : (j = i ∧ v = some w ∧ i < L.length) ∨ (j ≠ i ∧ nth L j = some w ∧ ¬ (j + 1 = i ∧ acat w = 2)) ∨ (j = i ∧ ¬ i < L.length) := by
  by_cases hl : i < L.length
  case neg =>
    by_cases hj : j = i
    · exact Or.inr (Or.inr ⟨hj, hl⟩)
    refine Or.inr (Or.inl ⟨hj, ?_⟩)
    cases i with
    | zero =>
      simp only [stL, nth_setL] at hn
      rw [if_neg (by omega)] at hn
      exact ⟨hn, by omega⟩
    | succ i =>
      unfold stL at hn
      simp only at hn
      split at hn
      · rename_i x hx
        simp only [nth_setL, setL_len] at hn
        rw [if_neg (by omega)] at hn
        split at hn
        · cases hn
        · exact ⟨hn, by have := nth_lt hn; omega⟩
      · rename_i hx
        simp only [nth_setL] at hn
        rw [if_neg (by omega)] at hn
        refine ⟨hn, fun ⟨h1, h2⟩ => ?_⟩
        have : j = i := by omega
        subst this
        match w, hn, h2 with
        | .inr (.inl x), hn, _ => exact hx x hn
  case pos =>
    by_cases hj : j = i
    · subst hj
      refine Or.inl ⟨rfl, ?_, hl⟩
      cases j with
      | zero =>
        simp only [stL, nth_setL] at hn
        rw [if_pos ⟨trivial, hl⟩] at hn
        exact hn
      | succ i =>
        unfold stL at hn
        simp only at hn
        split at hn
        · simp only [nth_setL, setL_len] at hn
          rw [if_pos ⟨trivial, hl⟩] at hn
          exact hn
        · simp only [nth_setL] at hn
          rw [if_pos ⟨trivial, hl⟩] at hn
          exact hn
    · refine Or.inr (Or.inl ⟨hj, ?_⟩)
      cases i with
      | zero =>
        simp only [stL, nth_setL] at hn
        rw [if_neg (by omega)] at hn
        exact ⟨hn, by omega⟩
      | succ i =>
        unfold stL at hn
        simp only at hn
        split at hn
        · rename_i x hx
          simp only [nth_setL, setL_len] at hn
          rw [if_neg (by omega)] at hn
          split at hn
          · cases hn
          · exact ⟨hn, by have := nth_lt hn; omega⟩
        · rename_i hx
          simp only [nth_setL] at hn
          rw [if_neg (by omega)] at hn
          refine ⟨hn, fun ⟨h1, h2⟩ => ?_⟩
          have : j = i := by omega
          subst this
          match w, hn, h2 with
          | .inr (.inl x), hn, _ => exact hx x hn
theorem okLs_st {h : AH} {L : LSt} {i : Nat} {v : AV} (hL : okLs h L) (hv : okv h v) : okLs h (stL L i (some v)) := by
  intro j w hw
  rcases nth_stL hw with ⟨_, h2, _⟩ | ⟨_, h2, _⟩ | ⟨h1, h2⟩
  · cases h2; exact hv
  · exact hL j w h2
  · exact absurd (nth_lt hw) (by rw [stL_len]; omega)
theorem lv_st {G : GL} {L : LSt} {ls : Array Slot} {nL i : Nat} {v : AV} (hl : lv_has ls nL ((i, cv G v) :: (cvL G L).filter (fun q => !(q.1 == i) && !(q.1 + 1 == i && q.2.category == 2)))) : lv_has ls nL (cvL G (stL L i (some v))) := by
  refine ⟨hl.1, hl.2.1, fun q hq => hl.2.2 q ?_⟩
  obtain ⟨w, h1, h2⟩ := cvL_mem.mp hq
  rcases nth_stL h1 with ⟨h3, h4, _⟩ | ⟨h3, h4, h5⟩ | ⟨h3, h4⟩
  · cases h4
    rw [← h3, ← h2]
    exact List.mem_cons_self
  · refine List.mem_cons_of_mem _ (List.mem_filter.mpr ⟨cvL_mem.mpr ⟨w, h4, h2⟩, ?_⟩)
    simp only [h2, cv_cat, Bool.and_eq_true, Bool.not_eq_true', beq_eq_false_iff_ne, ne_eq, Bool.and_eq_false_imp, beq_iff_eq]
    exact ⟨h3, fun e1 => fun e2 => h5 ⟨e1, e2⟩⟩
  · exact absurd (nth_lt h1) (by rw [stL_len]; omega)
theorem okLs_st2 {h : AH} {L : LSt} {i : Nat} {v : AV} (hL : okLs h L) (hv : okv h v) : okLs h (setL (stL L i (some v)) (i + 1) none) := by
  intro j w hw
  rw [nth_setL] at hw
  split at hw
  · cases hw
  · exact okLs_st hL hv j w hw
theorem lv_st2 {G : GL} {L : LSt} {ls : Array Slot} {nL i : Nat} {v : AV} (hL : L.length = nL) (hi : i + 1 < nL) (hl : lv_has ls nL ((i, cv G v) :: (cvL G L).filter (fun q => !(q.1 == i) && (!(q.1 == i + 1) && !(q.1 + 1 == i && q.2.category == 2))))) : lv_has ls nL (cvL G (setL (stL L i (some v)) (i + 1) none)) := by
  refine ⟨hl.1, hl.2.1, fun q hq => hl.2.2 q ?_⟩
  obtain ⟨w, h1, h2⟩ := cvL_mem.mp hq
  rw [nth_setL] at h1
  split at h1
  · cases h1
  · rename_i hne
    rw [stL_len] at hne
    have hne : q.1 ≠ i + 1 := fun e => hne ⟨e, by omega⟩
    rcases nth_stL h1 with ⟨h3, h4, _⟩ | ⟨h3, h4, h5⟩ | ⟨h3, h4⟩
    · cases h4
      rw [← h3, ← h2]
      exact List.mem_cons_self
    · refine List.mem_cons_of_mem _ (List.mem_filter.mpr ⟨cvL_mem.mpr ⟨w, h4, h2⟩, ?_⟩)
      simp only [h2, cv_cat, Bool.and_eq_true, Bool.not_eq_true', beq_eq_false_iff_ne, ne_eq, Bool.and_eq_false_imp, beq_iff_eq]
      exact ⟨h3, hne, fun e1 => fun e2 => h5 ⟨e1, e2⟩⟩
    · omega
end
section
/-! ===== the world's cells ===== -/
theorem fixed_mem {t p : Nat} : (t, p) ∈ fixed ↔ t < 23 ∧ p < acnt t := by
  unfold fixed
  simp only [List.mem_flatMap, List.mem_range, List.mem_map, Prod.mk.injEq]
  constructor
  · rintro ⟨a, h1, b, h2, rfl, rfl⟩
    exact ⟨h1, h2⟩
  · rintro ⟨h1, h2⟩
    exact ⟨t, h1, p, h2, rfl, rfl⟩
theorem fixed18 {p : Nat} : (18, p) ∉ fixed := fun h => by
  have := (fixed_mem.mp h).2
  simp [acnt] at this
theorem idx_fx {h : AH} {q : Nat × Nat} (hq : q ∈ fixed) : q ∈ idx h := List.mem_append_left _ hq
theorem idx_sh {h : AH} {a : Nat} (ha : a ∈ h.2.2) : (18, a) ∈ idx h := List.mem_append_right _ (List.mem_map.mpr ⟨a, ha, rfl⟩)
theorem wl_get {G : GL} {h : AH} {q : Nat × Nat} (hq : q ∈ idx h) : ∃ j : Nat, (idx h)[j]? = some q ∧ (wl G h)[j]? = some (adr G q.1 q.2, cellE G h q.1 q.2) := by
  obtain ⟨j, hj⟩ := List.getElem?_of_mem hq
  refine ⟨j, hj, ?_⟩
  unfold wl
  rw [List.getElem?_map, hj]
  rfl
theorem wl_set {G : GL} {h h' : AH} {A : Nat → Prop} {j : Nat} {q : Nat × Nat} (hi : idx h' = idx h) (hj : (idx h)[j]? = some q) (hD : va_D A (wl G h)) (hf : ∀ q', q' ≠ q → fW G h' q' = fW G h q') : (wl G h).set j (fW G h' q) = wl G h' := by
  apply List.ext_getElem?
  intro k
  have hl : j < (wl G h).length := by
    have := (List.getElem?_eq_some_iff.mp hj).1
    unfold wl
    rw [List.length_map]
    exact this
  by_cases hk : k = j
  · subst hk
    rw [List.getElem?_set_self hl]
    unfold wl
    rw [List.getElem?_map, hi, hj]
    rfl
  · rw [List.getElem?_set_ne (Ne.symm hk)]
    unfold wl
    rw [List.getElem?_map, List.getElem?_map, hi]
    cases hq : (idx h)[k]? with
    | none => rfl
    | some q' =>
      rw [Option.map_some, Option.map_some]
      by_cases e : q' = q
      · subst e
        exact absurd (hD.1 k j (fW G h q') (fW G h q') (by unfold wl; rw [List.getElem?_map, hq]; rfl) (by unfold wl; rw [List.getElem?_map, hj]; rfl) rfl) hk
      · rw [hf q' e]
theorem adr_fx {G : GL} {t p : Nat} (h : t ≠ 18) : adr G t p = G.2.2.1 t p := by
  unfold adr
  rw [if_neg h]
theorem ty_get {G : GL} {t p : Nat} {ty : FieldType} (hq : (t, p) ∈ fixed) (ht : aty t = some ty) : ∃ j : Nat, (tysG G)[j]? = some (gac G t p, ty) := by
  refine List.getElem?_of_mem ?_
  unfold tysG
  exact List.mem_filterMap.mpr ⟨(t, p), hq, by rw [ht]; rfl⟩
/-- an object's class, by its tag -/
theorem ob_cls (h : AH) {t : Nat} (p : Nat) (ht : isob t = true) : ∃ C : String, classes[ocl h t p]? = some (C, TC t, (fl t).length) ∧ ∀ w ∈ u_ws C (TC t) (fl t).length, w ∈ lw_g := by
  have ht : t = 0 ∨ t = 1 ∨ t = 12 ∨ t = 15 ∨ t = 18 := by
    unfold isob at ht
    simp only [Bool.or_eq_true] at ht
    rcases ht with (((h | h) | h) | h) | h
    · exact Or.inl (Nat.eq_of_beq_eq_true h)
    · exact Or.inr (Or.inl (Nat.eq_of_beq_eq_true h))
    · exact Or.inr (Or.inr (Or.inl (Nat.eq_of_beq_eq_true h)))
    · exact Or.inr (Or.inr (Or.inr (Or.inl (Nat.eq_of_beq_eq_true h))))
    · exact Or.inr (Or.inr (Or.inr (Or.inr (Nat.eq_of_beq_eq_true h))))
  rcases ht with rfl | rfl | rfl | rfl | rfl
  · exact ⟨RX10, rfl, inX10⟩
  · exact ⟨RX9, rfl, inX9⟩
  · exact ⟨RX5, rfl, inX5⟩
  · exact ⟨RX11, rfl, inX11⟩
  · show ∃ C : String, classes[kcls (h.1 18 p 0)]? = some (C, TX4, 7) ∧ ∀ w ∈ u_ws C TX4 7, w ∈ lw_g
    unfold kcls
    split
    · exact ⟨RX7, rfl, inX7⟩
    split
    · exact ⟨RX2, rfl, inX2⟩
    split
    · exact ⟨RX8, rfl, inX8⟩
    split
    · exact ⟨RX3, rfl, inX3⟩
    split
    · exact ⟨RX1, rfl, inX1⟩
    split
    · exact ⟨RX6, rfl, inX6⟩
    split
    · exact ⟨RX0, rfl, inX0⟩
    · exact ⟨RX4, rfl, inX4⟩
theorem isob_kin {t : Nat} (ht : isob t = true) : t = 0 ∨ t = 1 ∨ t = 12 ∨ t = 15 ∨ t = 18 := by
  unfold isob at ht
  simp only [Bool.or_eq_true] at ht
  rcases ht with (((h | h) | h) | h) | h
  · exact Or.inl (Nat.eq_of_beq_eq_true h)
  · exact Or.inr (Or.inl (Nat.eq_of_beq_eq_true h))
  · exact Or.inr (Or.inr (Or.inl (Nat.eq_of_beq_eq_true h)))
  · exact Or.inr (Or.inr (Or.inr (Or.inl (Nat.eq_of_beq_eq_true h))))
  · exact Or.inr (Or.inr (Or.inr (Or.inr (Nat.eq_of_beq_eq_true h))))
theorem cell_ob (G : GL) (h : AH) {t : Nat} (p : Nat) (ht : isob t = true) : cellE G h t p = .inr (ocl h t p, flds G h t p) := by
  rcases isob_kin ht with rfl | rfl | rfl | rfl | rfl <;> rfl
theorem flds_get {G : GL} {h : AH} {t p k : Nat} {f : Nat × Nat × Nat} (hf : (fl t)[k]? = some f) : (flds G h t p)[k]? = some (fval G h t p k f) := by
  unfold flds
  rw [List.getElem?_map, List.getElem?_zipIdx, hf]
  simp
theorem fl_lt {t k : Nat} {f : Nat × Nat × Nat} (hf : (fl t)[k]? = some f) : k < (fl t).length := (List.getElem?_eq_some_iff.mp hf).1
theorem cell_a0 {G : GL} {h : AH} {t p : Nat} (ht : akin t = 0) : cellE G h t p = .inl (gac G t p, (alen t, .inl (h.1 t p))) := by
  unfold cellE
  simp only [ht]
theorem cell_a1 {G : GL} {h : AH} {t p : Nat} (ht : akin t = 1) : cellE G h t p = .inl (gac G t p, (alen t, .inl (h.1 t p))) := by
  unfold cellE
  simp only [ht]
theorem cell_a2 {G : GL} {h : AH} {t p : Nat} (ht : akin t = 2) : cellE G h t p = .inl (gac G t p, (alen t, .inr (.inr (.inr (.inr (h.2.1 t p)))))) := by
  unfold cellE
  simp only [ht]
theorem cell_a3 {G : GL} {h : AH} {t p : Nat} (ht : akin t = 3) : cellE G h t p = .inl (gac G t p, (alen t, .inr (.inr (.inr (.inr (fun i => some (adr G 12 i))))))) := by
  unfold cellE
  simp only [ht]
theorem inR_vp {i : Int32} {n : Nat} (h : inR i n) : vp_in i n := vp_in_iff.mpr h
/-- a cell that a write doesn't touch -/
theorem cell_eq {G : GL} {h h' : AH} {t p : Nat} (h1 : h'.1 t p = h.1 t p) (h2 : h'.2.1 t p = h.2.1 t p) (h3 : h'.1 18 p 0 = h.1 18 p 0) : cellE G h' t p = cellE G h t p := by
  unfold cellE
  rw [h1, h2]
  have ho : ocl h' t p = ocl h t p := by
    unfold ocl
    rw [h3]
  have hf : flds G h' t p = flds G h t p := by
    unfold flds
    apply List.map_congr_left
    intro q _
    unfold fval
    rw [h1, h2]
  rw [ho, hf]
theorem uI_ne {f : Nat → Nat → Nat → Int32} {t p i : Nat} {x : Int32} {a b : Nat} (hq : (a, b) ≠ (t, p)) : uI f t p i x a b = f a b := by
  funext j
  unfold uI
  rw [if_neg (fun e => hq (by rw [e.1, e.2.1]))]
theorem uR_ne {f : Nat → Nat → Nat → Option Nat} {t p i : Nat} {x : Option Nat} {a b : Nat} (hq : (a, b) ≠ (t, p)) : uR f t p i x a b = f a b := by
  funext j
  unfold uR
  rw [if_neg (fun e => hq (by rw [e.1, e.2.1]))]
theorem uC_ne {f : Nat → Nat → Nat → Int32} {t p sp t2 p2 dp n : Nat} {a b : Nat} (hq : (a, b) ≠ (t2, p2)) : uC f t p sp t2 p2 dp n a b = f a b := by
  funext j
  unfold uC
  rw [if_neg (fun e => hq (by rw [e.1, e.2.1]))]
theorem pne {t p a b : Nat} (h : t ≠ a) : (a, b) ≠ (t, p) := fun e => h (Prod.mk.inj e).1.symm
theorem cell_wI {G : GL} {h : AH} {t p i : Nat} {x : Int32} {t' p' : Nat} (ht : t ≠ 18) (hq : (t', p') ≠ (t, p)) : cellE G (wI h t p i x) t' p' = cellE G h t' p' := cell_eq (uI_ne hq) rfl (congrFun (uI_ne (pne ht)) 0)
theorem cell_wR {G : GL} {h : AH} {t p i : Nat} {x : Option Nat} {t' p' : Nat} (hq : (t', p') ≠ (t, p)) : cellE G (wR h t p i x) t' p' = cellE G h t' p' := cell_eq rfl (uR_ne hq) rfl
theorem cell_uC {G : GL} {h : AH} {t p sp t2 p2 dp n : Nat} {t' p' : Nat} (ht : t2 ≠ 18) (hq : (t', p') ≠ (t2, p2)) : cellE G (uC h.1 t p sp t2 p2 dp n, h.2) t' p' = cellE G h t' p' := cell_eq (uC_ne hq) rfl (congrFun (uC_ne (pne ht)) 0)
theorem upd_uI (f : Nat → Nat → Nat → Int32) (t p i : Nat) (x : Int32) : uI f t p i x t p = upd (f t p) i x := by
  funext j
  unfold uI upd
  by_cases h : j = i <;> simp [h]
theorem upd_uR (f : Nat → Nat → Nat → Option Nat) (t p i : Nat) (x : Option Nat) : uR f t p i x t p = va_up (f t p) i x := by
  funext j
  unfold uR va_up
  by_cases h : j = i <;> simp [h]
theorem okh_wR {h : AH} {t p i : Nat} {o : Option Nat} (k : okh h) (ho : okv h (aS o)) : okh (wR h t p i o) := by
  intro a b j c e
  have e : uR h.2.1 t p i o a b j = some c := e
  unfold uR at e
  split at e
  · subst e; exact ho
  · exact k a b j c e
/-- a field's new value in the list of fields -/
theorem flds_wI {G : GL} {h : AH} {t p k : Nat} {f : Nat × Nat × Nat} {x : Int32} (hf : (fl t)[k]? = some f) (h1 : f.1 ≠ 1) (h2 : f.1 ≠ 2) : flds G (wI h t p k x) t p = (flds G h t p).set k (.int x) := by
  apply List.ext_getElem?
  intro j
  have hlen : (flds G h t p).length = (fl t).length := by unfold flds; simp
  by_cases hj : j = k
  · subst hj
    rw [List.getElem?_set_self (by rw [hlen]; exact fl_lt hf), flds_get hf]
    unfold fval
    split
    · exact absurd (by assumption) h1
    · exact absurd (by assumption) h2
    · show some (Value.int (uI h.1 t p j x t p j)) = _
      unfold uI
      simp
  · rw [List.getElem?_set_ne (Ne.symm hj)]
    cases hg : (fl t)[j]? with
    | none =>
      rw [List.getElem?_eq_none_iff.mpr, List.getElem?_eq_none_iff.mpr]
      · rw [hlen]; exact List.getElem?_eq_none_iff.mp hg
      · have : (flds G (wI h t p k x) t p).length = (fl t).length := by unfold flds; simp
        rw [this]; exact List.getElem?_eq_none_iff.mp hg
    | some g =>
      rw [flds_get hg, flds_get hg]
      unfold fval
      split
      · rfl
      · rfl
      · show some (Value.int (uI h.1 t p k x t p j)) = _
        unfold uI
        rw [if_neg (fun e => hj e.2.2)]
theorem flds_wR {G : GL} {h : AH} {t p k : Nat} {f : Nat × Nat × Nat} {x : Option Nat} (hf : (fl t)[k]? = some f) (h2 : f.1 = 2) : flds G (wR h t p k x) t p = (flds G h t p).set k (va_rf x) := by
  apply List.ext_getElem?
  intro j
  have hlen : (flds G h t p).length = (fl t).length := by unfold flds; simp
  by_cases hj : j = k
  · subst hj
    rw [List.getElem?_set_self (by rw [hlen]; exact fl_lt hf), flds_get hf]
    unfold fval
    rw [h2]
    show some (va_rf (uR h.2.1 t p j x t p j)) = _
    unfold uR
    simp
  · rw [List.getElem?_set_ne (Ne.symm hj)]
    cases hg : (fl t)[j]? with
    | none =>
      rw [List.getElem?_eq_none_iff.mpr, List.getElem?_eq_none_iff.mpr]
      · rw [hlen]; exact List.getElem?_eq_none_iff.mp hg
      · have : (flds G (wR h t p k x) t p).length = (fl t).length := by unfold flds; simp
        rw [this]; exact List.getElem?_eq_none_iff.mp hg
    | some g =>
      rw [flds_get hg, flds_get hg]
      unfold fval
      split
      · rfl
      · show some (va_rf (uR h.2.1 t p k x t p j)) = _
        unfold uR
        rw [if_neg (fun e => hj e.2.2)]
      · rfl
theorem ocl_wI {h : AH} {t p k : Nat} {x : Int32} (ht : t ≠ 18) : ocl (wI h t p k x) t p = ocl h t p := by
  unfold ocl
  rw [show (wI h t p k x).1 18 p 0 = h.1 18 p 0 from congrFun (uI_ne (pne ht)) 0]
end
section
/-! ===== soundness of a step, by its instruction ===== -/
theorem cok_mem {cc : ByteArray} {nL : Nat} {l : List (Nat × Instr × List Nat)} (h : cok cc nL l = true) {q : Nat × Instr × List Nat} (hq : q ∈ l) : cok1 cc nL q = true := by
  induction l with
  | nil => cases hq
  | cons a r ih =>
    unfold cok at h
    simp only [Bool.and_eq_true] at h
    rcases List.mem_cons.mp hq with e | e
    · subst e; exact h.1.1
    · exact ih h.2 e
theorem cok_dec {cc : ByteArray} {nL : Nat} {q : Nat × Instr × List Nat} (h : cok1 cc nL q = true) : (∃ n, decode cc q.1 = .ok (q.2.1, n) ∧ (ilen q.2.1 = 0 ∨ ilen q.2.1 = n)) ∧ tok q.1 nL q.2.1 q.2.2 = true := by
  unfold cok1 at h
  simp only [Bool.and_eq_true] at h
  refine ⟨?_, h.2⟩
  have h1 := h.1
  split at h1
  · rename_i i n hd
    simp only [Bool.and_eq_true, decide_eq_true_eq, Bool.or_eq_true] at h1
    obtain ⟨e, h2⟩ := h1
    subst e
    refine ⟨n, hd, ?_⟩
    rcases h2 with h2 | h2
    · exact Or.inl (Nat.eq_of_beq_eq_true h2)
    · exact Or.inr (Nat.eq_of_beq_eq_true h2)
  · cases h1
theorem cok_next {cc : ByteArray} {nL : Nat} {l pre : List (Nat × Instr × List Nat)} (h : cok cc nL l = true) {q q' : Nat × Instr × List Nat} {r : List (Nat × Instr × List Nat)} (e : l = pre ++ q :: q' :: r) (hf : nofall q.2.1 = false) : q'.1 = q.1 + ilen q.2.1 := by
  induction pre generalizing l with
  | nil =>
    subst e
    rw [List.nil_append] at h
    unfold cok at h
    simp only [Bool.and_eq_true, Bool.or_eq_true] at h
    rcases h.1.2 with h2 | h2
    · rw [hf] at h2; cases h2
    · exact Nat.eq_of_beq_eq_true h2
  | cons a pre ih =>
    subst e
    rw [List.cons_append] at h
    unfold cok at h
    simp only [Bool.and_eq_true] at h
    exact ih h.2 rfl
theorem swc_get {x : Int32} {jp : Nat → Prop} : ∀ {ts : List Nat} {i k t : Nat}, swc x jp i ts → ts[k]? = some t → x = nI (i + k) → jp t
  | [], _, _, _, _, h, _ => by simp at h
  | a :: ts, i, 0, t, hs, h, hx => by
    simp at h
    subst h
    exact hs.1 hx
  | a :: ts, i, k + 1, t, hs, h, hx => swc_get (i := i + 1) hs.2 h (by rw [hx]; congr 1; omega)
theorem tblI : ∀ t ∈ [0, 1, 12, 15], ∀ k < 23, (fl t)[k]?.map (fun f => f.1) = some 0 → ((TC t k).2.2.2 = false ∧ parseFieldDescriptor (TC t k).2.2.1 = some .int) := by decide +kernel
theorem tblZ : ∀ t ∈ [0, 1, 12, 15], ∀ k < 23, (fl t)[k]?.map (fun f => f.1) = some 3 → ((TC t k).2.2.2 = false ∧ parseFieldDescriptor (TC t k).2.2.1 = some .boolean) := by decide +kernel
theorem tblR : ∀ t ∈ [0, 1, 12, 15], ∀ k < 23, (fl t)[k]?.map (fun f => f.1) = some 2 → ((TC t k).2.2.2 = false ∧ parseFieldDescriptor (TC t k).2.2.1 = some (.object RX4)) := by decide +kernel
theorem tblL : ∀ t ∈ [0, 1, 12, 15], ∀ k < 23, ∀ p < acnt t, ((fl t)[k]?.map (fun f => f.1) = some 1 → (((fl t)[k]?.map (fun f => f.2.1)).getD 0 < 23 ∧ p + ((fl t)[k]?.map (fun f => f.2.2)).getD 0 < acnt (((fl t)[k]?.map (fun f => f.2.1)).getD 0))) := by decide +kernel
theorem fl23 {t k : Nat} {f : Nat × Nat × Nat} (h : (fl t)[k]? = some f) : k < 23 := by
  have h1 := fl_lt h
  unfold fl at h1
  split at h1 <;> simp at h1 <;> omega
theorem isob4 {t : Nat} (h : isob t = true) (h18 : t ≠ 18) : t ∈ [0, 1, 12, 15] := by
  rcases isob_kin h with rfl | rfl | rfl | rfl | rfl
  · decide
  · decide
  · decide
  · decide
  · exact absurd rfl h18
theorem fl18 {k : Nat} {f : Nat × Nat × Nat} (h : (fl 18)[k]? = some f) : f.1 = 0 := by
  have h1 : f ∈ fl 18 := List.mem_of_getElem? h
  simp [fl] at h1
  rw [h1]
theorem fl_link {t p k : Nat} {f : Nat × Nat × Nat} (hb : isob t = true) (hf : (fl t)[k]? = some f) (h1 : f.1 = 1) (hp : (t, p) ∈ fixed ∨ t = 18) : (f.2.1, p + f.2.2) ∈ fixed := by
  by_cases h18 : t = 18
  · subst h18
    rw [fl18 hf] at h1
    cases h1
  · have hp : (t, p) ∈ fixed := hp.resolve_right h18
    have := tblL t (isob4 hb h18) k (fl23 hf) p (fixed_mem.mp hp).2 (by rw [hf]; simp [h1])
    rw [hf] at this
    exact fixed_mem.mpr this
theorem ob_put {t : Nat} (h : t ∈ [0, 1, 12, 15]) : ∃ ty0 : Nat → FieldType, (∀ k, k < (fl t).length → parseFieldDescriptor (TC t k).2.2.1 = some (ty0 k)) ∧ ∀ a, a < (fl t).length → ∀ b, b < (fl t).length → a ≠ b → (TC t a).2.1 ≠ (TC t b).2.1 := by
  simp only [List.mem_cons, List.not_mem_nil, or_false] at h
  rcases h with rfl | rfl | rfl | rfl
  · exact ⟨tyX10, tyX10_ok, nmX10⟩
  · exact ⟨tyX9, tyX9_ok, nmX9⟩
  · exact ⟨tyX5, tyX5_ok, nmX5⟩
  · exact ⟨tyX11, tyX11_ok, nmX11⟩
theorem kin3 : ∀ t < 23, akin t = 3 → alen t = 8 := by decide +kernel
theorem kin18 : ∀ t < 23, akin t ≤ 3 → t ≠ 18 := by decide +kernel
theorem sh_cast (k : Int32) : ∃ C : String, classes[kcls k]? = some (C, TX4, 7) ∧ (C = RX4 ∨ Cond.castable C RX4 ∈ nestW) := by
  unfold kcls
  split
  · exact ⟨RX7, rfl, Or.inr (by decide +kernel)⟩
  split
  · exact ⟨RX2, rfl, Or.inr (by decide +kernel)⟩
  split
  · exact ⟨RX8, rfl, Or.inr (by decide +kernel)⟩
  split
  · exact ⟨RX3, rfl, Or.inr (by decide +kernel)⟩
  split
  · exact ⟨RX1, rfl, Or.inr (by decide +kernel)⟩
  split
  · exact ⟨RX6, rfl, Or.inr (by decide +kernel)⟩
  split
  · exact ⟨RX0, rfl, Or.inr (by decide +kernel)⟩
  · exact ⟨RX4, rfl, Or.inl rfl⟩
theorem nar01 {x : Int32} (h : x = 0 ∨ x = 1) : narrow .boolean (.int x) = .int x ∧ fits .boolean (.int x) = true ∧ vp_nar .boolean x = x := by
  rcases h with rfl | rfl <;> exact ⟨by decide, by decide, by decide⟩
theorem Wd_wI {G : GL} {h : AH} {s : State} {H1 : Heap} {locs1 : List Loc} {t p i j : Nat} {x : Int32} {e : va_E} (hok : okh h) (ht : t ≠ 18) (hj : (idx h)[j]? = some (t, p)) (hD : va_D (gA0 G) (wl G h)) (he : e = cellE G (wI h t p i x) t p)
    (hP1 : va_P (G.1, G.2.1) classes ((wl G h).set j (adr G t p, e)) H1) (hD1 : va_D (gA0 G) ((wl G h).set j (adr G t p, e))) (hS1 : va_S (gA0 G) s.heap H1 locs1) : Wd G (wI h t p i x) s H1 locs1 := by
  have e1 : (wl G h).set j (adr G t p, e) = wl G (wI h t p i x) := by
    rw [he]
    exact wl_set (q := (t, p)) rfl hj hD (fun q' hq' => by unfold fW; rw [cell_wI ht hq'])
  rw [e1] at hP1 hD1
  exact ⟨hok, hP1, hD1, hS1⟩
theorem Wd_wR {G : GL} {h : AH} {s : State} {H1 : Heap} {locs1 : List Loc} {t p i j : Nat} {x : Option Nat} {e : va_E} (hok : okh h) (hx : okv h (aS x)) (hj : (idx h)[j]? = some (t, p)) (hD : va_D (gA0 G) (wl G h)) (he : e = cellE G (wR h t p i x) t p)
    (hP1 : va_P (G.1, G.2.1) classes ((wl G h).set j (adr G t p, e)) H1) (hD1 : va_D (gA0 G) ((wl G h).set j (adr G t p, e))) (hS1 : va_S (gA0 G) s.heap H1 locs1) : Wd G (wR h t p i x) s H1 locs1 := by
  have e1 : (wl G h).set j (adr G t p, e) = wl G (wR h t p i x) := by
    rw [he]
    exact wl_set (q := (t, p)) rfl hj hD (fun q' hq' => by unfold fW; rw [cell_wR hq'])
  rw [e1] at hP1 hD1
  exact ⟨okh_wR hok hx, hP1, hD1, hS1⟩
theorem lks_get {x : Int32} {jp : Nat → Prop} {pc d : Nat} {dflt : Int} (t1 : (pc : Int) + dflt = (d : Int)) : ∀ (ps : List (Int × Int)) (ts : List Nat), ps.map (fun o => (pc : Int) + o.2) = ts.map (fun t : Nat => (t : Int)) → (∀ q ∈ ps, -1000 < q.1 ∧ q.1 < 1000) → lks x jp d ps ts → ∃ (off : Int) (tgt : Nat), Op.lookupswitch.offset ps dflt x.toInt = off ∧ (pc : Int) + off = (tgt : Int) ∧ jp tgt
  | [], [], _, _, hs => ⟨dflt, d, rfl, t1, hs⟩
  | q :: ps, t :: ts, h3, h4, hs => by
    simp only [List.map_cons, List.cons.injEq] at h3
    have hq := h4 q List.mem_cons_self
    have hk : (iI q.1).toInt = q.1 := Int32.toInt_ofInt_of_le (by omega) (by omega)
    by_cases e : x = iI q.1
    · refine ⟨q.2, t, ?_, h3.1, hs.1 e⟩
      obtain ⟨a, o⟩ := q
      rw [Op.lookupswitch.offset_cons, if_pos]
      rw [e]
      exact hk.symm
    · obtain ⟨off, tgt, e1, e2, e3⟩ := lks_get t1 ps ts h3.2 (fun z hz => h4 z (List.mem_cons_of_mem _ hz)) (hs.2 e)
      obtain ⟨a, o⟩ := q
      exact ⟨off, tgt, (lv_osw e hk).trans e1, e2, e3⟩
/-- a call, by its rule -/
theorem cll_sound {M : MI} {Q : RQ} {ins : Instr} {ce : CE} {pc : Nat} {L : LSt} {st : List AV} {h : AH} {kc ks : Nat} {nx : List AV → AH → Nat → Nat → Prop} (hcr : CR (mOwn M) ins ce) (r1 : ce.2.1 ≤ mFr M) (r2 : ce.2.2.1 ≤ mLo M) (hd : decode (mCC M) pc = .ok (ins, 3)) (hs : cll ce st h kc ks (mMc M) (mMs M) nx)
    (hn : ∀ st h kc ks, nx st h kc ks → AW M Q (pc + 3) L st h kc ks) : AW M Q pc L st h kc ks := by
  intro G p l e R s m args below meth c H locs ls Qf S0 hC hK hE hW hS0 hkc hks hL hst hl hlen
  obtain ⟨hx, hb, hml, hown, hts, hfr, hlo, hmc, hms⟩ := id hC
  obtain ⟨hok, hs⟩ := tif_inv hs
  simp only [Bool.and_eq_true] at hok
  have hlen2 := Nat.le_of_ble_eq_true hok.1
  have hcat := Nat.le_of_ble_eq_true hok.2
  have hsplit : st.map (cv G) = (((st.take ce.1).reverse).map (cv G)).reverse ++ (st.drop ce.1).map (cv G) := by
    rw [← List.map_reverse, List.reverse_reverse, ← List.map_append, List.take_append_drop]
  have has : okSt h (st.take ce.1).reverse := fun v hv => hst v (List.mem_of_mem_take (List.mem_reverse.mp hv))
  have hrs : okSt h (st.drop ce.1) := fun v hv => hst v (List.mem_of_mem_drop hv)
  have hal : (st.take ce.1).reverse.length = ce.1 := by rw [List.length_reverse, List.length_take]; omega
  have hbud : kc + ce.2.2.2.1 ≤ mMc M ∧ ks + ce.2.2.2.2.1 ≤ mMs M ∧ (match ce.2.2.2.2.2 with
    | .inl T => T (st.take ce.1).reverse h (fun x h => nx (aI x :: st.drop ce.1) h (kc + ce.2.2.2.1) (ks + ce.2.2.2.2.1))
    | .inr (.inl T) => T (st.take ce.1).reverse h (fun h => nx (st.drop ce.1) h (kc + ce.2.2.2.1) (ks + ce.2.2.2.2.1))
    | .inr (.inr (.inl T)) => T (st.take ce.1).reverse h (fun x h => nx (aL x :: st.drop ce.1) h (kc + ce.2.2.2.1) (ks + ce.2.2.2.2.1))
    | .inr (.inr (.inr T)) => T (st.take ce.1).reverse h (fun x h => nx (aS x :: st.drop ce.1) h (kc + ce.2.2.2.1) (ks + ce.2.2.2.2.1))) := by
    unfold bud at hs
    split at hs
    · rename_i e1 e2
      rw [e1, e2]
      exact ⟨hkc, hks, hs⟩
    · exact ⟨hs.1.1, hs.1.2, hs.2⟩
  obtain ⟨b1, b2, hs⟩ := hbud
  have hrule := hcr G p l e R s m args below meth c (mCC M) H locs kc ks Qf pc ls (st.take ce.1).reverse (st.drop ce.1) h hx hb (by rw [hml]; exact hl.1.symm) hown hts (Nat.le_trans r1 hfr) (Nat.le_trans r2 hlo) (Nat.le_trans b1 hmc) (Nat.le_trans b2 hms) hK hW has hal hcat hd
  rw [hsplit]
  split at hs
  · rename_i T hT
    rw [hT] at hrule
    exact hrule _ hs (fun x h' H' locs' hk hw' hsub => hn _ _ _ _ hk G p l e R s m args below meth c H' locs' ls Qf S0 hC hK hE hw' (fun a ha => hsub a (hS0 a ha)) b1 b2 (fun i v hv => okv_mono hsub (hL i v hv)) (okSt_i (fun v hv => okv_mono hsub (hrs v hv))) hl hlen)
  · rename_i T hT
    rw [hT] at hrule
    exact hrule _ hs (fun h' H' locs' hk hw' hsub => hn _ _ _ _ hk G p l e R s m args below meth c H' locs' ls Qf S0 hC hK hE hw' (fun a ha => hsub a (hS0 a ha)) b1 b2 (fun i v hv => okv_mono hsub (hL i v hv)) (fun v hv => okv_mono hsub (hrs v hv)) hl hlen)
  · rename_i T hT
    rw [hT] at hrule
    exact hrule _ hs (fun x h' H' locs' hk hw' hsub => hn _ _ _ _ hk G p l e R s m args below meth c H' locs' ls Qf S0 hC hK hE hw' (fun a ha => hsub a (hS0 a ha)) b1 b2 (fun i v hv => okv_mono hsub (hL i v hv)) (okSt_l (fun v hv => okv_mono hsub (hrs v hv))) hl hlen)
  · rename_i T hT
    rw [hT] at hrule
    exact hrule _ hs (fun x h' H' locs' hk hx' hw' hsub => hn _ _ _ _ hk G p l e R s m args below meth c H' locs' ls Qf S0 hC hK hE hw' (fun a ha => hsub a (hS0 a ha)) b1 b2 (fun i v hv => okv_mono hsub (hL i v hv)) (okSt_c hx' (fun v hv => okv_mono hsub (hrs v hv))) hl hlen)
set_option maxHeartbeats 4000000 in
theorem stp_sound {M : MI} {Q : RQ} (hM : MOK M) {nx : LSt → List AV → AH → Nat → Nat → Prop} {jp : Nat → LSt → List AV → AH → Nat → Nat → Prop} {pc : Nat} {ins : Instr} {tg : List Nat} {L : LSt} {st : List AV} {h : AH} {kc ks : Nat} (hq : (pc, ins, tg) ∈ mCode M)
    (hn : ∀ L st h kc ks, nofall ins = false → nx L st h kc ks → AW M Q (pc + ilen ins) L st h kc ks) (hj : ∀ t L st h kc ks, jp t L st h kc ks → AW M Q t L st h kc ks) (hs : stp M Q nx jp ins tg L st h kc ks) : AW M Q pc L st h kc ks := by
  intro G p l e R s m args below meth c H locs ls Qf S0 hC hK hE hW hS0 hkc hks hL hst hl hlen
  obtain ⟨hx, hb, hml, hown, hts, hfr, hlo, hmc, hms⟩ := id hC
  obtain ⟨hokh, hP, hD, hS⟩ := id hW
  obtain ⟨⟨n0, hd0, hd1⟩, htk⟩ := cok_dec (cok_mem hM.1 hq)
  have hd : ilen ins ≠ 0 → decode (mCC M) pc = .ok (ins, ilen ins) := fun hne => by
    rcases hd1 with h1 | h1
    · exact absurd h1 hne
    · rw [h1]; exact hd0
  clear hd1
  cases ins with
  | iconst n =>
    exact lv_iconst hx hb (hd (Nat.succ_ne_zero _)) (cst_eq n) (hn _ _ _ _ _ rfl hs G p l e R s m args below meth c H locs ls Qf S0 hC hK hE hW hS0 hkc hks hL (okSt_i hst) hl hlen)
  | bipush n =>
    exact lv_bipush hx hb (hd (Nat.succ_ne_zero _)) ((of_decide_eq_true htk).trans (cst_eq n)) (hn _ _ _ _ _ rfl hs G p l e R s m args below meth c H locs ls Qf S0 hC hK hE hW hS0 hkc hks hL (okSt_i hst) hl hlen)
  | sipush n =>
    exact lv_sipush hx hb (hd (Nat.succ_ne_zero _)) ((of_decide_eq_true htk).trans (cst_eq n)) (hn _ _ _ _ _ rfl hs G p l e R s m args below meth c H locs ls Qf S0 hC hK hE hW hS0 hkc hks hL (okSt_i hst) hl hlen)
  | lconst n =>
    exact lv_lconst hx hb (hd (Nat.succ_ne_zero _)) rfl (hn _ _ _ _ _ rfl hs G p l e R s m args below meth c H locs ls Qf S0 hC hK hE hW hS0 hkc hks hL (okSt_l hst) hl hlen)
  | aconst_null =>
    exact lv_null hx hb (hd (Nat.succ_ne_zero _)) (hn _ _ _ _ _ rfl hs G p l e R s m args below meth c H locs ls Qf S0 hC hK hE hW hS0 hkc hks hL (okSt_c trivial hst) hl hlen)
  | ldc i =>
    cases hv : lkp (mC M) i with
    | none => simp only [stp, hv] at hs
    | some v =>
      simp only [stp, hv] at hs
      exact lv_ldc hx hb hown (hts _ (hM.2.2.1 (i, v) (lkp_mem hv))) (hd (Nat.succ_ne_zero _)) (hn _ _ _ _ _ rfl hs G p l e R s m args below meth c H locs ls Qf S0 hC hK hE hW hS0 hkc hks hL (okSt_i hst) hl hlen)
  | ldc_w i =>
    cases hv : lkp (mC M) i with
    | none => simp only [stp, hv] at hs
    | some v =>
      simp only [stp, hv] at hs
      exact lv_ldcw hx hb hown (hts _ (hM.2.2.1 (i, v) (lkp_mem hv))) (hd (Nat.succ_ne_zero _)) (hn _ _ _ _ _ rfl hs G p l e R s m args below meth c H locs ls Qf S0 hC hK hE hW hS0 hkc hks hL (okSt_i hst) hl hlen)
  | ldc2_w i =>
    cases hv : lkp (mCl M) i with
    | none => simp only [stp, hv] at hs
    | some v =>
      simp only [stp, hv] at hs
      exact lv_ldc2 hx hb hown (hts _ (hM.2.2.2.1 (i, v) (lkp_mem hv))) (hd (Nat.succ_ne_zero _)) (hn _ _ _ _ _ rfl hs G p l e R s m args below meth c H locs ls Qf S0 hC hK hE hW hS0 hkc hks hL (okSt_l hst) hl hlen)
  | iload_n i =>
    obtain ⟨x, h1, hs⟩ := gI_inv hs
    exact lv_iload_n hx hb (hd (Nat.succ_ne_zero _)) rfl (cvL_at hl h1) (hn _ _ _ _ _ rfl hs G p l e R s m args below meth c H locs ls Qf S0 hC hK hE hW hS0 hkc hks hL (okSt_i hst) hl hlen)
  | iload i =>
    obtain ⟨x, h1, hs⟩ := gI_inv hs
    exact lv_iload hx hb (hd (Nat.succ_ne_zero _)) (cvL_at hl h1) (hn _ _ _ _ _ rfl hs G p l e R s m args below meth c H locs ls Qf S0 hC hK hE hW hS0 hkc hks hL (okSt_i hst) hl hlen)
  | lload_n i =>
    obtain ⟨x, h1, hs⟩ := gL_inv hs
    exact lv_lload_n hx hb (hd (Nat.succ_ne_zero _)) rfl (cvL_at hl h1) (hn _ _ _ _ _ rfl hs G p l e R s m args below meth c H locs ls Qf S0 hC hK hE hW hS0 hkc hks hL (okSt_l hst) hl hlen)
  | lload i =>
    obtain ⟨x, h1, hs⟩ := gL_inv hs
    exact lv_lload hx hb (hd (Nat.succ_ne_zero _)) (cvL_at hl h1) (hn _ _ _ _ _ rfl hs G p l e R s m args below meth c H locs ls Qf S0 hC hK hE hW hS0 hkc hks hL (okSt_l hst) hl hlen)
  | aload_n i =>
    have hs : gA L i (fun x => nx L (x :: st) h kc ks) := hs
    obtain ⟨x, h1, hs⟩ := gA_inv hs
    match x, h1, hs with
    | .inl q, h1, hs => exact lv_aload_n hx hb (hd (Nat.succ_ne_zero _)) rfl (cvL_at hl h1) (hn _ _ _ _ _ rfl hs G p l e R s m args below meth c H locs ls Qf S0 hC hK hE hW hS0 hkc hks hL (okSt_c (hL _ _ h1) hst) hl hlen)
    | .inr (some a), h1, hs => exact lv_aload_n hx hb (hd (Nat.succ_ne_zero _)) rfl (cvL_at hl h1) (hn _ _ _ _ _ rfl hs G p l e R s m args below meth c H locs ls Qf S0 hC hK hE hW hS0 hkc hks hL (okSt_c (hL _ _ h1) hst) hl hlen)
    | .inr none, h1, hs => exact lv_aload_nN hx hb (hd (Nat.succ_ne_zero _)) rfl (cvL_at hl h1) (hn _ _ _ _ _ rfl hs G p l e R s m args below meth c H locs ls Qf S0 hC hK hE hW hS0 hkc hks hL (okSt_c (hL _ _ h1) hst) hl hlen)
  | aload i =>
    have hs : gA L i (fun x => nx L (x :: st) h kc ks) := hs
    obtain ⟨x, h1, hs⟩ := gA_inv hs
    match x, h1, hs with
    | .inl q, h1, hs => exact lv_aload hx hb (hd (Nat.succ_ne_zero _)) (cvL_at hl h1) (hn _ _ _ _ _ rfl hs G p l e R s m args below meth c H locs ls Qf S0 hC hK hE hW hS0 hkc hks hL (okSt_c (hL _ _ h1) hst) hl hlen)
    | .inr (some a), h1, hs => exact lv_aload hx hb (hd (Nat.succ_ne_zero _)) (cvL_at hl h1) (hn _ _ _ _ _ rfl hs G p l e R s m args below meth c H locs ls Qf S0 hC hK hE hW hS0 hkc hks hL (okSt_c (hL _ _ h1) hst) hl hlen)
    | .inr none, h1, hs => exact lv_aloadN hx hb (hd (Nat.succ_ne_zero _)) (cvL_at hl h1) (hn _ _ _ _ _ rfl hs G p l e R s m args below meth c H locs ls Qf S0 hC hK hE hW hS0 hkc hks hL (okSt_c (hL _ _ h1) hst) hl hlen)
  | istore_n i =>
    obtain ⟨x, r, he_, hs_⟩ := pI_inv hs; clear hs; subst he_; have hs := hs_; clear hs_
    exact lv_istore_n hx hb (hd (Nat.succ_ne_zero _)) rfl hl (Nat.blt_eq ▸ htk : _ < _) rfl (fun ls' hl' => (hn _ _ _ _ _ rfl hs G p l e R s m args below meth c H locs ls' Qf S0 hC hK hE hW hS0 hkc hks (okLs_st hL trivial) (okSt_t hst) (lv_st (v := aI x) hl') (by rw [stL_len]; exact hlen)))
  | istore i =>
    obtain ⟨x, r, he_, hs_⟩ := pI_inv hs; clear hs; subst he_; have hs := hs_; clear hs_
    exact lv_istore hx hb (hd (Nat.succ_ne_zero _)) hl (Nat.blt_eq ▸ htk : _ < _) rfl (fun ls' hl' => (hn _ _ _ _ _ rfl hs G p l e R s m args below meth c H locs ls' Qf S0 hC hK hE hW hS0 hkc hks (okLs_st hL trivial) (okSt_t hst) (lv_st (v := aI x) hl') (by rw [stL_len]; exact hlen)))
  | lstore_n i =>
    obtain ⟨x, r, he_, hs_⟩ := pL_inv hs; clear hs; subst he_; have hs := hs_; clear hs_
    exact lv_lstore_n hx hb (hd (Nat.succ_ne_zero _)) rfl hl (Nat.blt_eq ▸ htk : _ < _) rfl (fun ls' hl' => (hn _ _ _ _ _ rfl hs G p l e R s m args below meth c H locs ls' Qf S0 hC hK hE hW hS0 hkc hks (okLs_st2 hL trivial) (okSt_t hst) (lv_st2 (v := aL x) hlen (Nat.blt_eq ▸ htk : _ < _) hl') (by rw [setL_len, stL_len]; exact hlen)))
  | lstore i =>
    obtain ⟨x, r, he_, hs_⟩ := pL_inv hs; clear hs; subst he_; have hs := hs_; clear hs_
    exact lv_lstore hx hb (hd (Nat.succ_ne_zero _)) hl (Nat.blt_eq ▸ htk : _ < _) rfl (fun ls' hl' => (hn _ _ _ _ _ rfl hs G p l e R s m args below meth c H locs ls' Qf S0 hC hK hE hW hS0 hkc hks (okLs_st2 hL trivial) (okSt_t hst) (lv_st2 (v := aL x) hlen (Nat.blt_eq ▸ htk : _ < _) hl') (by rw [setL_len, stL_len]; exact hlen)))
  | astore_n i =>
    have hs : pA st (fun x st => nx (stL L i (some x)) st h kc ks) := hs
    obtain ⟨x, r, he_, hs_⟩ := pA_inv hs; clear hs; subst he_; have hs := hs_; clear hs_
    match x, hs, hst with
    | .inl q, hs, hst => exact lv_astore_n hx hb (hd (Nat.succ_ne_zero _)) rfl hl (Nat.blt_eq ▸ htk : _ < _) rfl (fun ls' hl' => (hn _ _ _ _ _ rfl hs G p l e R s m args below meth c H locs ls' Qf S0 hC hK hE hW hS0 hkc hks (okLs_st hL (okSt_h hst)) (okSt_t hst) (lv_st (v := aR q.1 q.2) hl') (by rw [stL_len]; exact hlen)))
    | .inr (some a), hs, hst => exact lv_astore_n hx hb (hd (Nat.succ_ne_zero _)) rfl hl (Nat.blt_eq ▸ htk : _ < _) rfl (fun ls' hl' => (hn _ _ _ _ _ rfl hs G p l e R s m args below meth c H locs ls' Qf S0 hC hK hE hW hS0 hkc hks (okLs_st hL (okSt_h hst)) (okSt_t hst) (lv_st (v := aS (some a)) hl') (by rw [stL_len]; exact hlen)))
    | .inr none, hs, hst => exact lv_astore_nN hx hb (hd (Nat.succ_ne_zero _)) rfl hl (Nat.blt_eq ▸ htk : _ < _) rfl (fun ls' hl' => (hn _ _ _ _ _ rfl hs G p l e R s m args below meth c H locs ls' Qf S0 hC hK hE hW hS0 hkc hks (okLs_st hL (okSt_h hst)) (okSt_t hst) (lv_st (v := aS none) hl') (by rw [stL_len]; exact hlen)))
  | astore i =>
    have hs : pA st (fun x st => nx (stL L i (some x)) st h kc ks) := hs
    obtain ⟨x, r, he_, hs_⟩ := pA_inv hs; clear hs; subst he_; have hs := hs_; clear hs_
    match x, hs, hst with
    | .inl q, hs, hst => exact lv_astore hx hb (hd (Nat.succ_ne_zero _)) hl (Nat.blt_eq ▸ htk : _ < _) rfl (fun ls' hl' => (hn _ _ _ _ _ rfl hs G p l e R s m args below meth c H locs ls' Qf S0 hC hK hE hW hS0 hkc hks (okLs_st hL (okSt_h hst)) (okSt_t hst) (lv_st (v := aR q.1 q.2) hl') (by rw [stL_len]; exact hlen)))
    | .inr (some a), hs, hst => exact lv_astore hx hb (hd (Nat.succ_ne_zero _)) hl (Nat.blt_eq ▸ htk : _ < _) rfl (fun ls' hl' => (hn _ _ _ _ _ rfl hs G p l e R s m args below meth c H locs ls' Qf S0 hC hK hE hW hS0 hkc hks (okLs_st hL (okSt_h hst)) (okSt_t hst) (lv_st (v := aS (some a)) hl') (by rw [stL_len]; exact hlen)))
    | .inr none, hs, hst => exact lv_astoreN hx hb (hd (Nat.succ_ne_zero _)) hl (Nat.blt_eq ▸ htk : _ < _) rfl (fun ls' hl' => (hn _ _ _ _ _ rfl hs G p l e R s m args below meth c H locs ls' Qf S0 hC hK hE hW hS0 hkc hks (okLs_st hL (okSt_h hst)) (okSt_t hst) (lv_st (v := aS none) hl') (by rw [stL_len]; exact hlen)))
  | iinc i n =>
    obtain ⟨x, h1, hs⟩ := gI_inv hs
    obtain ⟨k, hk⟩ := List.getElem?_of_mem (cvL_mem (G := G) (q := (i, Value.int x)) |>.mpr ⟨_, h1, rfl⟩)
    exact lv_iinc hx hb (hd (Nat.succ_ne_zero _)) hl hk (congrArg (x + ·) (cst_eq n)) (Nat.blt_eq ▸ htk : _ < _) rfl (fun ls' hl' => (hn _ _ _ _ _ rfl hs G p l e R s m args below meth c H locs ls' Qf S0 hC hK hE hW hS0 hkc hks (okLs_st hL trivial) hst (lv_st (v := aI (x + cst n)) hl') (by rw [stL_len]; exact hlen)))
  | iadd =>
    obtain ⟨y, r, he_, hs_⟩ := pI_inv hs; clear hs; subst he_; have hs := hs_; clear hs_
    obtain ⟨x, r, he_, hs_⟩ := pI_inv hs; clear hs; subst he_; have hs := hs_; clear hs_
    exact lv_iadd hx hb (hd (Nat.succ_ne_zero _)) (hn _ _ _ _ _ rfl hs G p l e R s m args below meth c H locs ls Qf S0 hC hK hE hW hS0 hkc hks hL (okSt_i (okSt_t (okSt_t hst))) hl hlen)
  | isub =>
    obtain ⟨y, r, he_, hs_⟩ := pI_inv hs; clear hs; subst he_; have hs := hs_; clear hs_
    obtain ⟨x, r, he_, hs_⟩ := pI_inv hs; clear hs; subst he_; have hs := hs_; clear hs_
    exact lv_isub hx hb (hd (Nat.succ_ne_zero _)) (hn _ _ _ _ _ rfl hs G p l e R s m args below meth c H locs ls Qf S0 hC hK hE hW hS0 hkc hks hL (okSt_i (okSt_t (okSt_t hst))) hl hlen)
  | imul =>
    obtain ⟨y, r, he_, hs_⟩ := pI_inv hs; clear hs; subst he_; have hs := hs_; clear hs_
    obtain ⟨x, r, he_, hs_⟩ := pI_inv hs; clear hs; subst he_; have hs := hs_; clear hs_
    exact lv_imul hx hb (hd (Nat.succ_ne_zero _)) (hn _ _ _ _ _ rfl hs G p l e R s m args below meth c H locs ls Qf S0 hC hK hE hW hS0 hkc hks hL (okSt_i (okSt_t (okSt_t hst))) hl hlen)
  | iand =>
    obtain ⟨y, r, he_, hs_⟩ := pI_inv hs; clear hs; subst he_; have hs := hs_; clear hs_
    obtain ⟨x, r, he_, hs_⟩ := pI_inv hs; clear hs; subst he_; have hs := hs_; clear hs_
    exact lv_iand hx hb (hd (Nat.succ_ne_zero _)) (hn _ _ _ _ _ rfl hs G p l e R s m args below meth c H locs ls Qf S0 hC hK hE hW hS0 hkc hks hL (okSt_i (okSt_t (okSt_t hst))) hl hlen)
  | ior =>
    obtain ⟨y, r, he_, hs_⟩ := pI_inv hs; clear hs; subst he_; have hs := hs_; clear hs_
    obtain ⟨x, r, he_, hs_⟩ := pI_inv hs; clear hs; subst he_; have hs := hs_; clear hs_
    exact lv_ior hx hb (hd (Nat.succ_ne_zero _)) (hn _ _ _ _ _ rfl hs G p l e R s m args below meth c H locs ls Qf S0 hC hK hE hW hS0 hkc hks hL (okSt_i (okSt_t (okSt_t hst))) hl hlen)
  | ishl =>
    obtain ⟨y, r, he_, hs_⟩ := pI_inv hs; clear hs; subst he_; have hs := hs_; clear hs_
    obtain ⟨x, r, he_, hs_⟩ := pI_inv hs; clear hs; subst he_; have hs := hs_; clear hs_
    exact lv_ishl hx hb (hd (Nat.succ_ne_zero _)) (hn _ _ _ _ _ rfl hs G p l e R s m args below meth c H locs ls Qf S0 hC hK hE hW hS0 hkc hks hL (okSt_i (okSt_t (okSt_t hst))) hl hlen)
  | ishr =>
    obtain ⟨y, r, he_, hs_⟩ := pI_inv hs; clear hs; subst he_; have hs := hs_; clear hs_
    obtain ⟨x, r, he_, hs_⟩ := pI_inv hs; clear hs; subst he_; have hs := hs_; clear hs_
    exact lv_ishr hx hb (hd (Nat.succ_ne_zero _)) (hn _ _ _ _ _ rfl hs G p l e R s m args below meth c H locs ls Qf S0 hC hK hE hW hS0 hkc hks hL (okSt_i (okSt_t (okSt_t hst))) hl hlen)
  | idiv =>
    obtain ⟨y, r, he_, hs_⟩ := pI_inv hs; clear hs; subst he_; have hs := hs_; clear hs_
    obtain ⟨x, r, he_, hs_⟩ := pI_inv hs; clear hs; subst he_; have hs := hs_; clear hs_
    exact lv_idiv hx hb (hd (Nat.succ_ne_zero _)) hs.1 (hn _ _ _ _ _ rfl hs.2 G p l e R s m args below meth c H locs ls Qf S0 hC hK hE hW hS0 hkc hks hL (okSt_i (okSt_t (okSt_t hst))) hl hlen)
  | irem =>
    obtain ⟨y, r, he_, hs_⟩ := pI_inv hs; clear hs; subst he_; have hs := hs_; clear hs_
    obtain ⟨x, r, he_, hs_⟩ := pI_inv hs; clear hs; subst he_; have hs := hs_; clear hs_
    exact lv_irem hx hb (hd (Nat.succ_ne_zero _)) hs.1 (hn _ _ _ _ _ rfl hs.2 G p l e R s m args below meth c H locs ls Qf S0 hC hK hE hW hS0 hkc hks hL (okSt_i (okSt_t (okSt_t hst))) hl hlen)
  | ineg =>
    obtain ⟨x, r, he_, hs_⟩ := pI_inv hs; clear hs; subst he_; have hs := hs_; clear hs_
    exact lv_ineg hx hb (hd (Nat.succ_ne_zero _)) (hn _ _ _ _ _ rfl hs G p l e R s m args below meth c H locs ls Qf S0 hC hK hE hW hS0 hkc hks hL (okSt_i (okSt_t hst)) hl hlen)
  | ladd =>
    obtain ⟨y, r, he_, hs_⟩ := pL_inv hs; clear hs; subst he_; have hs := hs_; clear hs_
    obtain ⟨x, r, he_, hs_⟩ := pL_inv hs; clear hs; subst he_; have hs := hs_; clear hs_
    exact lv_ladd hx hb (hd (Nat.succ_ne_zero _)) (hn _ _ _ _ _ rfl hs G p l e R s m args below meth c H locs ls Qf S0 hC hK hE hW hS0 hkc hks hL (okSt_l (okSt_t (okSt_t hst))) hl hlen)
  | lsub =>
    obtain ⟨y, r, he_, hs_⟩ := pL_inv hs; clear hs; subst he_; have hs := hs_; clear hs_
    obtain ⟨x, r, he_, hs_⟩ := pL_inv hs; clear hs; subst he_; have hs := hs_; clear hs_
    exact lv_lsub hx hb (hd (Nat.succ_ne_zero _)) (hn _ _ _ _ _ rfl hs G p l e R s m args below meth c H locs ls Qf S0 hC hK hE hW hS0 hkc hks hL (okSt_l (okSt_t (okSt_t hst))) hl hlen)
  | land =>
    obtain ⟨y, r, he_, hs_⟩ := pL_inv hs; clear hs; subst he_; have hs := hs_; clear hs_
    obtain ⟨x, r, he_, hs_⟩ := pL_inv hs; clear hs; subst he_; have hs := hs_; clear hs_
    exact lv_land hx hb (hd (Nat.succ_ne_zero _)) (hn _ _ _ _ _ rfl hs G p l e R s m args below meth c H locs ls Qf S0 hC hK hE hW hS0 hkc hks hL (okSt_l (okSt_t (okSt_t hst))) hl hlen)
  | lor =>
    obtain ⟨y, r, he_, hs_⟩ := pL_inv hs; clear hs; subst he_; have hs := hs_; clear hs_
    obtain ⟨x, r, he_, hs_⟩ := pL_inv hs; clear hs; subst he_; have hs := hs_; clear hs_
    exact lv_lor hx hb (hd (Nat.succ_ne_zero _)) (hn _ _ _ _ _ rfl hs G p l e R s m args below meth c H locs ls Qf S0 hC hK hE hW hS0 hkc hks hL (okSt_l (okSt_t (okSt_t hst))) hl hlen)
  | ldiv =>
    obtain ⟨y, r, he_, hs_⟩ := pL_inv hs; clear hs; subst he_; have hs := hs_; clear hs_
    obtain ⟨x, r, he_, hs_⟩ := pL_inv hs; clear hs; subst he_; have hs := hs_; clear hs_
    exact lv_ldiv hx hb (hd (Nat.succ_ne_zero _)) hs.1 (hn _ _ _ _ _ rfl hs.2 G p l e R s m args below meth c H locs ls Qf S0 hC hK hE hW hS0 hkc hks hL (okSt_l (okSt_t (okSt_t hst))) hl hlen)
  | lrem =>
    obtain ⟨y, r, he_, hs_⟩ := pL_inv hs; clear hs; subst he_; have hs := hs_; clear hs_
    obtain ⟨x, r, he_, hs_⟩ := pL_inv hs; clear hs; subst he_; have hs := hs_; clear hs_
    exact lv_lrem hx hb (hd (Nat.succ_ne_zero _)) hs.1 (hn _ _ _ _ _ rfl hs.2 G p l e R s m args below meth c H locs ls Qf S0 hC hK hE hW hS0 hkc hks hL (okSt_l (okSt_t (okSt_t hst))) hl hlen)
  | lushr =>
    obtain ⟨y, r, he_, hs_⟩ := pI_inv hs; clear hs; subst he_; have hs := hs_; clear hs_
    obtain ⟨x, r, he_, hs_⟩ := pL_inv hs; clear hs; subst he_; have hs := hs_; clear hs_
    exact lv_lushr hx hb (hd (Nat.succ_ne_zero _)) rfl (hn _ _ _ _ _ rfl hs G p l e R s m args below meth c H locs ls Qf S0 hC hK hE hW hS0 hkc hks hL (okSt_l (okSt_t (okSt_t hst))) hl hlen)
  | lshl =>
    obtain ⟨y, r, he_, hs_⟩ := pI_inv hs; clear hs; subst he_; have hs := hs_; clear hs_
    obtain ⟨x, r, he_, hs_⟩ := pL_inv hs; clear hs; subst he_; have hs := hs_; clear hs_
    exact lv_lshl hx hb (hd (Nat.succ_ne_zero _)) rfl (hn _ _ _ _ _ rfl hs G p l e R s m args below meth c H locs ls Qf S0 hC hK hE hW hS0 hkc hks hL (okSt_l (okSt_t (okSt_t hst))) hl hlen)
  | lcmp =>
    obtain ⟨y, r, he_, hs_⟩ := pL_inv hs; clear hs; subst he_; have hs := hs_; clear hs_
    obtain ⟨x, r, he_, hs_⟩ := pL_inv hs; clear hs; subst he_; have hs := hs_; clear hs_
    exact W.lcmp hx hb (hd (Nat.succ_ne_zero _)) (hn _ _ _ _ _ rfl hs G p l e R s m args below meth c H locs ls Qf S0 hC hK hE hW hS0 hkc hks hL (okSt_i (okSt_t (okSt_t hst))) hl hlen)
  | i2l =>
    obtain ⟨x, r, he_, hs_⟩ := pI_inv hs; clear hs; subst he_; have hs := hs_; clear hs_
    exact lv_i2l hx hb (hd (Nat.succ_ne_zero _)) rfl (hn _ _ _ _ _ rfl hs G p l e R s m args below meth c H locs ls Qf S0 hC hK hE hW hS0 hkc hks hL (okSt_l (okSt_t hst)) hl hlen)
  | l2i =>
    obtain ⟨x, r, he_, hs_⟩ := pL_inv hs; clear hs; subst he_; have hs := hs_; clear hs_
    exact lv_l2i hx hb (hd (Nat.succ_ne_zero _)) rfl (hn _ _ _ _ _ rfl hs G p l e R s m args below meth c H locs ls Qf S0 hC hK hE hW hS0 hkc hks hL (okSt_i (okSt_t hst)) hl hlen)
  | i2b =>
    obtain ⟨x, r, he_, hs_⟩ := pI_inv hs; clear hs; subst he_; have hs := hs_; clear hs_
    exact lv_i2b hx hb (hd (Nat.succ_ne_zero _)) rfl (hn _ _ _ _ _ rfl hs G p l e R s m args below meth c H locs ls Qf S0 hC hK hE hW hS0 hkc hks hL (okSt_i (okSt_t hst)) hl hlen)
  | i2s =>
    obtain ⟨x, r, he_, hs_⟩ := pI_inv hs; clear hs; subst he_; have hs := hs_; clear hs_
    exact lv_i2s hx hb (hd (Nat.succ_ne_zero _)) rfl (hn _ _ _ _ _ rfl hs G p l e R s m args below meth c H locs ls Qf S0 hC hK hE hW hS0 hkc hks hL (okSt_i (okSt_t hst)) hl hlen)
  | dup =>
    obtain ⟨v, r, he_, hv, hs_⟩ := p1_inv hs; clear hs; subst he_; have hs := hs_; clear hs_
    exact lv_dup hx hb (hd (Nat.succ_ne_zero _)) ((cv_cat G v).trans hv) (hn _ _ _ _ _ rfl hs G p l e R s m args below meth c H locs ls Qf S0 hC hK hE hW hS0 hkc hks hL (okSt_c (okSt_h hst) hst) hl hlen)
  | dup2 =>
    obtain ⟨v, r, he_, hv, hs_⟩ := p1_inv hs; clear hs; subst he_; have hs := hs_; clear hs_
    obtain ⟨w, r, he_, hw, hs_⟩ := p1_inv hs; clear hs; subst he_; have hs := hs_; clear hs_
    exact lv_dup2_11 hx hb (hd (Nat.succ_ne_zero _)) ((cv_cat G v).trans hv) ((cv_cat G w).trans hw) (hn _ _ _ _ _ rfl hs G p l e R s m args below meth c H locs ls Qf S0 hC hK hE hW hS0 hkc hks hL (okSt_c (okSt_h hst) (okSt_c (okSt_h (okSt_t hst)) hst)) hl hlen)
  | pop =>
    obtain ⟨v, r, he_, hv, hs_⟩ := p1_inv hs; clear hs; subst he_; have hs := hs_; clear hs_
    exact lv_pop hx hb (hd (Nat.succ_ne_zero _)) ((cv_cat G v).trans hv) (hn _ _ _ _ _ rfl hs G p l e R s m args below meth c H locs ls Qf S0 hC hK hE hW hS0 hkc hks hL (okSt_t hst) hl hlen)
  | goto off =>
    exact lv_goto (tgt := tg.headD 0) hx hb (hd (Nat.succ_ne_zero _)) (of_decide_eq_true htk) (hj _ _ _ _ _ _ hs G p l e R s m args below meth c H locs ls Qf S0 hC hK hE hW hS0 hkc hks hL hst hl hlen)
  | ifCond cd off =>
    obtain ⟨x, r, he_, hs_⟩ := pI_inv hs; clear hs; subst he_; have hs := hs_; clear hs_
    cases cd with
    | eq => exact lv_if_eq (tgt := tg.headD 0) hx hb (hd (Nat.succ_ne_zero _)) (of_decide_eq_true htk) (fun q => (hj _ _ _ _ _ _ (And.left hs q) G p l e R s m args below meth c H locs ls Qf S0 hC hK hE hW hS0 hkc hks hL (okSt_t hst) hl hlen)) (fun q => (hn _ _ _ _ _ rfl (And.right hs q) G p l e R s m args below meth c H locs ls Qf S0 hC hK hE hW hS0 hkc hks hL (okSt_t hst) hl hlen))
    | ne => exact lv_if_ne (tgt := tg.headD 0) hx hb (hd (Nat.succ_ne_zero _)) (of_decide_eq_true htk) (fun q => (hj _ _ _ _ _ _ (And.left hs q) G p l e R s m args below meth c H locs ls Qf S0 hC hK hE hW hS0 hkc hks hL (okSt_t hst) hl hlen)) (fun q => (hn _ _ _ _ _ rfl (And.right hs (fun z => z q)) G p l e R s m args below meth c H locs ls Qf S0 hC hK hE hW hS0 hkc hks hL (okSt_t hst) hl hlen))
    | lt => exact lv_if_lt (tgt := tg.headD 0) hx hb (hd (Nat.succ_ne_zero _)) (of_decide_eq_true htk) (fun q => (hj _ _ _ _ _ _ (And.left hs q) G p l e R s m args below meth c H locs ls Qf S0 hC hK hE hW hS0 hkc hks hL (okSt_t hst) hl hlen)) (fun q => (hn _ _ _ _ _ rfl (And.right hs q) G p l e R s m args below meth c H locs ls Qf S0 hC hK hE hW hS0 hkc hks hL (okSt_t hst) hl hlen))
    | ge => exact lv_if_ge (tgt := tg.headD 0) hx hb (hd (Nat.succ_ne_zero _)) (of_decide_eq_true htk) (fun q => (hj _ _ _ _ _ _ (And.left hs q) G p l e R s m args below meth c H locs ls Qf S0 hC hK hE hW hS0 hkc hks hL (okSt_t hst) hl hlen)) (fun q => (hn _ _ _ _ _ rfl (And.right hs q) G p l e R s m args below meth c H locs ls Qf S0 hC hK hE hW hS0 hkc hks hL (okSt_t hst) hl hlen))
    | gt => exact lv_if_gt (tgt := tg.headD 0) hx hb (hd (Nat.succ_ne_zero _)) (of_decide_eq_true htk) (fun q => (hj _ _ _ _ _ _ (And.left hs q) G p l e R s m args below meth c H locs ls Qf S0 hC hK hE hW hS0 hkc hks hL (okSt_t hst) hl hlen)) (fun q => (hn _ _ _ _ _ rfl (And.right hs q) G p l e R s m args below meth c H locs ls Qf S0 hC hK hE hW hS0 hkc hks hL (okSt_t hst) hl hlen))
    | le => exact lv_if_le (tgt := tg.headD 0) hx hb (hd (Nat.succ_ne_zero _)) (of_decide_eq_true htk) (fun q => (hj _ _ _ _ _ _ (And.left hs q) G p l e R s m args below meth c H locs ls Qf S0 hC hK hE hW hS0 hkc hks hL (okSt_t hst) hl hlen)) (fun q => (hn _ _ _ _ _ rfl (And.right hs q) G p l e R s m args below meth c H locs ls Qf S0 hC hK hE hW hS0 hkc hks hL (okSt_t hst) hl hlen))
  | if_icmp cd off =>
    obtain ⟨y, r, he_, hs_⟩ := pI_inv hs; clear hs; subst he_; have hs := hs_; clear hs_
    obtain ⟨x, r, he_, hs_⟩ := pI_inv hs; clear hs; subst he_; have hs := hs_; clear hs_
    cases cd with
    | eq => exact lv_icmp_eq (tgt := tg.headD 0) hx hb (hd (Nat.succ_ne_zero _)) (of_decide_eq_true htk) (fun q => (hj _ _ _ _ _ _ (And.left hs q) G p l e R s m args below meth c H locs ls Qf S0 hC hK hE hW hS0 hkc hks hL (okSt_t (okSt_t hst)) hl hlen)) (fun q => (hn _ _ _ _ _ rfl (And.right hs q) G p l e R s m args below meth c H locs ls Qf S0 hC hK hE hW hS0 hkc hks hL (okSt_t (okSt_t hst)) hl hlen))
    | ne => exact lv_icmp_ne (tgt := tg.headD 0) hx hb (hd (Nat.succ_ne_zero _)) (of_decide_eq_true htk) (fun q => (hj _ _ _ _ _ _ (And.left hs q) G p l e R s m args below meth c H locs ls Qf S0 hC hK hE hW hS0 hkc hks hL (okSt_t (okSt_t hst)) hl hlen)) (fun q => (hn _ _ _ _ _ rfl (And.right hs (fun z => z q)) G p l e R s m args below meth c H locs ls Qf S0 hC hK hE hW hS0 hkc hks hL (okSt_t (okSt_t hst)) hl hlen))
    | lt => exact lv_icmp_lt (tgt := tg.headD 0) hx hb (hd (Nat.succ_ne_zero _)) (of_decide_eq_true htk) (fun q => (hj _ _ _ _ _ _ (And.left hs q) G p l e R s m args below meth c H locs ls Qf S0 hC hK hE hW hS0 hkc hks hL (okSt_t (okSt_t hst)) hl hlen)) (fun q => (hn _ _ _ _ _ rfl (And.right hs q) G p l e R s m args below meth c H locs ls Qf S0 hC hK hE hW hS0 hkc hks hL (okSt_t (okSt_t hst)) hl hlen))
    | ge => exact lv_icmp_ge (tgt := tg.headD 0) hx hb (hd (Nat.succ_ne_zero _)) (of_decide_eq_true htk) (fun q => (hj _ _ _ _ _ _ (And.left hs q) G p l e R s m args below meth c H locs ls Qf S0 hC hK hE hW hS0 hkc hks hL (okSt_t (okSt_t hst)) hl hlen)) (fun q => (hn _ _ _ _ _ rfl (And.right hs q) G p l e R s m args below meth c H locs ls Qf S0 hC hK hE hW hS0 hkc hks hL (okSt_t (okSt_t hst)) hl hlen))
    | gt => exact lv_icmp_gt (tgt := tg.headD 0) hx hb (hd (Nat.succ_ne_zero _)) (of_decide_eq_true htk) (fun q => (hj _ _ _ _ _ _ (And.left hs q) G p l e R s m args below meth c H locs ls Qf S0 hC hK hE hW hS0 hkc hks hL (okSt_t (okSt_t hst)) hl hlen)) (fun q => (hn _ _ _ _ _ rfl (And.right hs q) G p l e R s m args below meth c H locs ls Qf S0 hC hK hE hW hS0 hkc hks hL (okSt_t (okSt_t hst)) hl hlen))
    | le => exact lv_icmp_le (tgt := tg.headD 0) hx hb (hd (Nat.succ_ne_zero _)) (of_decide_eq_true htk) (fun q => (hj _ _ _ _ _ _ (And.left hs q) G p l e R s m args below meth c H locs ls Qf S0 hC hK hE hW hS0 hkc hks hL (okSt_t (okSt_t hst)) hl hlen)) (fun q => (hn _ _ _ _ _ rfl (And.right hs q) G p l e R s m args below meth c H locs ls Qf S0 hC hK hE hW hS0 hkc hks hL (okSt_t (okSt_t hst)) hl hlen))
  | ifnull off =>
    obtain ⟨o, r, he_, hs_⟩ := pO_inv hs; clear hs; subst he_; have hs := hs_; clear hs_
    cases o with
    | none => exact lv_ifnullN (tgt := tg.headD 0) hx hb (hd (Nat.succ_ne_zero _)) (of_decide_eq_true htk) (hj _ _ _ _ _ _ (And.left hs rfl) G p l e R s m args below meth c H locs ls Qf S0 hC hK hE hW hS0 hkc hks hL (okSt_t hst) hl hlen)
    | some a => exact lv_ifnull hx hb (hd (Nat.succ_ne_zero _)) (hn _ _ _ _ _ rfl (And.right hs (fun z => by cases z)) G p l e R s m args below meth c H locs ls Qf S0 hC hK hE hW hS0 hkc hks hL (okSt_t hst) hl hlen)
  | ifnonnull off =>
    obtain ⟨o, r, he_, hs_⟩ := pO_inv hs; clear hs; subst he_; have hs := hs_; clear hs_
    cases o with
    | none => exact lv_ifnonnullN hx hb (hd (Nat.succ_ne_zero _)) (hn _ _ _ _ _ rfl (And.left hs rfl) G p l e R s m args below meth c H locs ls Qf S0 hC hK hE hW hS0 hkc hks hL (okSt_t hst) hl hlen)
    | some a => exact lv_ifnonnull (tgt := tg.headD 0) hx hb (hd (Nat.succ_ne_zero _)) (of_decide_eq_true htk) (hj _ _ _ _ _ _ (And.right hs (fun z => by cases z)) G p l e R s m args below meth c H locs ls Qf S0 hC hK hE hW hS0 hkc hks hL (okSt_t hst) hl hlen)
  | tableswitch d lo hi offs =>
    obtain ⟨x, r, he_, hs_⟩ := pI_inv hs; clear hs; subst he_; have hs := hs_; clear hs_
    have htk2 := htk
    simp only [tok, Bool.and_eq_true, decide_eq_true_eq] at htk2
    obtain ⟨⟨⟨t1, t2⟩, t3⟩, t4⟩ := htk2
    by_cases ho : x.toInt < lo ∨ hi < x.toInt
    · exact lv_tableOut (tgt := tg.headD 0) hx hb hd0 ho t1 (hj _ _ _ _ _ _ (And.left hs ho) G p l e R s m args below meth c H locs ls Qf S0 hC hK hE hW hS0 hkc hks hL (okSt_t hst) hl hlen)
    · have h1 : ¬ x.toInt < lo := fun q => ho (Or.inl q)
      have h2 : ¬ hi < x.toInt := fun q => ho (Or.inr q)
      have hk : (x.toInt - lo).toNat < offs.size := by omega
      have hoff : offs[(x.toInt - lo).toNat]? = some offs[(x.toInt - lo).toNat] := Array.getElem?_eq_getElem hk
      have hl3 : tg.tail.length = offs.size := by have := congrArg List.length t3; simp at this; simp; omega
      have hk2 : (x.toInt - lo).toNat < tg.tail.length := by omega
      have ht : (pc : Int) + offs[(x.toInt - lo).toNat] = ((tg.tail[(x.toInt - lo).toNat] : Nat) : Int) := by
        have e1 := congrArg (fun z : List Int => z[(x.toInt - lo).toNat]?) t3
        simp only [List.getElem?_map, Array.getElem?_toList, hoff, Option.map_some] at e1
        rw [List.getElem?_eq_getElem hk2] at e1
        exact Option.some.inj e1
      have hxn : x = nI (lo.toNat + (x.toInt - lo).toNat) := by
        apply Int32.toInt_inj.mp
        rw [nI_toInt (by omega)]
        omega
      have hq2 := swc_get (jp := fun t => jp t L r h kc ks) (And.right hs) (List.getElem?_eq_getElem hk2) hxn
      exact lv_tableIn hx hb hd0 h1 h2 hoff ht (hj _ _ _ _ _ _ hq2 G p l e R s m args below meth c H locs ls Qf S0 hC hK hE hW hS0 hkc hks hL (okSt_t hst) hl hlen)
  | lookupswitch d ps =>
    obtain ⟨x, r, he_, hs_⟩ := pI_inv hs; clear hs; subst he_; have hs := hs_; clear hs_
    have htk2 := htk
    simp only [tok, Bool.and_eq_true, decide_eq_true_eq] at htk2
    obtain ⟨⟨⟨t1, t2⟩, t3⟩, t4⟩ := htk2
    obtain ⟨off, tgt, e1, e2, e3⟩ := lks_get t1 ps.toList tg.tail t3 (fun q hq => of_decide_eq_true (List.all_eq_true.mp t4 q hq)) hs
    exact lv_lookup hx hb hd0 t2 e1 e2 (hj _ _ _ _ _ _ e3 G p l e R s m args below meth c H locs ls Qf S0 hC hK hE hW hS0 hkc hks hL (okSt_t hst) hl hlen)
  | getfield i =>
    cases hf : lkp (mF M) i with
    | none => simp only [stp, hf] at hs
    | some f =>
      simp only [stp, hf] at hs
      obtain ⟨hob, hfl, hlink⟩ := hM.2.1 (i, f) (lkp_mem hf)
      obtain ⟨v, a, r, he_, hs_, hv⟩ := pX_inv hs; clear hs; subst he_; have hs := hs_; clear hs_
      have hmem : (f.1, a) ∈ idx h ∧ cv G v = .ref (adr G f.1 a) ∧ ((f.1, a) ∈ fixed ∨ f.1 = 18) := by
        rcases hv with hv | ⟨h18, hv⟩
        · subst hv
          exact ⟨idx_fx (okSt_h hst), rfl, Or.inl (okSt_h hst)⟩
        · subst hv
          rw [h18]
          exact ⟨idx_sh (okSt_h hst), rfl, Or.inr rfl⟩
      obtain ⟨hm1, hm2, hm3⟩ := hmem
      obtain ⟨j, hjj, hw⟩ := wl_get (G := G) hm1
      rw [cell_ob G h a hob] at hw
      obtain ⟨C, hcl, hin⟩ := ob_cls h a hob
      have key : ∀ v' : AV, fval G h f.1 a f.2.1 f.2.2 = cv G v' → okv h v' → nx L (v' :: r) h kc ks → W p l e R s m args below meth c H locs kc ks Qf (F0 m pc ls (List.map (cv G) (v :: r))) := by
        intro v' e1 e2 e3
        rw [List.map_cons, hm2]
        exact va_get (D := (G.1, G.2.1)) (cl := classes) hx hb hts hin hown hK.1 hP j hw hcl f.2.1 (fl_lt hfl) (hts _ hlink) (fun _ h9 => h9) ((flds_get hfl).trans (congrArg some e1)) (hd (Nat.succ_ne_zero _)) (hn _ _ _ _ _ rfl e3 G p l e R s m args below meth c H locs ls Qf S0 hC hK hE hW hS0 hkc hks hL (okSt_c e2 (okSt_t hst)) hl hlen)
      split at hs
      · rename_i hk1
        exact key (aR f.2.2.2.1 (a + f.2.2.2.2)) (by unfold fval; rw [hk1]; rfl) (fl_link hob hfl hk1 hm3) hs
      · rename_i hk1
        refine key (aS (h.2.1 f.1 a f.2.1)) (by unfold fval; rw [hk1]; rfl) ?_ hs
        show okv h (aS (h.2.1 f.1 a f.2.1))
        cases ho : h.2.1 f.1 a f.2.1 with
        | none => trivial
        | some z => exact hokh _ _ _ _ ho
      · rename_i hk1 hk2
        exact key (aI (h.1 f.1 a f.2.1)) (by unfold fval; split <;> first | rfl | contradiction) trivial hs
  | putfield i =>
    cases hf : lkp (mF M) i with
    | none => simp only [stp, hf] at hs
    | some f =>
      simp only [stp, hf] at hs
      obtain ⟨hob, hfl, hlink⟩ := hM.2.1 (i, f) (lkp_mem hf)
      have recv : ∀ {v : AV} {a : Nat} {r : List AV}, f.1 ≠ 18 → okSt h (v :: r) → (v = aR f.1 a ∨ f.1 = 18 ∧ v = aS (some a)) → (f.1, a) ∈ fixed ∧ cv G v = .ref (adr G f.1 a) := by
        intro v a r h18 ho hv
        rcases hv with hv | ⟨h, hv⟩
        · subst hv
          exact ⟨okSt_h ho, rfl⟩
        · exact absurd h h18
      split at hs
      · rename_i hk1
        obtain ⟨x, r, he_, hs_⟩ := pI_inv hs; clear hs; subst he_; have hs := hs_; clear hs_
        obtain ⟨v, a, r, he_, hs_, hv⟩ := pX_inv hs; clear hs; subst he_; have hs := hs_; clear hs_
        obtain ⟨hne, hs⟩ := tif_inv hs
        have h18 : f.1 ≠ 18 := fun e => by rw [e] at hne; cases hne
        obtain ⟨hm1, hm2⟩ := recv h18 (okSt_t hst) hv
        obtain ⟨j, hjj, hw⟩ := wl_get (G := G) (idx_fx (h := h) hm1)
        rw [cell_ob G h a hob] at hw
        obtain ⟨C, hcl, hin⟩ := ob_cls h a hob
        obtain ⟨ty0, hty, hnm⟩ := ob_put (isob4 hob h18)
        obtain ⟨hfin, hdesc⟩ := tblI f.1 (isob4 hob h18) f.2.1 (fl23 hfl) (by rw [hfl]; simp [hk1])
        have hlf : f.2.1 < (flds G h f.1 a).length := by unfold flds; simp; exact fl_lt hfl
        rw [List.map_cons, List.map_cons, hm2]
        exact va_put (D := (G.1, G.2.1)) (cl := classes) hx hb hts hin ty0 hty hnm hown hK.1 hP hD hS j hw hcl f.2.1 (fl_lt hfl) (hts _ hlink) (fun _ h9 => h9) hfin hdesc rfl rfl hlf (hd (Nat.succ_ne_zero _)) (fun H1 locs1 hP1 hD1 hS1 => (hn _ _ _ _ _ rfl hs G p l e R s m args below meth c H1 locs1 ls Qf S0 hC hK hE (Wd_wI hokh h18 hjj hD (by rw [cell_ob G _ a hob, ocl_wI h18, flds_wI hfl (by rw [hk1]; decide) (by rw [hk1]; decide)]; rfl) hP1 hD1 hS1) hS0 hkc hks hL (okSt_t (okSt_t hst)) hl hlen))
      · rename_i hk1
        obtain ⟨x, r, he_, hs_⟩ := pI_inv hs; clear hs; subst he_; have hs := hs_; clear hs_
        obtain ⟨v, a, r, he_, hs_, hv⟩ := pX_inv hs; clear hs; subst he_; have hs := hs_; clear hs_
        obtain ⟨hne, h01, hs⟩ := tif_inv hs
        have h18 : f.1 ≠ 18 := fun e => by rw [e] at hne; cases hne
        obtain ⟨hm1, hm2⟩ := recv h18 (okSt_t hst) hv
        obtain ⟨j, hjj, hw⟩ := wl_get (G := G) (idx_fx (h := h) hm1)
        rw [cell_ob G h a hob] at hw
        obtain ⟨C, hcl, hin⟩ := ob_cls h a hob
        obtain ⟨ty0, hty, hnm⟩ := ob_put (isob4 hob h18)
        obtain ⟨hfin, hdesc⟩ := tblZ f.1 (isob4 hob h18) f.2.1 (fl23 hfl) (by rw [hfl]; simp [hk1])
        have hlf : f.2.1 < (flds G h f.1 a).length := by unfold flds; simp; exact fl_lt hfl
        rw [List.map_cons, List.map_cons, hm2]
        exact va_put (D := (G.1, G.2.1)) (cl := classes) hx hb hts hin ty0 hty hnm hown hK.1 hP hD hS j hw hcl f.2.1 (fl_lt hfl) (hts _ hlink) (fun _ h9 => h9) hfin hdesc (nar01 h01).1 (nar01 h01).2.1 hlf (hd (Nat.succ_ne_zero _)) (fun H1 locs1 hP1 hD1 hS1 => (hn _ _ _ _ _ rfl hs G p l e R s m args below meth c H1 locs1 ls Qf S0 hC hK hE (Wd_wI hokh h18 hjj hD (by rw [cell_ob G _ a hob, ocl_wI h18, flds_wI hfl (by rw [hk1]; decide) (by rw [hk1]; decide)]; rfl) hP1 hD1 hS1) hS0 hkc hks hL (okSt_t (okSt_t hst)) hl hlen))
      · rename_i hk1
        obtain ⟨o, r, he_, hs_⟩ := pO_inv hs; clear hs; subst he_; have hs := hs_; clear hs_
        obtain ⟨v, a, r, he_, hs_, hv⟩ := pX_inv hs; clear hs; subst he_; have hs := hs_; clear hs_
        obtain ⟨hne, hs⟩ := tif_inv hs
        have h18 : f.1 ≠ 18 := fun e => by rw [e] at hne; cases hne
        obtain ⟨hm1, hm2⟩ := recv h18 (okSt_t hst) hv
        obtain ⟨j, hjj, hw⟩ := wl_get (G := G) (idx_fx (h := h) hm1)
        rw [cell_ob G h a hob] at hw
        obtain ⟨C, hcl, hin⟩ := ob_cls h a hob
        obtain ⟨ty0, hty, hnm⟩ := ob_put (isob4 hob h18)
        obtain ⟨hfin, hdesc⟩ := tblR f.1 (isob4 hob h18) f.2.1 (fl23 hfl) (by rw [hfl]; simp [hk1])
        have hlf : f.2.1 < (flds G h f.1 a).length := by unfold flds; simp; exact fl_lt hfl
        rw [List.map_cons, List.map_cons, hm2]
        exact va_put (D := (G.1, G.2.1)) (cl := classes) hx hb hts hin ty0 hty hnm hown hK.1 hP hD hS j hw hcl f.2.1 (fl_lt hfl) (hts _ hlink) (fun _ h9 => h9) hfin hdesc (by cases o <;> rfl) (by cases o <;> rfl) hlf (hd (Nat.succ_ne_zero _)) (fun H1 locs1 hP1 hD1 hS1 => (hn _ _ _ _ _ rfl hs G p l e R s m args below meth c H1 locs1 ls Qf S0 hC hK hE (Wd_wR hokh (okSt_h hst) hjj hD (by rw [cell_ob G _ a hob, flds_wR hfl hk1]; rfl) hP1 hD1 hS1) hS0 hkc hks hL (okSt_t (okSt_t hst)) hl hlen))
      · exact hs.elim
  | iaload =>
    obtain ⟨i, r, he_, hs_⟩ := pI_inv hs; clear hs; subst he_; have hs := hs_; clear hs_
    obtain ⟨t, a, r, he_, hs_⟩ := pR_inv hs; clear hs; subst he_; have hs := hs_; clear hs_
    obtain ⟨hk, hin, hs⟩ := tif_inv hs
    have hk := Nat.eq_of_beq_eq_true hk
    have hm : (t, a) ∈ fixed := okSt_h (okSt_t hst)
    obtain ⟨j, hjj, hw⟩ := wl_get (G := G) (idx_fx (h := h) hm)
    rw [cell_a0 hk] at hw
    obtain ⟨t0, ht0⟩ := ty_get (G := G) (ty := .int) hm (by unfold aty; rw [hk]; rfl)
    exact va_iald (D := (G.1, G.2.1)) (cl := classes) hx hb hK.1 hP j t0 hw ht0 (inR_vp hin) (hd (Nat.succ_ne_zero _)) (hn _ _ _ _ _ rfl hs G p l e R s m args below meth c H locs ls Qf S0 hC hK hE hW hS0 hkc hks hL (okSt_i (okSt_t (okSt_t hst))) hl hlen)
  | baload =>
    obtain ⟨i, r, he_, hs_⟩ := pI_inv hs; clear hs; subst he_; have hs := hs_; clear hs_
    obtain ⟨t, a, r, he_, hs_⟩ := pR_inv hs; clear hs; subst he_; have hs := hs_; clear hs_
    obtain ⟨hk, hin, hs⟩ := tif_inv hs
    have hk := Nat.eq_of_beq_eq_true hk
    have hm : (t, a) ∈ fixed := okSt_h (okSt_t hst)
    obtain ⟨j, hjj, hw⟩ := wl_get (G := G) (idx_fx (h := h) hm)
    rw [cell_a1 hk] at hw
    obtain ⟨t0, ht0⟩ := ty_get (G := G) (ty := .boolean) hm (by unfold aty; rw [hk]; rfl)
    exact va_zald (D := (G.1, G.2.1)) (cl := classes) hx hb hK.1 hP j t0 hw ht0 (inR_vp hin) (hd (Nat.succ_ne_zero _)) (hn _ _ _ _ _ rfl hs G p l e R s m args below meth c H locs ls Qf S0 hC hK hE hW hS0 hkc hks hL (okSt_i (okSt_t (okSt_t hst))) hl hlen)
  | aaload =>
    obtain ⟨i, r, he_, hs_⟩ := pI_inv hs; clear hs; subst he_; have hs := hs_; clear hs_
    obtain ⟨t, a, r, he_, hs_⟩ := pR_inv hs; clear hs; subst he_; have hs := hs_; clear hs_
    have hm : (t, a) ∈ fixed := okSt_h (okSt_t hst)
    obtain ⟨j, hjj, hw⟩ := wl_get (G := G) (idx_fx (h := h) hm)
    split at hs
    · rename_i hk
      obtain ⟨hin, hs⟩ := hs
      rw [cell_a2 hk] at hw
      obtain ⟨t0, ht0⟩ := ty_get (G := G) (ty := .object RX4) hm (by unfold aty; rw [hk]; rfl)
      refine va_aldq (D := (G.1, G.2.1)) (cl := classes) hx hb hK.1 hP j t0 hw ht0 (inR_vp hin) (hd (Nat.succ_ne_zero _)) (hn _ _ _ _ _ rfl hs G p l e R s m args below meth c H locs ls Qf S0 hC hK hE hW hS0 hkc hks hL (okSt_c ?_ (okSt_t (okSt_t hst))) hl hlen)
      show okv h (aS (h.2.1 t a i.toNatClampNeg))
      cases ho : h.2.1 t a i.toNatClampNeg with
      | none => trivial
      | some z => exact hokh _ _ _ _ ho
    · rename_i hk
      obtain ⟨hin, hs⟩ := hs
      rw [cell_a3 hk] at hw
      obtain ⟨t0, ht0⟩ := ty_get (G := G) (ty := .object RX5) hm (by unfold aty; rw [hk]; rfl)
      have h8 := kin3 t (fixed_mem.mp hm).1 hk
      have hi8 : i.toNatClampNeg < 8 := by have h1 := inR_vp hin; rw [h8] at h1; exact Nat.not_le.mp (fun q => h1 (Or.inr q))
      exact va_aldq (D := (G.1, G.2.1)) (cl := classes) hx hb hK.1 hP j t0 hw ht0 (inR_vp hin) (hd (Nat.succ_ne_zero _)) (hn _ _ _ _ _ rfl hs G p l e R s m args below meth c H locs ls Qf S0 hC hK hE hW hS0 hkc hks hL (okSt_c (show okv h (aR 12 i.toNatClampNeg) from fixed_mem.mpr ⟨by decide, hi8⟩) (okSt_t (okSt_t hst))) hl hlen)
    · exact hs.elim
  | iastore =>
    obtain ⟨x, r, he_, hs_⟩ := pI_inv hs; clear hs; subst he_; have hs := hs_; clear hs_
    obtain ⟨i, r, he_, hs_⟩ := pI_inv hs; clear hs; subst he_; have hs := hs_; clear hs_
    obtain ⟨t, a, r, he_, hs_⟩ := pR_inv hs; clear hs; subst he_; have hs := hs_; clear hs_
    obtain ⟨hk, hin, hs⟩ := tif_inv hs
    have hk := Nat.eq_of_beq_eq_true hk
    have hm : (t, a) ∈ fixed := okSt_h (okSt_t (okSt_t hst))
    obtain ⟨j, hjj, hw⟩ := wl_get (G := G) (idx_fx (h := h) hm)
    rw [cell_a0 hk] at hw
    obtain ⟨t0, ht0⟩ := ty_get (G := G) (ty := .int) hm (by unfold aty; rw [hk]; rfl)
    exact va_iast (D := (G.1, G.2.1)) (cl := classes) hx hb hK.1 hP hD hS j t0 hw ht0 (inR_vp hin) (hd (Nat.succ_ne_zero _)) (fun H1 locs1 hP1 hD1 hS1 => (hn _ _ _ _ _ rfl hs G p l e R s m args below meth c H1 locs1 ls Qf S0 hC hK hE (Wd_wI hokh (kin18 t (fixed_mem.mp hm).1 (by omega)) hjj hD (by rw [cell_a0 hk]; show _ = Sum.inl (_, _, Sum.inl (uI h.1 t a i.toNatClampNeg x t a)); rw [upd_uI] <;> rfl) hP1 hD1 hS1) hS0 hkc hks hL (okSt_t (okSt_t (okSt_t hst))) hl hlen))
  | bastore =>
    obtain ⟨x, r, he_, hs_⟩ := pI_inv hs; clear hs; subst he_; have hs := hs_; clear hs_
    obtain ⟨i, r, he_, hs_⟩ := pI_inv hs; clear hs; subst he_; have hs := hs_; clear hs_
    obtain ⟨t, a, r, he_, hs_⟩ := pR_inv hs; clear hs; subst he_; have hs := hs_; clear hs_
    obtain ⟨hk, hin, h01, hs⟩ := tif_inv hs
    have hk := Nat.eq_of_beq_eq_true hk
    have hm : (t, a) ∈ fixed := okSt_h (okSt_t (okSt_t hst))
    obtain ⟨j, hjj, hw⟩ := wl_get (G := G) (idx_fx (h := h) hm)
    rw [cell_a1 hk] at hw
    obtain ⟨t0, ht0⟩ := ty_get (G := G) (ty := .boolean) hm (by unfold aty; rw [hk]; rfl)
    exact va_zast (D := (G.1, G.2.1)) (cl := classes) hx hb hK.1 hP hD hS j t0 hw ht0 (inR_vp hin) (hd (Nat.succ_ne_zero _)) (fun H1 locs1 hP1 hD1 hS1 => (hn _ _ _ _ _ rfl hs G p l e R s m args below meth c H1 locs1 ls Qf S0 hC hK hE (Wd_wI hokh (kin18 t (fixed_mem.mp hm).1 (by omega)) hjj hD (by rw [cell_a1 hk, (nar01 h01).2.2]; show _ = Sum.inl (_, _, Sum.inl (uI h.1 t a i.toNatClampNeg x t a)); rw [upd_uI] <;> rfl) hP1 hD1 hS1) hS0 hkc hks hL (okSt_t (okSt_t (okSt_t hst))) hl hlen))
  | aastore =>
    obtain ⟨o, r, he_, hs_⟩ := pO_inv hs; clear hs; subst he_; have hs := hs_; clear hs_
    obtain ⟨i, r, he_, hs_⟩ := pI_inv hs; clear hs; subst he_; have hs := hs_; clear hs_
    obtain ⟨t, a, r, he_, hs_⟩ := pR_inv hs; clear hs; subst he_; have hs := hs_; clear hs_
    obtain ⟨hk, hin, hs⟩ := tif_inv hs
    have hk := Nat.eq_of_beq_eq_true hk
    have hm : (t, a) ∈ fixed := okSt_h (okSt_t (okSt_t hst))
    obtain ⟨j, hjj, hw⟩ := wl_get (G := G) (idx_fx (h := h) hm)
    rw [cell_a2 hk] at hw
    obtain ⟨t0, ht0⟩ := ty_get (G := G) (ty := .object RX4) hm (by unfold aty; rw [hk]; rfl)
    cases o with
    | none => exact va_astqN (D := (G.1, G.2.1)) (cl := classes) hx hb hK.1 hP hD hS j t0 hw ht0 (inR_vp hin) (hd (Nat.succ_ne_zero _)) (fun H1 locs1 hP1 hD1 hS1 => (hn _ _ _ _ _ rfl hs G p l e R s m args below meth c H1 locs1 ls Qf S0 hC hK hE (Wd_wR hokh (okSt_h hst) hjj hD (by rw [cell_a2 hk]; show _ = Sum.inl (_, _, Sum.inr (Sum.inr (Sum.inr (Sum.inr (uR h.2.1 t a i.toNatClampNeg _ t a))))); rw [upd_uR] <;> rfl) hP1 hD1 hS1) hS0 hkc hks hL (okSt_t (okSt_t (okSt_t hst))) hl hlen))
    | some b =>
      have hmb : b ∈ h.2.2 := okSt_h hst
      obtain ⟨j2, hj2, hw2⟩ := wl_get (G := G) (idx_sh hmb)
      rw [cell_ob G h b rfl] at hw2
      obtain ⟨C, hcl, hca⟩ := sh_cast (h.1 18 b 0)
      rcases hca with hca | hca
      · subst hca
        exact va_astq (D := (G.1, G.2.1)) (cl := classes) (r := (RX4, TX4, 7)) hx hb hK.1 hP hD hS j t0 j2 _ hw ht0 hw2 hcl (inR_vp hin) (hd (Nat.succ_ne_zero _)) (fun H1 locs1 hP1 hD1 hS1 => (hn _ _ _ _ _ rfl hs G p l e R s m args below meth c H1 locs1 ls Qf S0 hC hK hE (Wd_wR hokh (okSt_h hst) hjj hD (by rw [cell_a2 hk]; show _ = Sum.inl (_, _, Sum.inr (Sum.inr (Sum.inr (Sum.inr (uR h.2.1 t a i.toNatClampNeg _ t a))))); rw [upd_uR] <;> rfl) hP1 hD1 hS1) hS0 hkc hks hL (okSt_t (okSt_t (okSt_t hst))) hl hlen))
      · exact va_astqO (D := (G.1, G.2.1)) (cl := classes) (r := (C, TX4, 7)) hx hb hK.1 hP hD hS j t0 j2 _ hw ht0 (hK.2.2 _ hca) hw2 hcl (inR_vp hin) (hd (Nat.succ_ne_zero _)) (fun H1 locs1 hP1 hD1 hS1 => (hn _ _ _ _ _ rfl hs G p l e R s m args below meth c H1 locs1 ls Qf S0 hC hK hE (Wd_wR hokh (okSt_h hst) hjj hD (by rw [cell_a2 hk]; show _ = Sum.inl (_, _, Sum.inr (Sum.inr (Sum.inr (Sum.inr (uR h.2.1 t a i.toNatClampNeg _ t a))))); rw [upd_uR] <;> rfl) hP1 hD1 hS1) hS0 hkc hks hL (okSt_t (okSt_t (okSt_t hst))) hl hlen))
  | arraylength =>
    have hs : pR st (fun t _ st => tif (Nat.ble (akin t) 3) (nx L (aI (nI (alen t)) :: st) h kc ks)) := hs
    obtain ⟨t, a, r, he_, hs_⟩ := pR_inv hs; clear hs; subst he_; have hs := hs_; clear hs_
    obtain ⟨hk, hs⟩ := tif_inv hs
    have hk := Nat.le_of_ble_eq_true hk
    have hm : (t, a) ∈ fixed := okSt_h hst
    obtain ⟨j, hjj, hw⟩ := wl_get (G := G) (idx_fx (h := h) hm)
    have hk4 : akin t = 0 ∨ akin t = 1 ∨ akin t = 2 ∨ akin t = 3 := by omega
    rcases hk4 with hk | hk | hk | hk
    · rw [cell_a0 hk] at hw
      obtain ⟨t0, ht0⟩ := ty_get (G := G) (ty := .int) hm (by unfold aty; rw [hk]; rfl)
      exact va_alen (D := (G.1, G.2.1)) (cl := classes) hx hb hK.1 hP j t0 hw ht0 rfl (hd (Nat.succ_ne_zero _)) (hn _ _ _ _ _ rfl hs G p l e R s m args below meth c H locs ls Qf S0 hC hK hE hW hS0 hkc hks hL (okSt_i (okSt_t hst)) hl hlen)
    · rw [cell_a1 hk] at hw
      obtain ⟨t0, ht0⟩ := ty_get (G := G) (ty := .boolean) hm (by unfold aty; rw [hk]; rfl)
      exact va_alen (D := (G.1, G.2.1)) (cl := classes) hx hb hK.1 hP j t0 hw ht0 rfl (hd (Nat.succ_ne_zero _)) (hn _ _ _ _ _ rfl hs G p l e R s m args below meth c H locs ls Qf S0 hC hK hE hW hS0 hkc hks hL (okSt_i (okSt_t hst)) hl hlen)
    · rw [cell_a2 hk] at hw
      obtain ⟨t0, ht0⟩ := ty_get (G := G) (ty := .object RX4) hm (by unfold aty; rw [hk]; rfl)
      exact va_alen (D := (G.1, G.2.1)) (cl := classes) hx hb hK.1 hP j t0 hw ht0 rfl (hd (Nat.succ_ne_zero _)) (hn _ _ _ _ _ rfl hs G p l e R s m args below meth c H locs ls Qf S0 hC hK hE hW hS0 hkc hks hL (okSt_i (okSt_t hst)) hl hlen)
    · rw [cell_a3 hk] at hw
      obtain ⟨t0, ht0⟩ := ty_get (G := G) (ty := .object RX5) hm (by unfold aty; rw [hk]; rfl)
      exact va_alen (D := (G.1, G.2.1)) (cl := classes) hx hb hK.1 hP j t0 hw ht0 rfl (hd (Nat.succ_ne_zero _)) (hn _ _ _ _ _ rfl hs G p l e R s m args below meth c H locs ls Qf S0 hC hK hE hW hS0 hkc hks hL (okSt_i (okSt_t hst)) hl hlen)
  | invokevirtual i =>
    cases hf : lkp (mCs M) (3 * i) with
    | none => simp only [stp, hf] at hs
    | some ce =>
      simp only [stp, hf] at hs
      obtain ⟨r1, r2, hcr⟩ := hM.2.2.2.2 (3 * i, ce) (lkp_mem hf)
      have hki : kIns (3 * i) = .invokevirtual i := by unfold kIns; rw [show (3 * i) % 3 = 0 by omega, show (3 * i) / 3 = i by omega]; rfl
      rw [hki] at hcr
      exact cll_sound hcr r1 r2 (hd (Nat.succ_ne_zero _)) hs (fun st h kc ks q => hn _ _ _ _ _ rfl q) G p l e R s m args below meth c H locs ls Qf S0 hC hK hE hW hS0 hkc hks hL hst hl hlen
  | invokestatic i =>
    cases hf : lkp (mCs M) (3 * i + 1) with
    | none => simp only [stp, hf] at hs
    | some ce =>
      simp only [stp, hf] at hs
      obtain ⟨r1, r2, hcr⟩ := hM.2.2.2.2 (3 * i + 1, ce) (lkp_mem hf)
      have hki : kIns (3 * i + 1) = .invokestatic i := by unfold kIns; rw [show (3 * i + 1) % 3 = 1 by omega, show (3 * i + 1) / 3 = i by omega]; rfl
      rw [hki] at hcr
      exact cll_sound hcr r1 r2 (hd (Nat.succ_ne_zero _)) hs (fun st h kc ks q => hn _ _ _ _ _ rfl q) G p l e R s m args below meth c H locs ls Qf S0 hC hK hE hW hS0 hkc hks hL hst hl hlen
  | invokespecial i =>
    cases hf : lkp (mCs M) (3 * i + 2) with
    | none => simp only [stp, hf] at hs
    | some ce =>
      simp only [stp, hf] at hs
      obtain ⟨r1, r2, hcr⟩ := hM.2.2.2.2 (3 * i + 2, ce) (lkp_mem hf)
      have hki : kIns (3 * i + 2) = .invokespecial i := by unfold kIns; rw [show (3 * i + 2) % 3 = 2 by omega, show (3 * i + 2) / 3 = i by omega]; rfl
      rw [hki] at hcr
      exact cll_sound hcr r1 r2 (hd (Nat.succ_ne_zero _)) hs (fun st h kc ks q => hn _ _ _ _ _ rfl q) G p l e R s m args below meth c H locs ls Qf S0 hC hK hE hW hS0 hkc hks hL hst hl hlen
  | ireturn =>
    match Q, hE, hs with
    | .inl q, hE, hs => match st, hs with
      | [.inl x], hs => exact hE x h H locs kc ks pc ls (hd (Nat.succ_ne_zero _)) hs hW hS0 hkc hks
  | return_ =>
    match Q, hE, hs with
    | .inr (.inl q), hE, hs => match st, hs with
      | [], hs => exact hE h H locs kc ks pc ls (hd (Nat.succ_ne_zero _)) hs hW hS0 hkc hks
  | lreturn =>
    match Q, hE, hs with
    | .inr (.inr (.inl q)), hE, hs => match st, hs with
      | [.inr (.inl x)], hs => exact hE x h H locs kc ks pc ls (hd (Nat.succ_ne_zero _)) hs hW hS0 hkc hks
  | areturn =>
    match Q, hE, hs with
    | .inr (.inr (.inr q)), hE, hs => match st, hs, hst with
      | [.inr (.inr (.inr x))], hs, hst => exact hE x h H locs kc ks pc ls (hd (Nat.succ_ne_zero _)) hs (okSt_h hst) hW hS0 hkc hks
  | _ => exact (show False from hs).elim
end
section
/-! ===== the run of a method is sound ===== -/
theorem msk_nth {L : LSt} : ∀ {b : List Bool} {i : Nat} {v : AV}, nth (msk b L) i = some v → nth L i = some v := by
  induction L with
  | nil => intro b i v h; cases b <;> exact h
  | cons a l ih =>
    intro b i v h
    cases b with
    | nil => exact h
    | cons c bs =>
      cases i with
      | zero =>
        cases c with
        | true => exact h
        | false => cases h
      | succ i => exact ih h
theorem msk_len {L : LSt} : ∀ {b : List Bool}, (msk b L).length = L.length := by
  induction L with
  | nil => intro b; cases b <;> rfl
  | cons a l ih =>
    intro b
    cases b with
    | nil => rfl
    | cons c bs => exact congrArg (· + 1) ih
theorem AW_mask {M : MI} {Q : RQ} {pc : Nat} {b : List Bool} {L : LSt} {st : List AV} {h : AH} {kc ks : Nat} (k : AW M Q pc (msk b L) st h kc ks) : AW M Q pc L st h kc ks := by
  intro G p l e R s m args below meth c H locs ls Qf S0 hC hK hE hW hS0 hkc hks hL hst hl hlen
  refine k G p l e R s m args below meth c H locs ls Qf S0 hC hK hE hW hS0 hkc hks (fun i v hv => hL i v (msk_nth hv)) hst ⟨hl.1, hl.2.1, fun q hq => hl.2.2 q ?_⟩ (msk_len.trans hlen)
  obtain ⟨v, h1, h2⟩ := cvL_mem.mp hq
  exact cvL_mem.mpr ⟨v, msk_nth h1, h2⟩
theorem ctg_sound {M : MI} {Q : RQ} {cuts : List (Nat × List Bool)} {g : List (Nat × Instr × List Nat) → LSt → List AV → AH → Nat → Nat → Prop} (hg : ∀ q r, (∃ pre, mCode M = pre ++ q :: r) → ∀ L st h kc ks, g (q :: r) L st h kc ks → AW M Q q.1 L st h kc ks)
    {r : List (Nat × Instr × List Nat)} (hr : ∃ pre, mCode M = pre ++ r) {L : LSt} {st : List AV} {h : AH} {kc ks : Nat} (k : ctg M Q cuts g r L st h kc ks) : ∃ q r', r = q :: r' ∧ AW M Q q.1 L st h kc ks := by
  cases r with
  | nil => exact k.elim
  | cons q r' =>
    refine ⟨q, r', rfl, ?_⟩
    unfold ctg at k
    simp only at k
    split at k
    · exact AW_mask k
    · exact hg q r' hr L st h kc ks k
theorem frm_suf : ∀ (l : List (Nat × Instr × List Nat)) (t : Nat), (∃ pre, l = pre ++ frm l t) ∧ ∀ q r, frm l t = q :: r → q.1 = t
  | [], t => ⟨⟨[], rfl⟩, fun q r h => by cases h⟩
  | a :: l, t => by
    unfold frm
    cases hb : Nat.beq a.1 t with
    | true => exact ⟨⟨[], rfl⟩, fun q r h => by cases h; exact Nat.eq_of_beq_eq_true hb⟩
    | false =>
      obtain ⟨⟨pre, h1⟩, h2⟩ := frm_suf l t
      exact ⟨⟨a :: pre, congrArg (a :: ·) h1⟩, h2⟩
theorem go_sound {M : MI} {Q : RQ} {cuts : List (Nat × List Bool)} (hM : MOK M) : ∀ (n : Nat) (q : Nat × Instr × List Nat) (r : List (Nat × Instr × List Nat)), (∃ pre, mCode M = pre ++ q :: r) → ∀ L st h kc ks, go M Q cuts n (q :: r) L st h kc ks → AW M Q q.1 L st h kc ks := by
  intro n
  induction n with
  | zero => intro q r _ L st h kc ks k; exact k.elim
  | succ n ih =>
    intro q r hp L st h kc ks k
    obtain ⟨pre, hpre⟩ := hp
    have k : stp M Q (ctg M Q cuts (go M Q cuts n) r) (fun t => ctg M Q cuts (go M Q cuts n) (frm (mCode M) t)) q.2.1 q.2.2 L st h kc ks := k
    refine stp_sound (pc := q.1) hM (by rw [hpre]; exact List.mem_append_right _ List.mem_cons_self) ?_ ?_ k
    · intro L st h kc ks hf k
      obtain ⟨q', r', e, k2⟩ := ctg_sound ih ⟨pre ++ [q], by rw [hpre]; simp⟩ k
      rw [e] at hpre
      rw [← cok_next hM.1 hpre hf]
      exact k2
    · intro t L st h kc ks k
      obtain ⟨h1, h2⟩ := frm_suf (mCode M) t
      obtain ⟨q', r', e, k⟩ := ctg_sound ih h1 k
      rw [h2 q' r' e] at k
      exact k
/-- a method's state, from its run up to the cuts -/
theorem AW_go {M : MI} {Q : RQ} {cuts : List (Nat × List Bool)} (hM : MOK M) (n : Nat) {pc : Nat} {L : LSt} {st : List AV} {h : AH} {kc ks : Nat} (k : go M Q cuts n (frm (mCode M) pc) L st h kc ks) : AW M Q pc L st h kc ks := by
  obtain ⟨h1, h2⟩ := frm_suf (mCode M) pc
  cases hf : frm (mCode M) pc with
  | nil =>
    rw [hf] at k
    cases n <;> exact k.elim
  | cons q r =>
    rw [hf] at k h1
    have := go_sound hM n q r h1 L st h kc ks k
    rw [h2 q r hf] at this
    exact this
/-! ===== a method's contract ===== -/
def ini : List AV → LSt
  | [] => []
  | v :: r => match acat v with
    | 2 => some v :: none :: ini r
    | _ => some v :: ini r
def padL (L : LSt) : Nat → LSt
  | 0 => L
  | n + 1 => padL (L ++ [none]) n
def initL (nL : Nat) (as : List AV) : LSt := ini as ++ List.replicate (nL - (ini as).length) none
theorem nth_app {L : LSt} {n i : Nat} {v : AV} (h : nth (L ++ List.replicate n none) i = some v) : nth L i = some v := by
  induction L generalizing i with
  | nil =>
    exfalso
    have : ∀ (n i : Nat), nth (List.replicate n none) i = none := by
      intro n
      induction n with
      | zero => intro i; cases i <;> rfl
      | succ n ih => intro i; cases i with
        | zero => rfl
        | succ i => exact ih i
    rw [List.nil_append, this] at h
    cases h
  | cons a l ih =>
    cases i with
    | zero => exact h
    | succ i => exact ih h
theorem ini_args (G : GL) : ∀ (as : List AV) (k i : Nat) (v : AV), nth (ini as) i = some v → (k + i, cv G v) ∈ lv_args k (as.map (cv G))
  | [], _, _, _, h => by cases h
  | a :: as, k, i, v, h => by
    have hc := cv_cat G a
    rcases (show acat a = 2 ∨ acat a = 1 by unfold acat; split <;> simp) with h2 | h1
    · have e : ini (a :: as) = some a :: none :: ini as := by rw [ini, h2] <;> rfl
      rw [e] at h
      rw [List.map_cons]
      unfold lv_args
      rw [hc, h2]
      match i, h with
      | 0, h => cases h; exact List.mem_cons_self
      | 1, h => cases h
      | i + 2, h =>
        refine List.mem_cons_of_mem _ ?_
        have := ini_args G as (k + 2) i v h
        rw [show k + (i + 2) = k + 2 + i by omega]
        exact this
    · have e : ini (a :: as) = some a :: ini as := by rw [ini, h1] <;> rfl
      rw [e] at h
      rw [List.map_cons]
      unfold lv_args
      rw [hc, h1]
      match i, h with
      | 0, h => cases h; exact List.mem_cons_self
      | i + 1, h =>
        refine List.mem_cons_of_mem _ ?_
        have := ini_args G as (k + 1) i v h
        rw [show k + (i + 1) = k + 1 + i by omega]
        exact this
theorem ini_len (G : GL) (as : List AV) : (lg_sl (as.map (cv G))).length = (ini as).length := by
  induction as with
  | nil => rfl
  | cons a as ih =>
    rcases (show acat a = 2 ∨ acat a = 1 by unfold acat; split <;> simp) with h2 | h1
    · have e : ini (a :: as) = some a :: none :: ini as := by rw [ini, h2] <;> rfl
      rw [e, List.map_cons]
      have e2 : lg_sl (cv G a :: as.map (cv G)) = (if (cv G a).category = 2 then [Slot.val (cv G a), Slot.second] else [Slot.val (cv G a)]) ++ lg_sl (as.map (cv G)) := List.flatMap_cons
      rw [e2, if_pos (by rw [cv_cat, h2]), List.length_append, ih]
      simp
      omega
    · have e : ini (a :: as) = some a :: ini as := by rw [ini, h1] <;> rfl
      rw [e, List.map_cons]
      have e2 : lg_sl (cv G a :: as.map (cv G)) = (if (cv G a).category = 2 then [Slot.val (cv G a), Slot.second] else [Slot.val (cv G a)]) ++ lg_sl (as.map (cv G)) := List.flatMap_cons
      rw [e2, if_neg (by rw [cv_cat, h1]; decide), List.length_append, ih]
      simp
      omega
def Wd0 (G : GL) (h : AH) (U : State) : Prop := okh h ∧ va_P (G.1, G.2.1) classes (wl G h) U.heap ∧ va_D (gA0 G) (wl G h)
theorem KG_warm {G : GL} {s U : State} (hK : KG G s) (hW : s.WarmedH U.vm) (hz : gB G ≤ U.heap.size) : KG G U := by
  refine ⟨va_K.moved hW.alike hK.1, hz, fun w hw => ?_⟩
  have h := hK.2.2 w hw
  simp only [nestW, List.mem_cons, List.not_mem_nil, or_false] at hw
  rcases hw with rfl | rfl | rfl | rfl | rfl | rfl | rfl | rfl | rfl | rfl | rfl | rfl <;> first | exact va_Nw.warmM hW h | exact va_Nw.warmC hW h
theorem KG_call {G : GL} {U V : State} (hK : KG G U) (hv : U.vm = V.vm) (hz : gB G ≤ V.heap.size) : KG G V := by
  refine ⟨va_K.moved (by rw [hv]; exact Vm.Alike.refl V.vm) hK.1, hz, fun w hw => ?_⟩
  have h := hK.2.2 w hw
  refine va_Nw.same ?_ hv h
  simp only [nestW, List.mem_cons, List.not_mem_nil, or_false] at hw
  rcases hw with rfl | rfl | rfl | rfl | rfl | rfl | rfl | rfl | rfl | rfl | rfl | rfl <;> rfl
def mRm (M : MI) : Room := { frames := mFr M, cells := mMc M, slots := mMs M, locals := mLo M }
def mPc (G : GL) (as : List AV) (h : AH) : Array Value → State → Prop := va_Pc (as.map (cv G)) (fun U => KG G U ∧ Wd0 G h U)
theorem mPc_blind (G : GL) (as : List AV) (h : AH) : FrameBlind (mPc G as h) := fun a U g mk q => ⟨q.1, KG_call q.2.1 rfl q.2.1.2.1, q.2.2⟩
theorem lw_g_good : ∀ w ∈ lw_g, goodWord w = true := fun w hw => (List.mem_filter.mp hw).2
theorem goodG {ws : List Cond} (h : ∀ w ∈ ws, w ∈ lw_g) : GoodIn lw_g ws := fun w hw => ⟨h w hw, good_of_word (lw_g_good w (h w hw))⟩
theorem ini_ok {h : AH} : ∀ {as : List AV}, okSt h as → ∀ i v, nth (ini as) i = some v → okv h v
  | [], _, _, _, k => by cases k
  | a :: as, hs, i, v, k => by
    rcases (show acat a = 2 ∨ acat a = 1 by unfold acat; split <;> simp) with h2 | h1
    · have e : ini (a :: as) = some a :: none :: ini as := by rw [ini, h2] <;> rfl
      rw [e] at k
      match i, k with
      | 0, k => cases k; exact okSt_h hs
      | 1, k => cases k
      | i + 2, k => exact ini_ok (okSt_t hs) i v k
    · have e : ini (a :: as) = some a :: ini as := by rw [ini, h1] <;> rfl
      rw [e] at k
      match i, k with
      | 0, k => cases k; exact okSt_h hs
      | i + 1, k => exact ini_ok (okSt_t hs) i v k
theorem met_i {M : MI} {y : MethodName} (hy : plainName y.cls = true) (ho : mOwn M = y.cls) {as : List AV} {h : AH} {K : Int32 → AH → Prop} (hs : okSt h as) (hn : (ini as).length ≤ mNL M) (hA : AW M (.inl K) 0 (initL (mNL M) as) [] h 0 0) (l : Launch) (G : GL) :
    Met l y (Cond.code y (mCC M) (mNL M) (some .int) :: lw_g) (mRm M) (mPc G as h) (va_Qi (fun (x : Int32) (u : AH) => K x u ∧ ∀ a ∈ h.2.2, a ∈ u.2.2) (fun u t => Wd0 G u t) (gA0 G)) (mMc M) (mMs M) (gA0 G) := by
  refine Met.ofW (cc := mCC M) (maxL := mNL M) (ret := some .int) hy rfl ?_
  intro p e s m args below meth c s₁ B hml hv
  obtain ⟨rfl, hK, hW⟩ := hv
  have hx := B.exec
  have hb := B.bytes
  have hr := B.returns
  have hts := atoms_spec (ws := Cond.code y (mCC M) (mNL M) (some .int) :: lw_g) B.pre
  have hown : s.vm.findClass y.cls = some m.cls := findClass_of_methodNamed B.named
  have hlocks := B.notSynchronized
  have hl := lv_entry (as.map (cv G)) (n := mNL M) (by rw [ini_len]; exact hn)
  rw [lg_entry_eq]
  generalize (lg_sl (as.map (cv G)) ++ List.replicate (mNL M - (lg_sl (as.map (cv G))).length) Slot.unset).toArray = ls at hl ⊢
  refine hA G p l e _ s m _ below meth c s.heap [] ls _ h.2.2 ⟨hx, hb, hml, by rw [ho]; exact hown, fun w hw => hts w (List.mem_cons_of_mem _ hw), Nat.le_refl _, Nat.le_refl _, Nat.le_refl _, Nat.le_refl _⟩ hK ?_ ⟨hW.1, hW.2.1, hW.2.2, va_S.rf⟩ (fun _ q => q) (Nat.zero_le _) (Nat.zero_le _) ?_ (fun v hv => by cases hv) ⟨hl.1, hl.2.1, fun q hq => hl.2.2 q ?_⟩ ?_
  · intro x h' H' locs' kc ks pc ls' hd hq hw hsub hkc hks
    refine W.widen hkc hks ?_
    exact W.iret hx hb hr (fun t ht hWm => ⟨⟨x, h', rfl, ⟨hq, hsub⟩, hw.1, by rw [ht]; exact hw.2.1, hw.2.2.1⟩, hw.2.2.2.F ht⟩) hw.2.2.2.2.2 hd
  · intro i v hv
    have h1 := nth_app hv
    have h2 := ini_args G as 0 i v h1
    clear h2
    exact ini_ok hs i v h1
  · obtain ⟨v, h1, h2⟩ := cvL_mem.mp hq
    have := ini_args G as 0 q.1 v (nth_app h1)
    rw [Nat.zero_add, ← h2] at this
    exact this
  · unfold initL
    rw [List.length_append, List.length_replicate]
    omega
theorem met_z {M : MI} {y : MethodName} (hy : plainName y.cls = true) (ho : mOwn M = y.cls) {as : List AV} {h : AH} {K : Int32 → AH → Prop} (hs : okSt h as) (hn : (ini as).length ≤ mNL M) (hA : AW M (.inl (fun x u => (x = 0 ∨ x = 1) ∧ K x u)) 0 (initL (mNL M) as) [] h 0 0) (l : Launch) (G : GL) :
    Met l y (Cond.code y (mCC M) (mNL M) (some .boolean) :: lw_g) (mRm M) (mPc G as h) (va_Qi (fun (x : Int32) (u : AH) => K x u ∧ ∀ a ∈ h.2.2, a ∈ u.2.2) (fun u t => Wd0 G u t) (gA0 G)) (mMc M) (mMs M) (gA0 G) := by
  refine Met.ofW (cc := mCC M) (maxL := mNL M) (ret := some .boolean) hy rfl ?_
  intro p e s m args below meth c s₁ B hml hv
  obtain ⟨rfl, hK, hW⟩ := hv
  have hx := B.exec
  have hb := B.bytes
  have hr := B.returns
  have hts := atoms_spec (ws := Cond.code y (mCC M) (mNL M) (some .boolean) :: lw_g) B.pre
  have hown : s.vm.findClass y.cls = some m.cls := findClass_of_methodNamed B.named
  have hlocks := B.notSynchronized
  have hl := lv_entry (as.map (cv G)) (n := mNL M) (by rw [ini_len]; exact hn)
  rw [lg_entry_eq]
  generalize (lg_sl (as.map (cv G)) ++ List.replicate (mNL M - (lg_sl (as.map (cv G))).length) Slot.unset).toArray = ls at hl ⊢
  refine hA G p l e _ s m _ below meth c s.heap [] ls _ h.2.2 ⟨hx, hb, hml, by rw [ho]; exact hown, fun w hw => hts w (List.mem_cons_of_mem _ hw), Nat.le_refl _, Nat.le_refl _, Nat.le_refl _, Nat.le_refl _⟩ hK ?_ ⟨hW.1, hW.2.1, hW.2.2, va_S.rf⟩ (fun _ q => q) (Nat.zero_le _) (Nat.zero_le _) ?_ (fun v hv => by cases hv) ⟨hl.1, hl.2.1, fun q hq => hl.2.2 q ?_⟩ ?_
  · intro x h' H' locs' kc ks pc ls' hd hq hw hsub hkc hks
    refine W.widen hkc hks ?_
    exact W.zret hx hb hr (nar01 hq.1).1 (fun t ht hWm => ⟨⟨x, h', rfl, ⟨hq.2, hsub⟩, hw.1, by rw [ht]; exact hw.2.1, hw.2.2.1⟩, hw.2.2.2.F ht⟩) hw.2.2.2.2.2 hd
  · intro i v hv
    have h1 := nth_app hv
    have h2 := ini_args G as 0 i v h1
    clear h2
    exact ini_ok hs i v h1
  · obtain ⟨v, h1, h2⟩ := cvL_mem.mp hq
    have := ini_args G as 0 q.1 v (nth_app h1)
    rw [Nat.zero_add, ← h2] at this
    exact this
  · unfold initL
    rw [List.length_append, List.length_replicate]
    omega
theorem met_v {M : MI} {y : MethodName} (hy : plainName y.cls = true) (ho : mOwn M = y.cls) {as : List AV} {h : AH} {K : AH → Prop} (hs : okSt h as) (hn : (ini as).length ≤ mNL M) (hA : AW M (.inr (.inl K)) 0 (initL (mNL M) as) [] h 0 0) (l : Launch) (G : GL) :
    Met l y (Cond.code y (mCC M) (mNL M) (none) :: lw_g) (mRm M) (mPc G as h) (va_Qv (fun (u : AH) => K u ∧ ∀ a ∈ h.2.2, a ∈ u.2.2) (fun u t => Wd0 G u t) (gA0 G)) (mMc M) (mMs M) (gA0 G) := by
  refine Met.ofW (cc := mCC M) (maxL := mNL M) (ret := none) hy rfl ?_
  intro p e s m args below meth c s₁ B hml hv
  obtain ⟨rfl, hK, hW⟩ := hv
  have hx := B.exec
  have hb := B.bytes
  have hr := B.returns
  have hts := atoms_spec (ws := Cond.code y (mCC M) (mNL M) (none) :: lw_g) B.pre
  have hown : s.vm.findClass y.cls = some m.cls := findClass_of_methodNamed B.named
  have hlocks := B.notSynchronized
  have hl := lv_entry (as.map (cv G)) (n := mNL M) (by rw [ini_len]; exact hn)
  rw [lg_entry_eq]
  generalize (lg_sl (as.map (cv G)) ++ List.replicate (mNL M - (lg_sl (as.map (cv G))).length) Slot.unset).toArray = ls at hl ⊢
  refine hA G p l e _ s m _ below meth c s.heap [] ls _ h.2.2 ⟨hx, hb, hml, by rw [ho]; exact hown, fun w hw => hts w (List.mem_cons_of_mem _ hw), Nat.le_refl _, Nat.le_refl _, Nat.le_refl _, Nat.le_refl _⟩ hK ?_ ⟨hW.1, hW.2.1, hW.2.2, va_S.rf⟩ (fun _ q => q) (Nat.zero_le _) (Nat.zero_le _) ?_ (fun v hv => by cases hv) ⟨hl.1, hl.2.1, fun q hq => hl.2.2 q ?_⟩ ?_
  · intro h' H' locs' kc ks pc ls' hd hq hw hsub hkc hks
    refine W.widen hkc hks ?_
    exact W.vret hx hb hr (fun t ht hWm => ⟨⟨h', rfl, ⟨hq, hsub⟩, hw.1, by rw [ht]; exact hw.2.1, hw.2.2.1⟩, hw.2.2.2.F ht⟩) hw.2.2.2.2.2 hd
  · intro i v hv
    have h1 := nth_app hv
    have h2 := ini_args G as 0 i v h1
    clear h2
    exact ini_ok hs i v h1
  · obtain ⟨v, h1, h2⟩ := cvL_mem.mp hq
    have := ini_args G as 0 q.1 v (nth_app h1)
    rw [Nat.zero_add, ← h2] at this
    exact this
  · unfold initL
    rw [List.length_append, List.length_replicate]
    omega
theorem met_l {M : MI} {y : MethodName} (hy : plainName y.cls = true) (ho : mOwn M = y.cls) {as : List AV} {h : AH} {K : Int64 → AH → Prop} (hs : okSt h as) (hn : (ini as).length ≤ mNL M) (hA : AW M (.inr (.inr (.inl K))) 0 (initL (mNL M) as) [] h 0 0) (l : Launch) (G : GL) :
    Met l y (Cond.code y (mCC M) (mNL M) (some .long) :: lw_g) (mRm M) (mPc G as h) (va_Ql (fun (x : Int64) (u : AH) => K x u ∧ ∀ a ∈ h.2.2, a ∈ u.2.2) (fun u t => Wd0 G u t) (gA0 G)) (mMc M) (mMs M) (gA0 G) := by
  refine Met.ofW (cc := mCC M) (maxL := mNL M) (ret := some .long) hy rfl ?_
  intro p e s m args below meth c s₁ B hml hv
  obtain ⟨rfl, hK, hW⟩ := hv
  have hx := B.exec
  have hb := B.bytes
  have hr := B.returns
  have hts := atoms_spec (ws := Cond.code y (mCC M) (mNL M) (some .long) :: lw_g) B.pre
  have hown : s.vm.findClass y.cls = some m.cls := findClass_of_methodNamed B.named
  have hlocks := B.notSynchronized
  have hl := lv_entry (as.map (cv G)) (n := mNL M) (by rw [ini_len]; exact hn)
  rw [lg_entry_eq]
  generalize (lg_sl (as.map (cv G)) ++ List.replicate (mNL M - (lg_sl (as.map (cv G))).length) Slot.unset).toArray = ls at hl ⊢
  refine hA G p l e _ s m _ below meth c s.heap [] ls _ h.2.2 ⟨hx, hb, hml, by rw [ho]; exact hown, fun w hw => hts w (List.mem_cons_of_mem _ hw), Nat.le_refl _, Nat.le_refl _, Nat.le_refl _, Nat.le_refl _⟩ hK ?_ ⟨hW.1, hW.2.1, hW.2.2, va_S.rf⟩ (fun _ q => q) (Nat.zero_le _) (Nat.zero_le _) ?_ (fun v hv => by cases hv) ⟨hl.1, hl.2.1, fun q hq => hl.2.2 q ?_⟩ ?_
  · intro x h' H' locs' kc ks pc ls' hd hq hw hsub hkc hks
    refine W.widen hkc hks ?_
    exact W.lret hx hb hr (fun t ht hWm => ⟨⟨x, h', rfl, ⟨hq, hsub⟩, hw.1, by rw [ht]; exact hw.2.1, hw.2.2.1⟩, hw.2.2.2.F ht⟩) hw.2.2.2.2.2 hd
  · intro i v hv
    have h1 := nth_app hv
    have h2 := ini_args G as 0 i v h1
    clear h2
    exact ini_ok hs i v h1
  · obtain ⟨v, h1, h2⟩ := cvL_mem.mp hq
    have := ini_args G as 0 q.1 v (nth_app h1)
    rw [Nat.zero_add, ← h2] at this
    exact this
  · unfold initL
    rw [List.length_append, List.length_replicate]
    omega
theorem met_q {M : MI} {y : MethodName} (hy : plainName y.cls = true) (ho : mOwn M = y.cls) {as : List AV} {h : AH} {K : Option Nat → AH → Prop} (hs : okSt h as) (hn : (ini as).length ≤ mNL M) (hA : AW M (.inr (.inr (.inr K))) 0 (initL (mNL M) as) [] h 0 0) (l : Launch) (G : GL) :
    Met l y (Cond.code y (mCC M) (mNL M) (some (.object RX4)) :: lw_g) (mRm M) (mPc G as h) (va_Qq (fun (x : Option Nat) (u : AH) => (K x u ∧ okv u (aS x)) ∧ ∀ a ∈ h.2.2, a ∈ u.2.2) (fun u t => Wd0 G u t) (gA0 G)) (mMc M) (mMs M) (gA0 G) := by
  refine Met.ofW (cc := mCC M) (maxL := mNL M) (ret := some (.object RX4)) hy rfl ?_
  intro p e s m args below meth c s₁ B hml hv
  obtain ⟨rfl, hK, hW⟩ := hv
  have hx := B.exec
  have hb := B.bytes
  have hr := B.returns
  have hts := atoms_spec (ws := Cond.code y (mCC M) (mNL M) (some (.object RX4)) :: lw_g) B.pre
  have hown : s.vm.findClass y.cls = some m.cls := findClass_of_methodNamed B.named
  have hlocks := B.notSynchronized
  have hl := lv_entry (as.map (cv G)) (n := mNL M) (by rw [ini_len]; exact hn)
  rw [lg_entry_eq]
  generalize (lg_sl (as.map (cv G)) ++ List.replicate (mNL M - (lg_sl (as.map (cv G))).length) Slot.unset).toArray = ls at hl ⊢
  refine hA G p l e _ s m _ below meth c s.heap [] ls _ h.2.2 ⟨hx, hb, hml, by rw [ho]; exact hown, fun w hw => hts w (List.mem_cons_of_mem _ hw), Nat.le_refl _, Nat.le_refl _, Nat.le_refl _, Nat.le_refl _⟩ hK ?_ ⟨hW.1, hW.2.1, hW.2.2, va_S.rf⟩ (fun _ q => q) (Nat.zero_le _) (Nat.zero_le _) ?_ (fun v hv => by cases hv) ⟨hl.1, hl.2.1, fun q hq => hl.2.2 q ?_⟩ ?_
  · intro x h' H' locs' kc ks pc ls' hd hq hv hw hsub hkc hks
    refine W.widen hkc hks ?_
    exact W.aret hx hb hr (Or.inl ⟨_, rfl⟩) (va_rf_or x) (fun t ht hWm => ⟨⟨x, h', rfl, ⟨⟨hq, hv⟩, hsub⟩, hw.1, by rw [ht]; exact hw.2.1, hw.2.2.1⟩, hw.2.2.2.F ht⟩) hw.2.2.2.2.2 hd
  · intro i v hv
    have h1 := nth_app hv
    have h2 := ini_args G as 0 i v h1
    clear h2
    exact ini_ok hs i v h1
  · obtain ⟨v, h1, h2⟩ := cvL_mem.mp hq
    have := ini_args G as 0 q.1 v (nth_app h1)
    rw [Nat.zero_add, ← h2] at this
    exact this
  · unfold initL
    rw [List.length_append, List.length_replicate]
    omega
end
section
/-! ===== the rules of calls ===== -/
theorem Wd_pre {G : GL} {h : AH} {s : State} {H : Heap} {locs : List Loc} (hK : KG G s) (hW : Wd G h s H locs) (as : List AV) : ∀ U : State, U.heap = H → s.WarmedH U.vm → mPc G as h (as.map (cv G)).toArray U := by
  intro U hU hWm
  refine ⟨rfl, KG_warm hK hWm ?_, hW.1, by rw [hU]; exact hW.2.1, hW.2.2.1⟩
  rw [hU]
  exact Nat.le_trans hK.2.1 hW.2.2.2.1
theorem ob_recv {G : GL} {h : AH} {s : State} {H : Heap} {locs : List Loc} {t p : Nat} (hK : KG G s) (hW : Wd G h s H locs) (hob : isob t = true) (hm : (t, p) ∈ fixed) {C : String} (hC : classes[ocl h t p]? = some (C, TC t, (fl t).length)) : ∃ cell : Cell, H[adr G t p]? = some cell ∧ cell.vm.isStatics = false ∧ s.vm.findClass C = some cell.cls := by
  obtain ⟨j, hj, hw⟩ := wl_get (G := G) (idx_fx (h := h) hm)
  rw [cell_ob G h p hob] at hw
  exact va_recv hK.1 hW.2.1 hC hw
def rcl (t : Nat) : String := match t with
  | 0 => RX10
  | 1 => RX9
  | 12 => RX5
  | _ => RX11
theorem rcl_ok (h : AH) (p : Nat) : ∀ t ∈ [0, 1, 12, 15], classes[ocl h t p]? = some (rcl t, TC t, (fl t).length) := by
  intro t ht
  simp only [List.mem_cons, List.not_mem_nil, or_false] at ht
  rcases ht with rfl | rfl | rfl | rfl <;> rfl
theorem isob_4 {t : Nat} (h : t ∈ [0, 1, 12, 15]) : isob t = true := by
  simp only [List.mem_cons, List.not_mem_nil, or_false] at h
  rcases h with rfl | rfl | rfl | rfl <;> rfl
theorem map_rev_app (G : GL) (as rest : List AV) : (as.map (cv G)).reverse ++ rest.map (cv G) = (as.map (cv G)).reverse ++ rest.map (cv G) := rfl
theorem crS_i {own : String} {idx n : Nat} {y : MethodName} {M : MI} {T : List AV → AH → (Int32 → AH → Prop) → Prop} (hy : plainName y.cls = true) (ho : mOwn M = y.cls) (hw1 : Cond.methodLink own idx y ∈ lw_g) (hw2 : Cond.static y ∈ lw_g) (hw3 : Cond.initialized y.cls ∈ lw_g) (hw4 : Cond.code y (mCC M) (mNL M) (some .int) ∈ lw_g) (hd : (y.cls ≠ "java/lang/invoke/MethodHandle" ∧ y.cls ≠ "java/lang/invoke/VarHandle" ∧ (parseMethodDescriptor y.desc).map (fun d => d.parameters.length) = some n)) (hT : ∀ (as : List AV) (h : AH) (K : Int32 → AH → Prop), T as h K → (ini as).length ≤ mNL M ∧ AW M (.inl K) 0 (initL (mNL M) as) [] h 0 0) : CR own (.invokestatic idx) (n, mFr M + 1, 8 + (mNL M + 11) + mLo M, mMc M, mMs M, .inl T) := by
  intro G p l e R s m args below meth c cc H locs kc ks Qf pc ls as rest h hx hb hml hown hts hr1 hr2 hr3 hr4 hK hW hst hlen hcat hdg
  intro K hk kk
  obtain ⟨hn, hA⟩ := hT as h K hk
  have hM := met_i hy ho hst hn hA l G
  refine va_calli (va_runS (As := as.map (cv G)) (rest := rest.map (cv G)) ⟨hx, hb, hml, hown, hts⟩ hM (va_cwS n hts (goodG (fun w hw => ?_)) rfl rfl rfl hd ⟨hr1, hr2⟩) ⟨mPc_blind G as h, Wd_pre hK hW as⟩ rfl (by rw [List.length_map]; exact hlen) rfl rfl (by show 2 * 0 + _ ≤ 8; rw [cats_map]; simpa using hcat) hdg ⟨hr3, hr4⟩) hW.2.2.2 (fun q _ h => h) (fun q h => h) (fun x u t H1 locs1 ht hvm hw hB hz hk hS1 => kk x u H1 locs1 hw.1 ⟨hB.1, by rw [← ht]; exact hB.2.1, hB.2.2, hS1⟩ hw.2)
  simp only [va_wsS, List.mem_append, List.mem_cons, List.not_mem_nil, or_false] at hw
  rcases hw with (rfl | rfl | rfl) | rfl | hw
  · exact hw1
  · exact hw2
  · exact hw3
  · exact hw4
  · exact hw
theorem crN_i {host : String} {own : String} {idx n : Nat} {y : MethodName} {M : MI} {T : List AV → AH → (Int32 → AH → Prop) → Prop} (hy : plainName y.cls = true) (ho : mOwn M = y.cls) (hw1 : Cond.methodLinkNest own idx y host ∈ nestW) (hw2 : Cond.static y ∈ lw_g) (hw3 : Cond.initialized y.cls ∈ lw_g) (hw4 : Cond.code y (mCC M) (mNL M) (some .int) ∈ lw_g) (hd : (y.cls ≠ "java/lang/invoke/MethodHandle" ∧ y.cls ≠ "java/lang/invoke/VarHandle" ∧ (parseMethodDescriptor y.desc).map (fun d => d.parameters.length) = some n)) (hT : ∀ (as : List AV) (h : AH) (K : Int32 → AH → Prop), T as h K → (ini as).length ≤ mNL M ∧ AW M (.inl K) 0 (initL (mNL M) as) [] h 0 0) : CR own (.invokestatic idx) (n, mFr M + 1, 8 + (mNL M + 11) + mLo M, mMc M, mMs M, .inl T) := by
  intro G p l e R s m args below meth c cc H locs kc ks Qf pc ls as rest h hx hb hml hown hts hr1 hr2 hr3 hr4 hK hW hst hlen hcat hdg
  intro K hk kk
  obtain ⟨hn, hA⟩ := hT as h K hk
  have hM := met_i hy ho hst hn hA l G
  refine va_calli (va_runSN (As := as.map (cv G)) (rest := rest.map (cv G)) ⟨hx, hb, hml, hown, hts⟩ hM ⟨va_cnB n hts (goodG (fun w hw => ?_)) rfl rfl rfl (hK.2.2 _ hw1) (hts _ hw3) hd ⟨hr1, hr2⟩, hts _ hw2, trivial⟩ ⟨mPc_blind G as h, Wd_pre hK hW as⟩ rfl (by rw [List.length_map]; exact hlen) rfl rfl (by show 2 * 0 + _ ≤ 8; rw [cats_map]; simpa using hcat) hdg ⟨hr3, hr4⟩) hW.2.2.2 (fun q _ h => h) (fun q h => h) (fun x u t H1 locs1 ht hvm hw hB hz hk hS1 => kk x u H1 locs1 hw.1 ⟨hB.1, by rw [← ht]; exact hB.2.1, hB.2.2, hS1⟩ hw.2)
  simp only [List.mem_cons] at hw
  rcases hw with rfl | hw
  · exact hw4
  · exact hw
theorem crV_i {t : Nat} {own : String} {idx n : Nat} {y : MethodName} {M : MI} {T : List AV → AH → (Int32 → AH → Prop) → Prop} (hy : plainName y.cls = true) (ho : mOwn M = y.cls) (ht : t ∈ [0, 1, 12, 15]) (hyC : y.cls = rcl t) (hw1 : Cond.methodLink own idx y ∈ lw_g) (hw2 : Cond.instanceMethod y ∈ lw_g) (hw3 : Cond.initialized (rcl t) ∈ lw_g) (hw5 : Cond.selects (rcl t) y y ∈ lw_g) (hw4 : Cond.code y (mCC M) (mNL M) (some .int) ∈ lw_g) (hd : (y.cls ≠ "java/lang/invoke/MethodHandle" ∧ y.cls ≠ "java/lang/invoke/VarHandle" ∧ (parseMethodDescriptor y.desc).map (fun d => d.parameters.length) = some n)) (hTr : ∀ (as : List AV) (h : AH) (K : Int32 → AH → Prop), T as h K → ∃ (q : Nat) (r : List AV), as = aR t q :: r) (hT : ∀ (as : List AV) (h : AH) (K : Int32 → AH → Prop), T as h K → (ini as).length ≤ mNL M ∧ AW M (.inl K) 0 (initL (mNL M) as) [] h 0 0) : CR own (.invokevirtual idx) (n + 1, mFr M + 1, 8 + (mNL M + 11) + mLo M, mMc M, mMs M, .inl T) := by
  intro G p l e R s m args below meth c cc H locs kc ks Qf pc ls as rest h hx hb hml hown hts hr1 hr2 hr3 hr4 hK hW hst hlen hcat hdg
  intro K hk kk
  obtain ⟨hn, hA⟩ := hT as h K hk
  obtain ⟨q0, as', rfl⟩ := hTr as h K hk
  have hM := met_i hy ho hst hn hA l G
  have hl2 : as'.length = n := Nat.succ.inj hlen
  have hst0 : ((aR t q0 :: as').map (cv G)).reverse ++ rest.map (cv G) = (as'.map (cv G)).reverse ++ Value.ref (adr G t q0) :: rest.map (cv G) := by
    rw [List.map_cons, List.reverse_cons, List.append_assoc]
    rfl
  rw [hst0]
  refine va_calli (va_runV (As := as'.map (cv G)) (rest := rest.map (cv G)) (C := rcl t) ⟨hx, hb, hml, hown, hts⟩ hM (cwV n hts (goodG (fun w hw => ?_)) rfl rfl rfl ⟨hyC, hd⟩ ⟨hr1, hr2⟩) ⟨mPc_blind G _ h, ob_recv hK hW (isob_4 ht) (okSt_h hst) (rcl_ok h q0 t ht), Wd_pre hK hW (aR t q0 :: as')⟩ rfl (by rw [List.length_map]; exact hl2) rfl rfl (by show 2 * 0 + _ ≤ 8; rw [cats_map]; simpa using hcat) hdg ⟨hr3, hr4⟩) hW.2.2.2 (fun q _ h => h) (fun q h => h) (fun x u t H1 locs1 ht hvm hw hB hz hk hS1 => kk x u H1 locs1 hw.1 ⟨hB.1, by rw [← ht]; exact hB.2.1, hB.2.2, hS1⟩ hw.2)
  simp only [wsV, List.mem_append, List.mem_cons, List.not_mem_nil, or_false] at hw
  rcases hw with (rfl | rfl | rfl | rfl) | rfl | hw
  · exact hw1
  · exact hw2
  · exact hw5
  · exact hw3
  · exact hw4
  · exact hw
theorem crS_z {own : String} {idx n : Nat} {y : MethodName} {M : MI} {T : List AV → AH → (Int32 → AH → Prop) → Prop} (hy : plainName y.cls = true) (ho : mOwn M = y.cls) (hw1 : Cond.methodLink own idx y ∈ lw_g) (hw2 : Cond.static y ∈ lw_g) (hw3 : Cond.initialized y.cls ∈ lw_g) (hw4 : Cond.code y (mCC M) (mNL M) (some .boolean) ∈ lw_g) (hd : (y.cls ≠ "java/lang/invoke/MethodHandle" ∧ y.cls ≠ "java/lang/invoke/VarHandle" ∧ (parseMethodDescriptor y.desc).map (fun d => d.parameters.length) = some n)) (hT : ∀ (as : List AV) (h : AH) (K : Int32 → AH → Prop), T as h K → (ini as).length ≤ mNL M ∧ AW M (.inl (fun x u => (x = 0 ∨ x = 1) ∧ K x u)) 0 (initL (mNL M) as) [] h 0 0) : CR own (.invokestatic idx) (n, mFr M + 1, 8 + (mNL M + 11) + mLo M, mMc M, mMs M, .inl T) := by
  intro G p l e R s m args below meth c cc H locs kc ks Qf pc ls as rest h hx hb hml hown hts hr1 hr2 hr3 hr4 hK hW hst hlen hcat hdg
  intro K hk kk
  obtain ⟨hn, hA⟩ := hT as h K hk
  have hM := met_z hy ho hst hn hA l G
  refine va_calli (va_runS (As := as.map (cv G)) (rest := rest.map (cv G)) ⟨hx, hb, hml, hown, hts⟩ hM (va_cwS n hts (goodG (fun w hw => ?_)) rfl rfl rfl hd ⟨hr1, hr2⟩) ⟨mPc_blind G as h, Wd_pre hK hW as⟩ rfl (by rw [List.length_map]; exact hlen) rfl rfl (by show 2 * 0 + _ ≤ 8; rw [cats_map]; simpa using hcat) hdg ⟨hr3, hr4⟩) hW.2.2.2 (fun q _ h => h) (fun q h => h) (fun x u t H1 locs1 ht hvm hw hB hz hk hS1 => kk x u H1 locs1 hw.1 ⟨hB.1, by rw [← ht]; exact hB.2.1, hB.2.2, hS1⟩ hw.2)
  simp only [va_wsS, List.mem_append, List.mem_cons, List.not_mem_nil, or_false] at hw
  rcases hw with (rfl | rfl | rfl) | rfl | hw
  · exact hw1
  · exact hw2
  · exact hw3
  · exact hw4
  · exact hw
theorem crN_z {host : String} {own : String} {idx n : Nat} {y : MethodName} {M : MI} {T : List AV → AH → (Int32 → AH → Prop) → Prop} (hy : plainName y.cls = true) (ho : mOwn M = y.cls) (hw1 : Cond.methodLinkNest own idx y host ∈ nestW) (hw2 : Cond.static y ∈ lw_g) (hw3 : Cond.initialized y.cls ∈ lw_g) (hw4 : Cond.code y (mCC M) (mNL M) (some .boolean) ∈ lw_g) (hd : (y.cls ≠ "java/lang/invoke/MethodHandle" ∧ y.cls ≠ "java/lang/invoke/VarHandle" ∧ (parseMethodDescriptor y.desc).map (fun d => d.parameters.length) = some n)) (hT : ∀ (as : List AV) (h : AH) (K : Int32 → AH → Prop), T as h K → (ini as).length ≤ mNL M ∧ AW M (.inl (fun x u => (x = 0 ∨ x = 1) ∧ K x u)) 0 (initL (mNL M) as) [] h 0 0) : CR own (.invokestatic idx) (n, mFr M + 1, 8 + (mNL M + 11) + mLo M, mMc M, mMs M, .inl T) := by
  intro G p l e R s m args below meth c cc H locs kc ks Qf pc ls as rest h hx hb hml hown hts hr1 hr2 hr3 hr4 hK hW hst hlen hcat hdg
  intro K hk kk
  obtain ⟨hn, hA⟩ := hT as h K hk
  have hM := met_z hy ho hst hn hA l G
  refine va_calli (va_runSN (As := as.map (cv G)) (rest := rest.map (cv G)) ⟨hx, hb, hml, hown, hts⟩ hM ⟨va_cnB n hts (goodG (fun w hw => ?_)) rfl rfl rfl (hK.2.2 _ hw1) (hts _ hw3) hd ⟨hr1, hr2⟩, hts _ hw2, trivial⟩ ⟨mPc_blind G as h, Wd_pre hK hW as⟩ rfl (by rw [List.length_map]; exact hlen) rfl rfl (by show 2 * 0 + _ ≤ 8; rw [cats_map]; simpa using hcat) hdg ⟨hr3, hr4⟩) hW.2.2.2 (fun q _ h => h) (fun q h => h) (fun x u t H1 locs1 ht hvm hw hB hz hk hS1 => kk x u H1 locs1 hw.1 ⟨hB.1, by rw [← ht]; exact hB.2.1, hB.2.2, hS1⟩ hw.2)
  simp only [List.mem_cons] at hw
  rcases hw with rfl | hw
  · exact hw4
  · exact hw
theorem crV_z {t : Nat} {own : String} {idx n : Nat} {y : MethodName} {M : MI} {T : List AV → AH → (Int32 → AH → Prop) → Prop} (hy : plainName y.cls = true) (ho : mOwn M = y.cls) (ht : t ∈ [0, 1, 12, 15]) (hyC : y.cls = rcl t) (hw1 : Cond.methodLink own idx y ∈ lw_g) (hw2 : Cond.instanceMethod y ∈ lw_g) (hw3 : Cond.initialized (rcl t) ∈ lw_g) (hw5 : Cond.selects (rcl t) y y ∈ lw_g) (hw4 : Cond.code y (mCC M) (mNL M) (some .boolean) ∈ lw_g) (hd : (y.cls ≠ "java/lang/invoke/MethodHandle" ∧ y.cls ≠ "java/lang/invoke/VarHandle" ∧ (parseMethodDescriptor y.desc).map (fun d => d.parameters.length) = some n)) (hTr : ∀ (as : List AV) (h : AH) (K : Int32 → AH → Prop), T as h K → ∃ (q : Nat) (r : List AV), as = aR t q :: r) (hT : ∀ (as : List AV) (h : AH) (K : Int32 → AH → Prop), T as h K → (ini as).length ≤ mNL M ∧ AW M (.inl (fun x u => (x = 0 ∨ x = 1) ∧ K x u)) 0 (initL (mNL M) as) [] h 0 0) : CR own (.invokevirtual idx) (n + 1, mFr M + 1, 8 + (mNL M + 11) + mLo M, mMc M, mMs M, .inl T) := by
  intro G p l e R s m args below meth c cc H locs kc ks Qf pc ls as rest h hx hb hml hown hts hr1 hr2 hr3 hr4 hK hW hst hlen hcat hdg
  intro K hk kk
  obtain ⟨hn, hA⟩ := hT as h K hk
  obtain ⟨q0, as', rfl⟩ := hTr as h K hk
  have hM := met_z hy ho hst hn hA l G
  have hl2 : as'.length = n := Nat.succ.inj hlen
  have hst0 : ((aR t q0 :: as').map (cv G)).reverse ++ rest.map (cv G) = (as'.map (cv G)).reverse ++ Value.ref (adr G t q0) :: rest.map (cv G) := by
    rw [List.map_cons, List.reverse_cons, List.append_assoc]
    rfl
  rw [hst0]
  refine va_calli (va_runV (As := as'.map (cv G)) (rest := rest.map (cv G)) (C := rcl t) ⟨hx, hb, hml, hown, hts⟩ hM (cwV n hts (goodG (fun w hw => ?_)) rfl rfl rfl ⟨hyC, hd⟩ ⟨hr1, hr2⟩) ⟨mPc_blind G _ h, ob_recv hK hW (isob_4 ht) (okSt_h hst) (rcl_ok h q0 t ht), Wd_pre hK hW (aR t q0 :: as')⟩ rfl (by rw [List.length_map]; exact hl2) rfl rfl (by show 2 * 0 + _ ≤ 8; rw [cats_map]; simpa using hcat) hdg ⟨hr3, hr4⟩) hW.2.2.2 (fun q _ h => h) (fun q h => h) (fun x u t H1 locs1 ht hvm hw hB hz hk hS1 => kk x u H1 locs1 hw.1 ⟨hB.1, by rw [← ht]; exact hB.2.1, hB.2.2, hS1⟩ hw.2)
  simp only [wsV, List.mem_append, List.mem_cons, List.not_mem_nil, or_false] at hw
  rcases hw with (rfl | rfl | rfl | rfl) | rfl | hw
  · exact hw1
  · exact hw2
  · exact hw5
  · exact hw3
  · exact hw4
  · exact hw
theorem crS_v {own : String} {idx n : Nat} {y : MethodName} {M : MI} {T : List AV → AH → (AH → Prop) → Prop} (hy : plainName y.cls = true) (ho : mOwn M = y.cls) (hw1 : Cond.methodLink own idx y ∈ lw_g) (hw2 : Cond.static y ∈ lw_g) (hw3 : Cond.initialized y.cls ∈ lw_g) (hw4 : Cond.code y (mCC M) (mNL M) (none) ∈ lw_g) (hd : (y.cls ≠ "java/lang/invoke/MethodHandle" ∧ y.cls ≠ "java/lang/invoke/VarHandle" ∧ (parseMethodDescriptor y.desc).map (fun d => d.parameters.length) = some n)) (hT : ∀ (as : List AV) (h : AH) (K : AH → Prop), T as h K → (ini as).length ≤ mNL M ∧ AW M (.inr (.inl K)) 0 (initL (mNL M) as) [] h 0 0) : CR own (.invokestatic idx) (n, mFr M + 1, 8 + (mNL M + 11) + mLo M, mMc M, mMs M, .inr (.inl T)) := by
  intro G p l e R s m args below meth c cc H locs kc ks Qf pc ls as rest h hx hb hml hown hts hr1 hr2 hr3 hr4 hK hW hst hlen hcat hdg
  intro K hk kk
  obtain ⟨hn, hA⟩ := hT as h K hk
  have hM := met_v hy ho hst hn hA l G
  refine va_callv (va_runS (As := as.map (cv G)) (rest := rest.map (cv G)) ⟨hx, hb, hml, hown, hts⟩ hM (va_cwS n hts (goodG (fun w hw => ?_)) rfl rfl rfl hd ⟨hr1, hr2⟩) ⟨mPc_blind G as h, Wd_pre hK hW as⟩ rfl (by rw [List.length_map]; exact hlen) rfl rfl (by show 2 * 0 + _ ≤ 8; rw [cats_map]; simpa using hcat) hdg ⟨hr3, hr4⟩) hW.2.2.2 (fun q _ h => h) (fun q h => h) (fun u t H1 locs1 ht hvm hw hB hz hk hS1 => kk u H1 locs1 hw.1 ⟨hB.1, by rw [← ht]; exact hB.2.1, hB.2.2, hS1⟩ hw.2)
  simp only [va_wsS, List.mem_append, List.mem_cons, List.not_mem_nil, or_false] at hw
  rcases hw with (rfl | rfl | rfl) | rfl | hw
  · exact hw1
  · exact hw2
  · exact hw3
  · exact hw4
  · exact hw
theorem crN_v {host : String} {own : String} {idx n : Nat} {y : MethodName} {M : MI} {T : List AV → AH → (AH → Prop) → Prop} (hy : plainName y.cls = true) (ho : mOwn M = y.cls) (hw1 : Cond.methodLinkNest own idx y host ∈ nestW) (hw2 : Cond.static y ∈ lw_g) (hw3 : Cond.initialized y.cls ∈ lw_g) (hw4 : Cond.code y (mCC M) (mNL M) (none) ∈ lw_g) (hd : (y.cls ≠ "java/lang/invoke/MethodHandle" ∧ y.cls ≠ "java/lang/invoke/VarHandle" ∧ (parseMethodDescriptor y.desc).map (fun d => d.parameters.length) = some n)) (hT : ∀ (as : List AV) (h : AH) (K : AH → Prop), T as h K → (ini as).length ≤ mNL M ∧ AW M (.inr (.inl K)) 0 (initL (mNL M) as) [] h 0 0) : CR own (.invokestatic idx) (n, mFr M + 1, 8 + (mNL M + 11) + mLo M, mMc M, mMs M, .inr (.inl T)) := by
  intro G p l e R s m args below meth c cc H locs kc ks Qf pc ls as rest h hx hb hml hown hts hr1 hr2 hr3 hr4 hK hW hst hlen hcat hdg
  intro K hk kk
  obtain ⟨hn, hA⟩ := hT as h K hk
  have hM := met_v hy ho hst hn hA l G
  refine va_callv (va_runSN (As := as.map (cv G)) (rest := rest.map (cv G)) ⟨hx, hb, hml, hown, hts⟩ hM ⟨va_cnB n hts (goodG (fun w hw => ?_)) rfl rfl rfl (hK.2.2 _ hw1) (hts _ hw3) hd ⟨hr1, hr2⟩, hts _ hw2, trivial⟩ ⟨mPc_blind G as h, Wd_pre hK hW as⟩ rfl (by rw [List.length_map]; exact hlen) rfl rfl (by show 2 * 0 + _ ≤ 8; rw [cats_map]; simpa using hcat) hdg ⟨hr3, hr4⟩) hW.2.2.2 (fun q _ h => h) (fun q h => h) (fun u t H1 locs1 ht hvm hw hB hz hk hS1 => kk u H1 locs1 hw.1 ⟨hB.1, by rw [← ht]; exact hB.2.1, hB.2.2, hS1⟩ hw.2)
  simp only [List.mem_cons] at hw
  rcases hw with rfl | hw
  · exact hw4
  · exact hw
theorem crV_v {t : Nat} {own : String} {idx n : Nat} {y : MethodName} {M : MI} {T : List AV → AH → (AH → Prop) → Prop} (hy : plainName y.cls = true) (ho : mOwn M = y.cls) (ht : t ∈ [0, 1, 12, 15]) (hyC : y.cls = rcl t) (hw1 : Cond.methodLink own idx y ∈ lw_g) (hw2 : Cond.instanceMethod y ∈ lw_g) (hw3 : Cond.initialized (rcl t) ∈ lw_g) (hw5 : Cond.selects (rcl t) y y ∈ lw_g) (hw4 : Cond.code y (mCC M) (mNL M) (none) ∈ lw_g) (hd : (y.cls ≠ "java/lang/invoke/MethodHandle" ∧ y.cls ≠ "java/lang/invoke/VarHandle" ∧ (parseMethodDescriptor y.desc).map (fun d => d.parameters.length) = some n)) (hTr : ∀ (as : List AV) (h : AH) (K : AH → Prop), T as h K → ∃ (q : Nat) (r : List AV), as = aR t q :: r) (hT : ∀ (as : List AV) (h : AH) (K : AH → Prop), T as h K → (ini as).length ≤ mNL M ∧ AW M (.inr (.inl K)) 0 (initL (mNL M) as) [] h 0 0) : CR own (.invokevirtual idx) (n + 1, mFr M + 1, 8 + (mNL M + 11) + mLo M, mMc M, mMs M, .inr (.inl T)) := by
  intro G p l e R s m args below meth c cc H locs kc ks Qf pc ls as rest h hx hb hml hown hts hr1 hr2 hr3 hr4 hK hW hst hlen hcat hdg
  intro K hk kk
  obtain ⟨hn, hA⟩ := hT as h K hk
  obtain ⟨q0, as', rfl⟩ := hTr as h K hk
  have hM := met_v hy ho hst hn hA l G
  have hl2 : as'.length = n := Nat.succ.inj hlen
  have hst0 : ((aR t q0 :: as').map (cv G)).reverse ++ rest.map (cv G) = (as'.map (cv G)).reverse ++ Value.ref (adr G t q0) :: rest.map (cv G) := by
    rw [List.map_cons, List.reverse_cons, List.append_assoc]
    rfl
  rw [hst0]
  refine va_callv (va_runV (As := as'.map (cv G)) (rest := rest.map (cv G)) (C := rcl t) ⟨hx, hb, hml, hown, hts⟩ hM (cwV n hts (goodG (fun w hw => ?_)) rfl rfl rfl ⟨hyC, hd⟩ ⟨hr1, hr2⟩) ⟨mPc_blind G _ h, ob_recv hK hW (isob_4 ht) (okSt_h hst) (rcl_ok h q0 t ht), Wd_pre hK hW (aR t q0 :: as')⟩ rfl (by rw [List.length_map]; exact hl2) rfl rfl (by show 2 * 0 + _ ≤ 8; rw [cats_map]; simpa using hcat) hdg ⟨hr3, hr4⟩) hW.2.2.2 (fun q _ h => h) (fun q h => h) (fun u t H1 locs1 ht hvm hw hB hz hk hS1 => kk u H1 locs1 hw.1 ⟨hB.1, by rw [← ht]; exact hB.2.1, hB.2.2, hS1⟩ hw.2)
  simp only [wsV, List.mem_append, List.mem_cons, List.not_mem_nil, or_false] at hw
  rcases hw with (rfl | rfl | rfl | rfl) | rfl | hw
  · exact hw1
  · exact hw2
  · exact hw5
  · exact hw3
  · exact hw4
  · exact hw
theorem crS_l {own : String} {idx n : Nat} {y : MethodName} {M : MI} {T : List AV → AH → (Int64 → AH → Prop) → Prop} (hy : plainName y.cls = true) (ho : mOwn M = y.cls) (hw1 : Cond.methodLink own idx y ∈ lw_g) (hw2 : Cond.static y ∈ lw_g) (hw3 : Cond.initialized y.cls ∈ lw_g) (hw4 : Cond.code y (mCC M) (mNL M) (some .long) ∈ lw_g) (hd : (y.cls ≠ "java/lang/invoke/MethodHandle" ∧ y.cls ≠ "java/lang/invoke/VarHandle" ∧ (parseMethodDescriptor y.desc).map (fun d => d.parameters.length) = some n)) (hT : ∀ (as : List AV) (h : AH) (K : Int64 → AH → Prop), T as h K → (ini as).length ≤ mNL M ∧ AW M (.inr (.inr (.inl K))) 0 (initL (mNL M) as) [] h 0 0) : CR own (.invokestatic idx) (n, mFr M + 1, 8 + (mNL M + 11) + mLo M, mMc M, mMs M, .inr (.inr (.inl T))) := by
  intro G p l e R s m args below meth c cc H locs kc ks Qf pc ls as rest h hx hb hml hown hts hr1 hr2 hr3 hr4 hK hW hst hlen hcat hdg
  intro K hk kk
  obtain ⟨hn, hA⟩ := hT as h K hk
  have hM := met_l hy ho hst hn hA l G
  refine va_calll (va_runS (As := as.map (cv G)) (rest := rest.map (cv G)) ⟨hx, hb, hml, hown, hts⟩ hM (va_cwS n hts (goodG (fun w hw => ?_)) rfl rfl rfl hd ⟨hr1, hr2⟩) ⟨mPc_blind G as h, Wd_pre hK hW as⟩ rfl (by rw [List.length_map]; exact hlen) rfl rfl (by show 2 * 0 + _ ≤ 8; rw [cats_map]; simpa using hcat) hdg ⟨hr3, hr4⟩) hW.2.2.2 (fun q _ h => h) (fun q h => h) (fun x u t H1 locs1 ht hvm hw hB hz hk hS1 => kk x u H1 locs1 hw.1 ⟨hB.1, by rw [← ht]; exact hB.2.1, hB.2.2, hS1⟩ hw.2)
  simp only [va_wsS, List.mem_append, List.mem_cons, List.not_mem_nil, or_false] at hw
  rcases hw with (rfl | rfl | rfl) | rfl | hw
  · exact hw1
  · exact hw2
  · exact hw3
  · exact hw4
  · exact hw
theorem crN_l {host : String} {own : String} {idx n : Nat} {y : MethodName} {M : MI} {T : List AV → AH → (Int64 → AH → Prop) → Prop} (hy : plainName y.cls = true) (ho : mOwn M = y.cls) (hw1 : Cond.methodLinkNest own idx y host ∈ nestW) (hw2 : Cond.static y ∈ lw_g) (hw3 : Cond.initialized y.cls ∈ lw_g) (hw4 : Cond.code y (mCC M) (mNL M) (some .long) ∈ lw_g) (hd : (y.cls ≠ "java/lang/invoke/MethodHandle" ∧ y.cls ≠ "java/lang/invoke/VarHandle" ∧ (parseMethodDescriptor y.desc).map (fun d => d.parameters.length) = some n)) (hT : ∀ (as : List AV) (h : AH) (K : Int64 → AH → Prop), T as h K → (ini as).length ≤ mNL M ∧ AW M (.inr (.inr (.inl K))) 0 (initL (mNL M) as) [] h 0 0) : CR own (.invokestatic idx) (n, mFr M + 1, 8 + (mNL M + 11) + mLo M, mMc M, mMs M, .inr (.inr (.inl T))) := by
  intro G p l e R s m args below meth c cc H locs kc ks Qf pc ls as rest h hx hb hml hown hts hr1 hr2 hr3 hr4 hK hW hst hlen hcat hdg
  intro K hk kk
  obtain ⟨hn, hA⟩ := hT as h K hk
  have hM := met_l hy ho hst hn hA l G
  refine va_calll (va_runSN (As := as.map (cv G)) (rest := rest.map (cv G)) ⟨hx, hb, hml, hown, hts⟩ hM ⟨va_cnB n hts (goodG (fun w hw => ?_)) rfl rfl rfl (hK.2.2 _ hw1) (hts _ hw3) hd ⟨hr1, hr2⟩, hts _ hw2, trivial⟩ ⟨mPc_blind G as h, Wd_pre hK hW as⟩ rfl (by rw [List.length_map]; exact hlen) rfl rfl (by show 2 * 0 + _ ≤ 8; rw [cats_map]; simpa using hcat) hdg ⟨hr3, hr4⟩) hW.2.2.2 (fun q _ h => h) (fun q h => h) (fun x u t H1 locs1 ht hvm hw hB hz hk hS1 => kk x u H1 locs1 hw.1 ⟨hB.1, by rw [← ht]; exact hB.2.1, hB.2.2, hS1⟩ hw.2)
  simp only [List.mem_cons] at hw
  rcases hw with rfl | hw
  · exact hw4
  · exact hw
theorem crV_l {t : Nat} {own : String} {idx n : Nat} {y : MethodName} {M : MI} {T : List AV → AH → (Int64 → AH → Prop) → Prop} (hy : plainName y.cls = true) (ho : mOwn M = y.cls) (ht : t ∈ [0, 1, 12, 15]) (hyC : y.cls = rcl t) (hw1 : Cond.methodLink own idx y ∈ lw_g) (hw2 : Cond.instanceMethod y ∈ lw_g) (hw3 : Cond.initialized (rcl t) ∈ lw_g) (hw5 : Cond.selects (rcl t) y y ∈ lw_g) (hw4 : Cond.code y (mCC M) (mNL M) (some .long) ∈ lw_g) (hd : (y.cls ≠ "java/lang/invoke/MethodHandle" ∧ y.cls ≠ "java/lang/invoke/VarHandle" ∧ (parseMethodDescriptor y.desc).map (fun d => d.parameters.length) = some n)) (hTr : ∀ (as : List AV) (h : AH) (K : Int64 → AH → Prop), T as h K → ∃ (q : Nat) (r : List AV), as = aR t q :: r) (hT : ∀ (as : List AV) (h : AH) (K : Int64 → AH → Prop), T as h K → (ini as).length ≤ mNL M ∧ AW M (.inr (.inr (.inl K))) 0 (initL (mNL M) as) [] h 0 0) : CR own (.invokevirtual idx) (n + 1, mFr M + 1, 8 + (mNL M + 11) + mLo M, mMc M, mMs M, .inr (.inr (.inl T))) := by
  intro G p l e R s m args below meth c cc H locs kc ks Qf pc ls as rest h hx hb hml hown hts hr1 hr2 hr3 hr4 hK hW hst hlen hcat hdg
  intro K hk kk
  obtain ⟨hn, hA⟩ := hT as h K hk
  obtain ⟨q0, as', rfl⟩ := hTr as h K hk
  have hM := met_l hy ho hst hn hA l G
  have hl2 : as'.length = n := Nat.succ.inj hlen
  have hst0 : ((aR t q0 :: as').map (cv G)).reverse ++ rest.map (cv G) = (as'.map (cv G)).reverse ++ Value.ref (adr G t q0) :: rest.map (cv G) := by
    rw [List.map_cons, List.reverse_cons, List.append_assoc]
    rfl
  rw [hst0]
  refine va_calll (va_runV (As := as'.map (cv G)) (rest := rest.map (cv G)) (C := rcl t) ⟨hx, hb, hml, hown, hts⟩ hM (cwV n hts (goodG (fun w hw => ?_)) rfl rfl rfl ⟨hyC, hd⟩ ⟨hr1, hr2⟩) ⟨mPc_blind G _ h, ob_recv hK hW (isob_4 ht) (okSt_h hst) (rcl_ok h q0 t ht), Wd_pre hK hW (aR t q0 :: as')⟩ rfl (by rw [List.length_map]; exact hl2) rfl rfl (by show 2 * 0 + _ ≤ 8; rw [cats_map]; simpa using hcat) hdg ⟨hr3, hr4⟩) hW.2.2.2 (fun q _ h => h) (fun q h => h) (fun x u t H1 locs1 ht hvm hw hB hz hk hS1 => kk x u H1 locs1 hw.1 ⟨hB.1, by rw [← ht]; exact hB.2.1, hB.2.2, hS1⟩ hw.2)
  simp only [wsV, List.mem_append, List.mem_cons, List.not_mem_nil, or_false] at hw
  rcases hw with (rfl | rfl | rfl | rfl) | rfl | hw
  · exact hw1
  · exact hw2
  · exact hw5
  · exact hw3
  · exact hw4
  · exact hw
theorem crS_q {own : String} {idx n : Nat} {y : MethodName} {M : MI} {T : List AV → AH → (Option Nat → AH → Prop) → Prop} (hy : plainName y.cls = true) (ho : mOwn M = y.cls) (hw1 : Cond.methodLink own idx y ∈ lw_g) (hw2 : Cond.static y ∈ lw_g) (hw3 : Cond.initialized y.cls ∈ lw_g) (hw4 : Cond.code y (mCC M) (mNL M) (some (.object RX4)) ∈ lw_g) (hd : (y.cls ≠ "java/lang/invoke/MethodHandle" ∧ y.cls ≠ "java/lang/invoke/VarHandle" ∧ (parseMethodDescriptor y.desc).map (fun d => d.parameters.length) = some n)) (hT : ∀ (as : List AV) (h : AH) (K : Option Nat → AH → Prop), T as h K → (ini as).length ≤ mNL M ∧ AW M (.inr (.inr (.inr K))) 0 (initL (mNL M) as) [] h 0 0) : CR own (.invokestatic idx) (n, mFr M + 1, 8 + (mNL M + 11) + mLo M, mMc M, mMs M, .inr (.inr (.inr T))) := by
  intro G p l e R s m args below meth c cc H locs kc ks Qf pc ls as rest h hx hb hml hown hts hr1 hr2 hr3 hr4 hK hW hst hlen hcat hdg
  intro K hk kk
  obtain ⟨hn, hA⟩ := hT as h K hk
  have hM := met_q hy ho hst hn hA l G
  refine va_callq (va_runS (As := as.map (cv G)) (rest := rest.map (cv G)) ⟨hx, hb, hml, hown, hts⟩ hM (va_cwS n hts (goodG (fun w hw => ?_)) rfl rfl rfl hd ⟨hr1, hr2⟩) ⟨mPc_blind G as h, Wd_pre hK hW as⟩ rfl (by rw [List.length_map]; exact hlen) rfl rfl (by show 2 * 0 + _ ≤ 8; rw [cats_map]; simpa using hcat) hdg ⟨hr3, hr4⟩) hW.2.2.2 (fun q _ h => h) (fun q h => h) (fun x u t H1 locs1 ht hvm hw hB hz hk hS1 => kk x u H1 locs1 hw.1.1 hw.1.2 ⟨hB.1, by rw [← ht]; exact hB.2.1, hB.2.2, hS1⟩ hw.2)
  simp only [va_wsS, List.mem_append, List.mem_cons, List.not_mem_nil, or_false] at hw
  rcases hw with (rfl | rfl | rfl) | rfl | hw
  · exact hw1
  · exact hw2
  · exact hw3
  · exact hw4
  · exact hw
theorem crN_q {host : String} {own : String} {idx n : Nat} {y : MethodName} {M : MI} {T : List AV → AH → (Option Nat → AH → Prop) → Prop} (hy : plainName y.cls = true) (ho : mOwn M = y.cls) (hw1 : Cond.methodLinkNest own idx y host ∈ nestW) (hw2 : Cond.static y ∈ lw_g) (hw3 : Cond.initialized y.cls ∈ lw_g) (hw4 : Cond.code y (mCC M) (mNL M) (some (.object RX4)) ∈ lw_g) (hd : (y.cls ≠ "java/lang/invoke/MethodHandle" ∧ y.cls ≠ "java/lang/invoke/VarHandle" ∧ (parseMethodDescriptor y.desc).map (fun d => d.parameters.length) = some n)) (hT : ∀ (as : List AV) (h : AH) (K : Option Nat → AH → Prop), T as h K → (ini as).length ≤ mNL M ∧ AW M (.inr (.inr (.inr K))) 0 (initL (mNL M) as) [] h 0 0) : CR own (.invokestatic idx) (n, mFr M + 1, 8 + (mNL M + 11) + mLo M, mMc M, mMs M, .inr (.inr (.inr T))) := by
  intro G p l e R s m args below meth c cc H locs kc ks Qf pc ls as rest h hx hb hml hown hts hr1 hr2 hr3 hr4 hK hW hst hlen hcat hdg
  intro K hk kk
  obtain ⟨hn, hA⟩ := hT as h K hk
  have hM := met_q hy ho hst hn hA l G
  refine va_callq (va_runSN (As := as.map (cv G)) (rest := rest.map (cv G)) ⟨hx, hb, hml, hown, hts⟩ hM ⟨va_cnB n hts (goodG (fun w hw => ?_)) rfl rfl rfl (hK.2.2 _ hw1) (hts _ hw3) hd ⟨hr1, hr2⟩, hts _ hw2, trivial⟩ ⟨mPc_blind G as h, Wd_pre hK hW as⟩ rfl (by rw [List.length_map]; exact hlen) rfl rfl (by show 2 * 0 + _ ≤ 8; rw [cats_map]; simpa using hcat) hdg ⟨hr3, hr4⟩) hW.2.2.2 (fun q _ h => h) (fun q h => h) (fun x u t H1 locs1 ht hvm hw hB hz hk hS1 => kk x u H1 locs1 hw.1.1 hw.1.2 ⟨hB.1, by rw [← ht]; exact hB.2.1, hB.2.2, hS1⟩ hw.2)
  simp only [List.mem_cons] at hw
  rcases hw with rfl | hw
  · exact hw4
  · exact hw
theorem crV_q {t : Nat} {own : String} {idx n : Nat} {y : MethodName} {M : MI} {T : List AV → AH → (Option Nat → AH → Prop) → Prop} (hy : plainName y.cls = true) (ho : mOwn M = y.cls) (ht : t ∈ [0, 1, 12, 15]) (hyC : y.cls = rcl t) (hw1 : Cond.methodLink own idx y ∈ lw_g) (hw2 : Cond.instanceMethod y ∈ lw_g) (hw3 : Cond.initialized (rcl t) ∈ lw_g) (hw5 : Cond.selects (rcl t) y y ∈ lw_g) (hw4 : Cond.code y (mCC M) (mNL M) (some (.object RX4)) ∈ lw_g) (hd : (y.cls ≠ "java/lang/invoke/MethodHandle" ∧ y.cls ≠ "java/lang/invoke/VarHandle" ∧ (parseMethodDescriptor y.desc).map (fun d => d.parameters.length) = some n)) (hTr : ∀ (as : List AV) (h : AH) (K : Option Nat → AH → Prop), T as h K → ∃ (q : Nat) (r : List AV), as = aR t q :: r) (hT : ∀ (as : List AV) (h : AH) (K : Option Nat → AH → Prop), T as h K → (ini as).length ≤ mNL M ∧ AW M (.inr (.inr (.inr K))) 0 (initL (mNL M) as) [] h 0 0) : CR own (.invokevirtual idx) (n + 1, mFr M + 1, 8 + (mNL M + 11) + mLo M, mMc M, mMs M, .inr (.inr (.inr T))) := by
  intro G p l e R s m args below meth c cc H locs kc ks Qf pc ls as rest h hx hb hml hown hts hr1 hr2 hr3 hr4 hK hW hst hlen hcat hdg
  intro K hk kk
  obtain ⟨hn, hA⟩ := hT as h K hk
  obtain ⟨q0, as', rfl⟩ := hTr as h K hk
  have hM := met_q hy ho hst hn hA l G
  have hl2 : as'.length = n := Nat.succ.inj hlen
  have hst0 : ((aR t q0 :: as').map (cv G)).reverse ++ rest.map (cv G) = (as'.map (cv G)).reverse ++ Value.ref (adr G t q0) :: rest.map (cv G) := by
    rw [List.map_cons, List.reverse_cons, List.append_assoc]
    rfl
  rw [hst0]
  refine va_callq (va_runV (As := as'.map (cv G)) (rest := rest.map (cv G)) (C := rcl t) ⟨hx, hb, hml, hown, hts⟩ hM (cwV n hts (goodG (fun w hw => ?_)) rfl rfl rfl ⟨hyC, hd⟩ ⟨hr1, hr2⟩) ⟨mPc_blind G _ h, ob_recv hK hW (isob_4 ht) (okSt_h hst) (rcl_ok h q0 t ht), Wd_pre hK hW (aR t q0 :: as')⟩ rfl (by rw [List.length_map]; exact hl2) rfl rfl (by show 2 * 0 + _ ≤ 8; rw [cats_map]; simpa using hcat) hdg ⟨hr3, hr4⟩) hW.2.2.2 (fun q _ h => h) (fun q h => h) (fun x u t H1 locs1 ht hvm hw hB hz hk hS1 => kk x u H1 locs1 hw.1.1 hw.1.2 ⟨hB.1, by rw [← ht]; exact hB.2.1, hB.2.2, hS1⟩ hw.2)
  simp only [wsV, List.mem_append, List.mem_cons, List.not_mem_nil, or_false] at hw
  rcases hw with (rfl | rfl | rfl | rfl) | rfl | hw
  · exact hw1
  · exact hw2
  · exact hw5
  · exact hw3
  · exact hw4
  · exact hw
def T_max : List AV → AH → (Int32 → AH → Prop) → Prop := fun as h K => match as with
  | [.inl x, .inl y] => K (if x < y then y else x) h
  | _ => False
theorem cr_max {own : String} {idx : Nat} (hw1 : Cond.methodLink own idx Lib.Math.max.name ∈ lw_g) : CR own (.invokestatic idx) (2, 1, 21, 0, 0, .inl T_max) := by
  intro G p l e R s m args below meth c cc H locs kc ks Qf pc ls as rest h hx hb hml hown hts hr1 hr2 hr3 hr4 hK hW hst hlen hcat hdg
  intro K hk kk
  match as, hk with
  | [.inl x, .inl y], hk =>
    exact va_mmax hx hb hml hown (hts _ hw1) (hts _ (by decide +kernel)) (hts _ (by decide +kernel)) (hts _ (by decide +kernel)) hr1 (by show (List.map (fun v => v.category) (List.map (cv G) rest)).sum + 13 ≤ R.locals; rw [cats_map]; have : 21 ≤ R.locals := hr2; omega) hr3 hr4 hdg (kk _ _ H locs hk hW (fun _ q => q))
def T_min : List AV → AH → (Int32 → AH → Prop) → Prop := fun as h K => match as with
  | [.inl x, .inl y] => K (if y < x then y else x) h
  | _ => False
theorem cr_min {own : String} {idx : Nat} (hw1 : Cond.methodLink own idx Lib.Math.min.name ∈ lw_g) : CR own (.invokestatic idx) (2, 1, 21, 0, 0, .inl T_min) := by
  intro G p l e R s m args below meth c cc H locs kc ks Qf pc ls as rest h hx hb hml hown hts hr1 hr2 hr3 hr4 hK hW hst hlen hcat hdg
  intro K hk kk
  match as, hk with
  | [.inl x, .inl y], hk =>
    exact va_mmin hx hb hml hown (hts _ hw1) (hts _ (by decide +kernel)) (hts _ (by decide +kernel)) (hts _ (by decide +kernel)) hr1 (by show (List.map (fun v => v.category) (List.map (cv G) rest)).sum + 13 ≤ R.locals; rw [cats_map]; have : 21 ≤ R.locals := hr2; omega) hr3 hr4 hdg (kk _ _ H locs hk hW (fun _ q => q))
/-- System.arraycopy over int arrays of the world -/
def T_acopy : List AV → AH → (AH → Prop) → Prop := fun as h K => match as with
  | [.inr (.inr (.inl q)), .inl sp, .inr (.inr (.inl w)), .inl dp, .inl n] => akin q.1 = 0 ∧ akin w.1 = 0 ∧ ¬ sp < 0 ∧ ¬ dp < 0 ∧ ¬ n < 0 ∧ sp.toNatClampNeg + n.toNatClampNeg ≤ alen q.1 ∧ dp.toNatClampNeg + n.toNatClampNeg ≤ alen w.1 ∧ K (uC h.1 q.1 q.2 sp.toNatClampNeg w.1 w.2 dp.toNatClampNeg n.toNatClampNeg, h.2)
  | _ => False
theorem cpy_uC (f : Nat → Nat → Nat → Int32) (t p sp t2 p2 dp n : Nat) : uC f t p sp t2 p2 dp n t2 p2 = va_cpy (f t p) (f t2 p2) sp dp n := by
  funext j
  unfold uC va_cpy
  by_cases h : dp ≤ j ∧ j < dp + n <;> simp [h]
theorem cr_acopy {own : String} {idx : Nat} (hw1 : Cond.methodLink own idx arraycopyName ∈ lw_g) : CR own (.invokestatic idx) (5, 1, 8 + (nativeFrameWords "java/lang/System" "arraycopy" 5 + 11), 0, 0, .inr (.inl T_acopy)) := by
  intro G p l e R s m args below meth c cc H locs kc ks Qf pc ls as rest h hx hb hml hown hts hr1 hr2 hr3 hr4 hK hW hst hlen hcat hdg
  intro K hk kk
  match as, hk, hst with
  | [.inr (.inr (.inl q)), .inl sp, .inr (.inr (.inl w)), .inl dp, .inl n], hk, hst =>
    obtain ⟨k1, k2, h1, h2, h3, h4, h5, hk⟩ := hk
    have hm1 : q ∈ fixed := okSt_h hst
    have hm2 : w ∈ fixed := okSt_h (okSt_t (okSt_t hst))
    obtain ⟨j1, hj1, hw1'⟩ := wl_get (G := G) (idx_fx (h := h) hm1)
    obtain ⟨j2, hj2, hw2⟩ := wl_get (G := G) (idx_fx (h := h) hm2)
    rw [cell_a0 k1] at hw1'
    rw [cell_a0 k2] at hw2
    obtain ⟨t1, ht1⟩ := ty_get (G := G) (t := q.1) (p := q.2) (ty := .int) hm1 (by unfold aty; rw [k1]; rfl)
    obtain ⟨t2, ht2⟩ := ty_get (G := G) (t := w.1) (p := w.2) (ty := .int) hm2 (by unfold aty; rw [k2]; rfl)
    have h18 : w.1 ≠ 18 := kin18 w.1 (fixed_mem.mp hm2).1 (by omega)
    refine va_copyi (D := (G.1, G.2.1)) (cl := classes) (rest := rest.map (cv G)) hx hb hml hown (hts _ hw1) (hts _ (by decide +kernel)) (hts _ (by decide +kernel)) (hts _ (by decide +kernel)) hK.1 hW.2.1 hW.2.2.1 hW.2.2.2 j1 j2 t1 t2 hw1' hw2 ht1 ht2 rfl h1 h2 h3 h4 h5 (fun i _ => rfl) hr1 (by rw [cats_map]; have : 8 + (nativeFrameWords "java/lang/System" "arraycopy" 5 + 11) ≤ R.locals := hr2; omega) hdg (fun H1 locs1 hP1 hD1 hS1 => kk _ H1 locs1 hk ?_ (fun _ q => q))
    have e1 : (wl G h).set j2 (adr G w.1 w.2, .inl (gac G w.1 w.2, alen w.1, .inl (va_cpy (h.1 q.1 q.2) (h.1 w.1 w.2) sp.toNatClampNeg dp.toNatClampNeg n.toNatClampNeg))) = wl G (uC h.1 q.1 q.2 sp.toNatClampNeg w.1 w.2 dp.toNatClampNeg n.toNatClampNeg, h.2) := by
      have e2 := wl_set (G := G) (h := h) (h' := (uC h.1 q.1 q.2 sp.toNatClampNeg w.1 w.2 dp.toNatClampNeg n.toNatClampNeg, h.2)) (q := w) rfl hj2 hW.2.2.1 (fun q' hq' => by unfold fW; rw [cell_uC h18 hq'])
      rw [← e2]
      unfold fW
      rw [cell_a0 k2]
      congr 3
      show _ = (_, _, Sum.inl (uC h.1 q.1 q.2 sp.toNatClampNeg w.1 w.2 dp.toNatClampNeg n.toNatClampNeg w.1 w.2))
      rw [cpy_uC]
    rw [e1] at hP1 hD1
    exact ⟨hW.1, hP1, hD1, hS1⟩
end
section
theorem inG {i : Nat} {w : Cond} (h : lw_tbl[i]? = some w) (hg : goodWord w = true) : w ∈ lw_g := List.mem_filter.mpr ⟨List.mem_of_getElem? h, hg⟩

theorem fl_RX9_9 : FOK RX9 (9, (1, 0, 1, 2, 0)) := ⟨rfl, rfl, inG (i := 74) (by decide +kernel) rfl⟩
theorem fl_RX10_63 : FOK RX10 (63, (1, 0, 1, 2, 0)) := ⟨rfl, rfl, inG (i := 75) (by decide +kernel) rfl⟩
theorem fl_RX9_15 : FOK RX9 (15, (1, 1, 1, 3, 0)) := ⟨rfl, rfl, inG (i := 76) (by decide +kernel) rfl⟩
theorem fl_RX10_66 : FOK RX10 (66, (1, 1, 1, 3, 0)) := ⟨rfl, rfl, inG (i := 77) (by decide +kernel) rfl⟩
theorem fl_RX9_18 : FOK RX9 (18, (1, 2, 1, 4, 0)) := ⟨rfl, rfl, inG (i := 78) (by decide +kernel) rfl⟩
theorem fl_RX10_69 : FOK RX10 (69, (1, 2, 1, 4, 0)) := ⟨rfl, rfl, inG (i := 79) (by decide +kernel) rfl⟩
theorem fl_RX9_21 : FOK RX9 (21, (1, 3, 1, 5, 0)) := ⟨rfl, rfl, inG (i := 80) (by decide +kernel) rfl⟩
theorem fl_RX10_111 : FOK RX10 (111, (1, 3, 1, 5, 0)) := ⟨rfl, rfl, inG (i := 81) (by decide +kernel) rfl⟩
theorem fl_RX9_52 : FOK RX9 (52, (1, 4, 0, 0, 0)) := ⟨rfl, rfl, inG (i := 82) (by decide +kernel) rfl⟩
theorem fl_RX10_72 : FOK RX10 (72, (1, 4, 0, 0, 0)) := ⟨rfl, rfl, inG (i := 83) (by decide +kernel) rfl⟩
theorem fl_RX9_24 : FOK RX9 (24, (1, 5, 1, 6, 0)) := ⟨rfl, rfl, inG (i := 84) (by decide +kernel) rfl⟩
theorem fl_RX10_75 : FOK RX10 (75, (1, 5, 1, 6, 0)) := ⟨rfl, rfl, inG (i := 85) (by decide +kernel) rfl⟩
theorem fl_RX9_27 : FOK RX9 (27, (1, 6, 1, 7, 0)) := ⟨rfl, rfl, inG (i := 86) (by decide +kernel) rfl⟩
theorem fl_RX10_78 : FOK RX10 (78, (1, 6, 1, 7, 0)) := ⟨rfl, rfl, inG (i := 87) (by decide +kernel) rfl⟩
theorem fl_RX9_30 : FOK RX9 (30, (1, 7, 1, 8, 0)) := ⟨rfl, rfl, inG (i := 88) (by decide +kernel) rfl⟩
theorem fl_RX10_81 : FOK RX10 (81, (1, 7, 1, 8, 0)) := ⟨rfl, rfl, inG (i := 89) (by decide +kernel) rfl⟩
theorem fl_RX9_33 : FOK RX9 (33, (1, 8, 1, 9, 0)) := ⟨rfl, rfl, inG (i := 90) (by decide +kernel) rfl⟩
theorem fl_RX10_84 : FOK RX10 (84, (1, 8, 1, 9, 0)) := ⟨rfl, rfl, inG (i := 91) (by decide +kernel) rfl⟩
theorem fl_RX9_55 : FOK RX9 (55, (1, 9, 0, 0, 0)) := ⟨rfl, rfl, inG (i := 92) (by decide +kernel) rfl⟩
theorem fl_RX10_125 : FOK RX10 (125, (1, 9, 0, 0, 0)) := ⟨rfl, rfl, inG (i := 93) (by decide +kernel) rfl⟩
theorem fl_RX9_38 : FOK RX9 (38, (1, 10, 1, 10, 0)) := ⟨rfl, rfl, inG (i := 94) (by decide +kernel) rfl⟩
theorem fl_RX10_149 : FOK RX10 (149, (1, 10, 1, 10, 0)) := ⟨rfl, rfl, inG (i := 95) (by decide +kernel) rfl⟩
theorem fl_RX9_42 : FOK RX9 (42, (1, 11, 0, 0, 0)) := ⟨rfl, rfl, inG (i := 96) (by decide +kernel) rfl⟩
theorem fl_RX10_135 : FOK RX10 (135, (1, 11, 0, 0, 0)) := ⟨rfl, rfl, inG (i := 97) (by decide +kernel) rfl⟩
theorem fl_RX9_58 : FOK RX9 (58, (1, 12, 0, 0, 0)) := ⟨rfl, rfl, inG (i := 98) (by decide +kernel) rfl⟩
theorem fl_RX10_132 : FOK RX10 (132, (1, 12, 0, 0, 0)) := ⟨rfl, rfl, inG (i := 99) (by decide +kernel) rfl⟩
theorem fl_RX5_15 : FOK RX5 (15, (12, 0, 2, 0, 0)) := ⟨rfl, rfl, inG (i := 135) (by decide +kernel) rfl⟩
theorem fl_RX10_117 : FOK RX10 (117, (12, 0, 2, 0, 0)) := ⟨rfl, rfl, inG (i := 136) (by decide +kernel) rfl⟩
theorem fl_RX5_19 : FOK RX5 (19, (12, 1, 3, 0, 0)) := ⟨rfl, rfl, inG (i := 137) (by decide +kernel) rfl⟩
theorem fl_RX10_253 : FOK RX10 (253, (12, 1, 3, 0, 0)) := ⟨rfl, rfl, inG (i := 138) (by decide +kernel) rfl⟩
theorem fl_RX5_27 : FOK RX5 (27, (12, 2, 0, 0, 0)) := ⟨rfl, rfl, inG (i := 139) (by decide +kernel) rfl⟩
theorem fl_RX10_264 : FOK RX10 (264, (12, 2, 0, 0, 0)) := ⟨rfl, rfl, inG (i := 140) (by decide +kernel) rfl⟩
theorem fl_RX10_45 : FOK RX10 (45, (12, 3, 0, 0, 0)) := ⟨rfl, rfl, inG (i := 141) (by decide +kernel) rfl⟩
theorem fl_RX5_23 : FOK RX5 (23, (12, 3, 0, 0, 0)) := ⟨rfl, rfl, inG (i := 142) (by decide +kernel) rfl⟩
theorem fl_RX5_9 : FOK RX5 (9, (12, 4, 1, 13, 0)) := ⟨rfl, rfl, inG (i := 143) (by decide +kernel) rfl⟩
theorem fl_RX10_49 : FOK RX10 (49, (12, 4, 1, 13, 0)) := ⟨rfl, rfl, inG (i := 144) (by decide +kernel) rfl⟩
theorem fl_RX10_10 : FOK RX10 (10, (0, 0, 1, 1, 0)) := ⟨rfl, rfl, inG (i := 156) (by decide +kernel) rfl⟩
theorem fl_RX10_16 : FOK RX10 (16, (0, 1, 1, 1, 1)) := ⟨rfl, rfl, inG (i := 157) (by decide +kernel) rfl⟩
theorem fl_RX10_19 : FOK RX10 (19, (0, 2, 1, 1, 2)) := ⟨rfl, rfl, inG (i := 158) (by decide +kernel) rfl⟩
theorem fl_RX10_223 : FOK RX10 (223, (0, 3, 3, 0, 0)) := ⟨rfl, rfl, inG (i := 159) (by decide +kernel) rfl⟩
theorem fl_RX10_24 : FOK RX10 (24, (0, 4, 1, 11, 0)) := ⟨rfl, rfl, inG (i := 160) (by decide +kernel) rfl⟩
theorem fl_RX10_28 : FOK RX10 (28, (0, 5, 1, 14, 0)) := ⟨rfl, rfl, inG (i := 161) (by decide +kernel) rfl⟩
theorem fl_RX10_91 : FOK RX10 (91, (18, 0, 0, 0, 0)) := ⟨rfl, rfl, inG (i := 248) (by decide +kernel) rfl⟩
theorem fl_RX10_96 : FOK RX10 (96, (18, 1, 0, 0, 0)) := ⟨rfl, rfl, inG (i := 254) (by decide +kernel) rfl⟩
theorem fl_RX10_99 : FOK RX10 (99, (18, 2, 0, 0, 0)) := ⟨rfl, rfl, inG (i := 266) (by decide +kernel) rfl⟩
theorem fl_RX9_72 : FOK RX9 (72, (18, 2, 0, 0, 0)) := ⟨rfl, rfl, inG (i := 267) (by decide +kernel) rfl⟩
theorem fl_RX10_102 : FOK RX10 (102, (18, 3, 0, 0, 0)) := ⟨rfl, rfl, inG (i := 279) (by decide +kernel) rfl⟩
theorem fl_RX9_87 : FOK RX9 (87, (18, 3, 0, 0, 0)) := ⟨rfl, rfl, inG (i := 280) (by decide +kernel) rfl⟩
theorem fl_RX10_105 : FOK RX10 (105, (18, 4, 0, 0, 0)) := ⟨rfl, rfl, inG (i := 292) (by decide +kernel) rfl⟩
theorem fl_RX9_69 : FOK RX9 (69, (18, 4, 0, 0, 0)) := ⟨rfl, rfl, inG (i := 293) (by decide +kernel) rfl⟩
theorem fl_RX10_108 : FOK RX10 (108, (18, 5, 0, 0, 0)) := ⟨rfl, rfl, inG (i := 309) (by decide +kernel) rfl⟩
theorem fl_RX9_126 : FOK RX9 (126, (18, 5, 0, 0, 0)) := ⟨rfl, rfl, inG (i := 310) (by decide +kernel) rfl⟩
theorem fl_RX10_273 : FOK RX10 (273, (18, 6, 0, 0, 0)) := ⟨rfl, rfl, inG (i := 326) (by decide +kernel) rfl⟩
theorem fl_RX11_9 : FOK RX11 (9, (15, 0, 1, 16, 0)) := ⟨rfl, rfl, inG (i := 914) (by decide +kernel) rfl⟩
theorem fl_RX11_13 : FOK RX11 (13, (15, 1, 1, 16, 1)) := ⟨rfl, rfl, inG (i := 915) (by decide +kernel) rfl⟩
theorem fl_RX11_16 : FOK RX11 (16, (15, 2, 1, 16, 2)) := ⟨rfl, rfl, inG (i := 916) (by decide +kernel) rfl⟩
theorem fl_RX11_19 : FOK RX11 (19, (15, 3, 1, 16, 3)) := ⟨rfl, rfl, inG (i := 917) (by decide +kernel) rfl⟩
theorem fl_RX11_22 : FOK RX11 (22, (15, 4, 1, 16, 4)) := ⟨rfl, rfl, inG (i := 918) (by decide +kernel) rfl⟩
theorem fl_RX11_241 : FOK RX11 (241, (15, 5, 3, 0, 0)) := ⟨rfl, rfl, inG (i := 919) (by decide +kernel) rfl⟩
theorem fl_RX11_102 : FOK RX11 (102, (15, 6, 0, 0, 0)) := ⟨rfl, rfl, inG (i := 920) (by decide +kernel) rfl⟩
theorem fl_RX11_109 : FOK RX11 (109, (15, 7, 0, 0, 0)) := ⟨rfl, rfl, inG (i := 921) (by decide +kernel) rfl⟩
theorem fl_RX11_106 : FOK RX11 (106, (15, 8, 0, 0, 0)) := ⟨rfl, rfl, inG (i := 922) (by decide +kernel) rfl⟩
theorem fl_RX11_25 : FOK RX11 (25, (15, 9, 1, 19, 0)) := ⟨rfl, rfl, inG (i := 923) (by decide +kernel) rfl⟩
theorem fl_RX11_172 : FOK RX11 (172, (15, 10, 0, 0, 0)) := ⟨rfl, rfl, inG (i := 924) (by decide +kernel) rfl⟩
theorem fl_RX11_184 : FOK RX11 (184, (15, 11, 0, 0, 0)) := ⟨rfl, rfl, inG (i := 925) (by decide +kernel) rfl⟩
theorem fl_RX11_187 : FOK RX11 (187, (15, 12, 0, 0, 0)) := ⟨rfl, rfl, inG (i := 926) (by decide +kernel) rfl⟩
theorem fl_RX11_28 : FOK RX11 (28, (15, 13, 1, 17, 0)) := ⟨rfl, rfl, inG (i := 927) (by decide +kernel) rfl⟩
theorem fl_RX11_32 : FOK RX11 (32, (15, 14, 1, 20, 0)) := ⟨rfl, rfl, inG (i := 928) (by decide +kernel) rfl⟩
theorem fl_RX11_232 : FOK RX11 (232, (15, 15, 0, 0, 0)) := ⟨rfl, rfl, inG (i := 929) (by decide +kernel) rfl⟩
theorem fl_RX11_35 : FOK RX11 (35, (15, 16, 1, 21, 0)) := ⟨rfl, rfl, inG (i := 930) (by decide +kernel) rfl⟩
theorem fl_RX11_38 : FOK RX11 (38, (15, 17, 1, 21, 1)) := ⟨rfl, rfl, inG (i := 931) (by decide +kernel) rfl⟩
theorem fl_RX11_41 : FOK RX11 (41, (15, 18, 1, 21, 2)) := ⟨rfl, rfl, inG (i := 932) (by decide +kernel) rfl⟩
theorem fl_RX11_44 : FOK RX11 (44, (15, 19, 1, 21, 3)) := ⟨rfl, rfl, inG (i := 933) (by decide +kernel) rfl⟩
theorem fl_RX11_47 : FOK RX11 (47, (15, 20, 1, 21, 4)) := ⟨rfl, rfl, inG (i := 934) (by decide +kernel) rfl⟩
theorem fl_RX11_50 : FOK RX11 (50, (15, 21, 1, 22, 0)) := ⟨rfl, rfl, inG (i := 935) (by decide +kernel) rfl⟩
theorem fl_RX11_245 : FOK RX11 (245, (15, 22, 0, 0, 0)) := ⟨rfl, rfl, inG (i := 936) (by decide +kernel) rfl⟩
end
section
/-! ===== a valley as numbers ===== -/
abbrev Vm : Type := Nat → Nat → Nat
def uV (V : Vm) (t i x : Nat) : Vm := fun a j => if a = t ∧ j = i then x else V a j
/-- where a number of the valley stands in the reference's row -/
def ro (t i : Nat) : Nat := match t with
  | 0 => 4 + 3 * i + 0
  | 1 => 4 + 3 * i + 1
  | 2 => 4 + 3 * i + 2
  | 3 => 44 + i
  | 4 => 28 + 4 * i + 0
  | 5 => 28 + 4 * i + 1
  | 6 => 28 + 4 * i + 2
  | 7 => 28 + 4 * i + 3
  | 8 => 48 + 2 * i
  | 9 => 48 + 2 * i + 1
  | _ => i
def vLim (V : Vm) (t : Nat) : Nat := match t with
  | 0 => 8
  | 1 => 8
  | 2 => 8
  | 3 => 4
  | 4 => V 10 0
  | 5 => V 10 0
  | 6 => V 10 0
  | 7 => V 10 0
  | 8 => V 10 1
  | 9 => V 10 1
  | 10 => 4
  | _ => 0
def RV (r : Nat → Int32) (V : Vm) : Prop := ∀ t i, i < vLim V t → r (ro t i) = nI (V t i)
def WF (V : Vm) : Prop := V 10 0 ≤ 4 ∧ V 10 1 ≤ 7 ∧ V 10 2 < 24 ∧ V 10 3 ≤ 1 ∧ (∀ c, c < 8 → V 0 c ≤ 9 ∧ V 1 c ≤ 9 ∧ V 2 c ≤ 9) ∧ (∀ e, e < V 10 0 → V 4 e ≤ 30 ∧ V 5 e ≤ 9 ∧ V 6 e ≤ 3 ∧ V 7 e ≤ 9) ∧ ∀ s, s < V 10 1 → V 8 s ≤ 7 ∧ V 9 s ≤ 9
def wt (k f : Nat) : Nat := if k = 1 ∨ k = 4 ∨ k = 6 then 3 + f else if k = 2 then 10 + f else if k = 3 then 18 + f else if k = 5 then 20 + 2 * f else if k = 7 then 2 else 6 + f
def stk (k f : Nat) : Nat := if k = 1 ∨ k = 6 then f / 3 else if k = 2 ∨ k = 3 then 3 + f / 3 else if k = 5 then 6 + 2 * (f / 3) else if k = 7 then 0 else 1 + f / 3
def fly (k : Nat) : Nat := if k = 1 ∨ k = 4 then 6 else if k = 2 ∨ k = 3 then 3 else if k = 5 then 2 else if k = 6 ∨ k = 7 then 7 else 4
def prc (k f : Nat) : Nat := if k = 1 then 3 else if k = 2 then 5 + f else if k = 3 then 25 + f else if k = 4 then 4 else if k = 5 then 10 + 2 * f else if k = 6 then 0 else if k = 7 then 1 else 5
def cstk (k f : Nat) : Nat := if k = 1 then 2 else if k = 2 then 3 + f else if k = 3 then 6 + 2 * f else if k = 4 then 6 else if k = 5 then 4 + f else if k = 6 ∨ k = 7 then 1 else 3
abbrev vWt (V : Vm) (s : Nat) : Nat := wt (V 8 s) (V 9 s)
abbrev vSt (V : Vm) (s : Nat) : Nat := stk (V 8 s) (V 9 s)
abbrev vFl (V : Vm) (s : Nat) : Nat := fly (V 8 s)
abbrev vPr (V : Vm) (s : Nat) : Nat := prc (V 8 s) (V 9 s)
theorem wt_le {k f : Nat} (h : f ≤ 9) : wt k f ≤ 38 := by unfold wt; (repeat' split) <;> omega
theorem stk_le {k f : Nat} (h : f ≤ 9) : stk k f ≤ 12 := by unfold stk; (repeat' split) <;> omega
theorem fly_le (k : Nat) : fly k ≤ 7 := by unfold fly; (repeat' split) <;> omega
theorem prc_le {k f : Nat} (h : f ≤ 9) : prc k f ≤ 34 := by unfold prc; (repeat' split) <;> omega
/-! ===== numbers ===== -/
theorem n_le {a b : Nat} (ha : a < 2147483648) (hb : b < 2147483648) : nI a ≤ nI b ↔ a ≤ b := nI_leI ha hb
theorem n_lt {a b : Nat} (ha : a < 2147483648) (hb : b < 2147483648) : nI a < nI b ↔ a < b := nI_ltI ha hb
theorem n_eq {a b : Nat} (ha : a < 2147483648) (hb : b < 2147483648) : nI a = nI b ↔ a = b := nI_eq ha hb
theorem n_cl {a : Nat} (ha : a < 2147483648) : (nI a).toNatClampNeg = a := nI_clamp ha
theorem n_in {a n : Nat} (h : a < n) (hn : n < 2147483648) : inR (nI a) n := vp_in_iff.mp (vp_in_nI h hn)
theorem n_0 : (0 : Int32) = nI 0 := rfl
theorem n_1 : (1 : Int32) = nI 1 := rfl
theorem n_div {a d : Nat} (ha : a < 2147483648) (h0 : 0 < d) (hd : d < 2147483648) : nI a / nI d = nI (a / d) := pk_div ha h0 hd
theorem n_rem {a d : Nat} (ha : a < 2147483648) (h0 : 0 < d) (hd : d < 2147483648) : nI a - nI a / nI d * nI d = nI (a % d) := pk_rem ha h0 hd
theorem n_sub {a b : Nat} (h : b ≤ a) : nI a - nI b = nI (a - b) := pk_sub h
/-- an int that is not negative and at most n -/
theorem n_of {x : Int32} {n : Nat} (hn : n < 2147483648) (h0 : nI 0 ≤ x) (h1 : x ≤ nI n) : ∃ k, k ≤ n ∧ x = nI k := by
  have h0 : ¬ x < 0 := by
    intro hx
    have h2 : (nI 0).toInt ≤ x.toInt := Int32.le_iff_toInt_le.mp h0
    have h3 : x.toInt < (0 : Int32).toInt := Int32.lt_iff_toInt_lt.mp hx
    have : (nI 0).toInt = (0 : Int32).toInt := rfl
    omega
  obtain ⟨j, hj, e⟩ := nI_of h0
  subst e
  exact ⟨j, (n_le hj hn).mp h1, rfl⟩
theorem n_neg {x : Int32} {k : Nat} (hk : k < 2147483648) (h : ¬ nI 0 ≤ x) : x ≠ nI k ∧ ¬ nI k ≤ x := by
  have h2 : ¬ (nI 0).toInt ≤ x.toInt := fun q => h (Int32.le_iff_toInt_le.mpr q)
  have h0 : (nI 0).toInt = 0 := nI_toInt (by decide)
  have hk2 : (nI k).toInt = k := nI_toInt hk
  constructor
  · intro e
    rw [e, hk2, h0] at h2
    omega
  · intro e
    have := Int32.le_iff_toInt_le.mp e
    rw [hk2] at this
    rw [h0] at h2
    omega
theorem n00 : nI 0 = 0 := rfl
theorem n11 : nI 1 = 1 := rfl
theorem n_inT {a n : Nat} (h : a < n) (hn : n < 2147483648) : inR (nI a) n = True := eq_true (n_in h hn)
theorem n_eq0 {a : Nat} (ha : a < 2147483648) : (nI a = 0) = (a = 0) := propext (n_eq (b := 0) ha (by omega))
theorem n_eq1 {a : Nat} (ha : a < 2147483648) : (nI a = 1) = (a = 1) := propext (n_eq (b := 1) ha (by omega))
theorem n_lt0 {a : Nat} (ha : a < 2147483648) : (nI a < 0) = False := eq_false (fun q => by have := (n_lt (b := 0) ha (by omega)).mp q; omega)
theorem n_ge0 {a : Nat} (ha : a < 2147483648) : (0 ≤ nI a) = True := eq_true ((n_le (a := 0) (by omega) ha).mpr (by omega))
theorem n_gt0 {a : Nat} (ha : a < 2147483648) : (0 < nI a) = (0 < a) := propext (n_lt (a := 0) (by omega) ha)
theorem n_le0 {a : Nat} (ha : a < 2147483648) : (nI a ≤ 0) = (a = 0) := propext ((n_le (b := 0) ha (by omega)).trans (by omega))
theorem n_toInt {a : Nat} (ha : a < 2147483648) : (nI a).toInt = (a : Int) := nI_toInt ha
/-- small negative numbers -/
theorem m_lt {a : Int} (h : -2147483648 ≤ a) (h2 : a < 0) : iI a < 0 := by
  rw [Int32.lt_iff_toInt_lt, Int32.toInt_ofInt_of_le (by omega) (by omega)]
  exact h2
theorem m_ne {a : Int} {k : Nat} (h : -2147483648 ≤ a) (h2 : a < 0) (hk : k < 2147483648) : (nI k = iI a) = False := eq_false (fun e => by
  have h3 := m_lt h h2
  rw [← e, n_lt0 hk] at h3
  exact h3)
/-! ===== the world's reads behind writes ===== -/
theorem wI_get (h : AH) (t p i : Nat) (x : Int32) (a b j : Nat) : (wI h t p i x).1 a b j = if a = t ∧ b = p ∧ j = i then x else h.1 a b j := rfl
theorem wI_at (h : AH) (t p i : Nat) (x : Int32) : (wI h t p i x).1 t p i = x := by rw [wI_get, if_pos ⟨rfl, rfl, rfl⟩]
theorem wI_ni {h : AH} {t p i : Nat} {x : Int32} {a b j : Nat} (hn : j ≠ i) : (wI h t p i x).1 a b j = h.1 a b j := by rw [wI_get, if_neg (fun e => hn e.2.2)]
theorem wI_nt {h : AH} {t p i : Nat} {x : Int32} {a b j : Nat} (hn : a ≠ t) : (wI h t p i x).1 a b j = h.1 a b j := by rw [wI_get, if_neg (fun e => hn e.1)]
theorem wI_np {h : AH} {t p i : Nat} {x : Int32} {a b j : Nat} (hn : b ≠ p) : (wI h t p i x).1 a b j = h.1 a b j := by rw [wI_get, if_neg (fun e => hn e.2.1)]
theorem wR_get (h : AH) (t p i : Nat) (x : Option Nat) (a b j : Nat) : (wR h t p i x).2.1 a b j = if a = t ∧ b = p ∧ j = i then x else h.2.1 a b j := rfl
/-- only the array (t, p) is another -/
def only (t p : Nat) (h h' : AH) : Prop := h'.2 = h.2 ∧ ∀ a b, ¬ (a = t ∧ b = p) → h'.1 a b = h.1 a b
theorem only_rfl (t p : Nat) (h : AH) : only t p h h := ⟨rfl, fun _ _ _ => rfl⟩
theorem only_tr {t p : Nat} {h h1 h2 : AH} (a : only t p h h1) (b : only t p h1 h2) : only t p h h2 := ⟨b.1.trans a.1, fun x y q => (b.2 x y q).trans (a.2 x y q)⟩
theorem only_wI (t p i : Nat) (x : Int32) (h : AH) : only t p h (wI h t p i x) := ⟨rfl, fun a b q => uI_ne (fun e => q ⟨(Prod.mk.inj e).1, (Prod.mk.inj e).2⟩)⟩
/-! ===== rows that hold a valley ===== -/
theorem uV_at (V : Vm) (t i x : Nat) : uV V t i x t i = x := by unfold uV; rw [if_pos ⟨rfl, rfl⟩]
theorem uV_ne {V : Vm} {t i x a j : Nat} (h : ¬ (a = t ∧ j = i)) : uV V t i x a j = V a j := by unfold uV; rw [if_neg h]
theorem vLim_u {V : Vm} {t i x : Nat} (h : t ≠ 10 ∨ 2 ≤ i) (a : Nat) : vLim (uV V t i x) a = vLim V a := by
  unfold vLim
  rw [uV_ne (by omega), uV_ne (by omega)]
theorem vLim_c {V V' : Vm} (h0 : V' 10 0 = V 10 0) (h1 : V' 10 1 = V 10 1) (a : Nat) : vLim V' a = vLim V a := by
  unfold vLim
  rw [h0, h1]
theorem ro_inj {V : Vm} (h4 : V 10 0 ≤ 4) (h7 : V 10 1 ≤ 7) {t i a j : Nat} (hi : i < vLim V t) (hj : j < vLim V a) (e : ro t i = ro a j) : t = a ∧ i = j := by
  have ht : t ≤ 10 := by
    rcases Nat.lt_or_ge 10 t with h | h
    · unfold vLim at hi; split at hi <;> omega
    · exact h
  have ha : a ≤ 10 := by
    rcases Nat.lt_or_ge 10 a with h | h
    · unfold vLim at hj; split at hj <;> omega
    · exact h
  match t, ht, a, ha with
  | 0, _, 0, _ => simp only [ro, vLim] at hi hj e; omega
  | 0, _, 1, _ => simp only [ro, vLim] at hi hj e; omega
  | 0, _, 2, _ => simp only [ro, vLim] at hi hj e; omega
  | 0, _, 3, _ => simp only [ro, vLim] at hi hj e; omega
  | 0, _, 4, _ => simp only [ro, vLim] at hi hj e; omega
  | 0, _, 5, _ => simp only [ro, vLim] at hi hj e; omega
  | 0, _, 6, _ => simp only [ro, vLim] at hi hj e; omega
  | 0, _, 7, _ => simp only [ro, vLim] at hi hj e; omega
  | 0, _, 8, _ => simp only [ro, vLim] at hi hj e; omega
  | 0, _, 9, _ => simp only [ro, vLim] at hi hj e; omega
  | 0, _, 10, _ => simp only [ro, vLim] at hi hj e; omega
  | 1, _, 0, _ => simp only [ro, vLim] at hi hj e; omega
  | 1, _, 1, _ => simp only [ro, vLim] at hi hj e; omega
  | 1, _, 2, _ => simp only [ro, vLim] at hi hj e; omega
  | 1, _, 3, _ => simp only [ro, vLim] at hi hj e; omega
  | 1, _, 4, _ => simp only [ro, vLim] at hi hj e; omega
  | 1, _, 5, _ => simp only [ro, vLim] at hi hj e; omega
  | 1, _, 6, _ => simp only [ro, vLim] at hi hj e; omega
  | 1, _, 7, _ => simp only [ro, vLim] at hi hj e; omega
  | 1, _, 8, _ => simp only [ro, vLim] at hi hj e; omega
  | 1, _, 9, _ => simp only [ro, vLim] at hi hj e; omega
  | 1, _, 10, _ => simp only [ro, vLim] at hi hj e; omega
  | 2, _, 0, _ => simp only [ro, vLim] at hi hj e; omega
  | 2, _, 1, _ => simp only [ro, vLim] at hi hj e; omega
  | 2, _, 2, _ => simp only [ro, vLim] at hi hj e; omega
  | 2, _, 3, _ => simp only [ro, vLim] at hi hj e; omega
  | 2, _, 4, _ => simp only [ro, vLim] at hi hj e; omega
  | 2, _, 5, _ => simp only [ro, vLim] at hi hj e; omega
  | 2, _, 6, _ => simp only [ro, vLim] at hi hj e; omega
  | 2, _, 7, _ => simp only [ro, vLim] at hi hj e; omega
  | 2, _, 8, _ => simp only [ro, vLim] at hi hj e; omega
  | 2, _, 9, _ => simp only [ro, vLim] at hi hj e; omega
  | 2, _, 10, _ => simp only [ro, vLim] at hi hj e; omega
  | 3, _, 0, _ => simp only [ro, vLim] at hi hj e; omega
  | 3, _, 1, _ => simp only [ro, vLim] at hi hj e; omega
  | 3, _, 2, _ => simp only [ro, vLim] at hi hj e; omega
  | 3, _, 3, _ => simp only [ro, vLim] at hi hj e; omega
  | 3, _, 4, _ => simp only [ro, vLim] at hi hj e; omega
  | 3, _, 5, _ => simp only [ro, vLim] at hi hj e; omega
  | 3, _, 6, _ => simp only [ro, vLim] at hi hj e; omega
  | 3, _, 7, _ => simp only [ro, vLim] at hi hj e; omega
  | 3, _, 8, _ => simp only [ro, vLim] at hi hj e; omega
  | 3, _, 9, _ => simp only [ro, vLim] at hi hj e; omega
  | 3, _, 10, _ => simp only [ro, vLim] at hi hj e; omega
  | 4, _, 0, _ => simp only [ro, vLim] at hi hj e; omega
  | 4, _, 1, _ => simp only [ro, vLim] at hi hj e; omega
  | 4, _, 2, _ => simp only [ro, vLim] at hi hj e; omega
  | 4, _, 3, _ => simp only [ro, vLim] at hi hj e; omega
  | 4, _, 4, _ => simp only [ro, vLim] at hi hj e; omega
  | 4, _, 5, _ => simp only [ro, vLim] at hi hj e; omega
  | 4, _, 6, _ => simp only [ro, vLim] at hi hj e; omega
  | 4, _, 7, _ => simp only [ro, vLim] at hi hj e; omega
  | 4, _, 8, _ => simp only [ro, vLim] at hi hj e; omega
  | 4, _, 9, _ => simp only [ro, vLim] at hi hj e; omega
  | 4, _, 10, _ => simp only [ro, vLim] at hi hj e; omega
  | 5, _, 0, _ => simp only [ro, vLim] at hi hj e; omega
  | 5, _, 1, _ => simp only [ro, vLim] at hi hj e; omega
  | 5, _, 2, _ => simp only [ro, vLim] at hi hj e; omega
  | 5, _, 3, _ => simp only [ro, vLim] at hi hj e; omega
  | 5, _, 4, _ => simp only [ro, vLim] at hi hj e; omega
  | 5, _, 5, _ => simp only [ro, vLim] at hi hj e; omega
  | 5, _, 6, _ => simp only [ro, vLim] at hi hj e; omega
  | 5, _, 7, _ => simp only [ro, vLim] at hi hj e; omega
  | 5, _, 8, _ => simp only [ro, vLim] at hi hj e; omega
  | 5, _, 9, _ => simp only [ro, vLim] at hi hj e; omega
  | 5, _, 10, _ => simp only [ro, vLim] at hi hj e; omega
  | 6, _, 0, _ => simp only [ro, vLim] at hi hj e; omega
  | 6, _, 1, _ => simp only [ro, vLim] at hi hj e; omega
  | 6, _, 2, _ => simp only [ro, vLim] at hi hj e; omega
  | 6, _, 3, _ => simp only [ro, vLim] at hi hj e; omega
  | 6, _, 4, _ => simp only [ro, vLim] at hi hj e; omega
  | 6, _, 5, _ => simp only [ro, vLim] at hi hj e; omega
  | 6, _, 6, _ => simp only [ro, vLim] at hi hj e; omega
  | 6, _, 7, _ => simp only [ro, vLim] at hi hj e; omega
  | 6, _, 8, _ => simp only [ro, vLim] at hi hj e; omega
  | 6, _, 9, _ => simp only [ro, vLim] at hi hj e; omega
  | 6, _, 10, _ => simp only [ro, vLim] at hi hj e; omega
  | 7, _, 0, _ => simp only [ro, vLim] at hi hj e; omega
  | 7, _, 1, _ => simp only [ro, vLim] at hi hj e; omega
  | 7, _, 2, _ => simp only [ro, vLim] at hi hj e; omega
  | 7, _, 3, _ => simp only [ro, vLim] at hi hj e; omega
  | 7, _, 4, _ => simp only [ro, vLim] at hi hj e; omega
  | 7, _, 5, _ => simp only [ro, vLim] at hi hj e; omega
  | 7, _, 6, _ => simp only [ro, vLim] at hi hj e; omega
  | 7, _, 7, _ => simp only [ro, vLim] at hi hj e; omega
  | 7, _, 8, _ => simp only [ro, vLim] at hi hj e; omega
  | 7, _, 9, _ => simp only [ro, vLim] at hi hj e; omega
  | 7, _, 10, _ => simp only [ro, vLim] at hi hj e; omega
  | 8, _, 0, _ => simp only [ro, vLim] at hi hj e; omega
  | 8, _, 1, _ => simp only [ro, vLim] at hi hj e; omega
  | 8, _, 2, _ => simp only [ro, vLim] at hi hj e; omega
  | 8, _, 3, _ => simp only [ro, vLim] at hi hj e; omega
  | 8, _, 4, _ => simp only [ro, vLim] at hi hj e; omega
  | 8, _, 5, _ => simp only [ro, vLim] at hi hj e; omega
  | 8, _, 6, _ => simp only [ro, vLim] at hi hj e; omega
  | 8, _, 7, _ => simp only [ro, vLim] at hi hj e; omega
  | 8, _, 8, _ => simp only [ro, vLim] at hi hj e; omega
  | 8, _, 9, _ => simp only [ro, vLim] at hi hj e; omega
  | 8, _, 10, _ => simp only [ro, vLim] at hi hj e; omega
  | 9, _, 0, _ => simp only [ro, vLim] at hi hj e; omega
  | 9, _, 1, _ => simp only [ro, vLim] at hi hj e; omega
  | 9, _, 2, _ => simp only [ro, vLim] at hi hj e; omega
  | 9, _, 3, _ => simp only [ro, vLim] at hi hj e; omega
  | 9, _, 4, _ => simp only [ro, vLim] at hi hj e; omega
  | 9, _, 5, _ => simp only [ro, vLim] at hi hj e; omega
  | 9, _, 6, _ => simp only [ro, vLim] at hi hj e; omega
  | 9, _, 7, _ => simp only [ro, vLim] at hi hj e; omega
  | 9, _, 8, _ => simp only [ro, vLim] at hi hj e; omega
  | 9, _, 9, _ => simp only [ro, vLim] at hi hj e; omega
  | 9, _, 10, _ => simp only [ro, vLim] at hi hj e; omega
  | 10, _, 0, _ => simp only [ro, vLim] at hi hj e; omega
  | 10, _, 1, _ => simp only [ro, vLim] at hi hj e; omega
  | 10, _, 2, _ => simp only [ro, vLim] at hi hj e; omega
  | 10, _, 3, _ => simp only [ro, vLim] at hi hj e; omega
  | 10, _, 4, _ => simp only [ro, vLim] at hi hj e; omega
  | 10, _, 5, _ => simp only [ro, vLim] at hi hj e; omega
  | 10, _, 6, _ => simp only [ro, vLim] at hi hj e; omega
  | 10, _, 7, _ => simp only [ro, vLim] at hi hj e; omega
  | 10, _, 8, _ => simp only [ro, vLim] at hi hj e; omega
  | 10, _, 9, _ => simp only [ro, vLim] at hi hj e; omega
  | 10, _, 10, _ => simp only [ro, vLim] at hi hj e; omega
theorem RV_set {h : AH} {p : Nat} {V : Vm} (hw : WF V) (hr : RV (h.1 16 p) V) {t i x : Nat} (ht : t ≠ 10 ∨ 2 ≤ i) (hi : i < vLim V t) : RV ((wI h 16 p (ro t i) (nI x)).1 16 p) (uV V t i x) := by
  intro a j hj
  rw [vLim_u ht] at hj
  by_cases e : a = t ∧ j = i
  · obtain ⟨rfl, rfl⟩ := e
    rw [wI_at, uV_at]
  · rw [uV_ne e, wI_ni (fun q => e (ro_inj hw.1 hw.2.1 hj hi q)), hr a j hj]
theorem RV_c {r : Nat → Int32} {V V' : Vm} (hr : RV r V) (h0 : V' 10 0 = V 10 0) (h1 : V' 10 1 = V 10 1) (hc : ∀ t i, i < vLim V t → V' t i = V t i) : RV r V' := by
  intro t i hi
  rw [vLim_c h0 h1] at hi
  rw [hc t i hi]
  exact hr t i hi
theorem RVs {r : Nat → Int32} {V : Vm} (hr : RV r V) : (∀ c, c < 8 → r (4 + 3 * c + 0) = nI (V 0 c)) ∧ (∀ c, c < 8 → r (4 + 3 * c + 1) = nI (V 1 c)) ∧ (∀ c, c < 8 → r (4 + 3 * c + 2) = nI (V 2 c)) ∧ (∀ n, n < 4 → r (44 + n) = nI (V 3 n)) ∧ (∀ e, e < V 10 0 → r (28 + 4 * e + 0) = nI (V 4 e)) ∧ (∀ e, e < V 10 0 → r (28 + 4 * e + 1) = nI (V 5 e)) ∧ (∀ e, e < V 10 0 → r (28 + 4 * e + 2) = nI (V 6 e)) ∧ (∀ e, e < V 10 0 → r (28 + 4 * e + 3) = nI (V 7 e)) ∧ (∀ s, s < V 10 1 → r (48 + 2 * s) = nI (V 8 s)) ∧ (∀ s, s < V 10 1 → r (48 + 2 * s + 1) = nI (V 9 s)) ∧ r 0 = nI (V 10 0) ∧ r 1 = nI (V 10 1) ∧ r 2 = nI (V 10 2) ∧ r 3 = nI (V 10 3) :=
  ⟨fun c q => hr 0 c q, fun c q => hr 1 c q, fun c q => hr 2 c q, fun c q => hr 3 c q, fun c q => hr 4 c q, fun c q => hr 5 c q, fun c q => hr 6 c q, fun c q => hr 7 c q, fun c q => hr 8 c q, fun c q => hr 9 c q, hr 10 0 (show 0 < 4 by decide), hr 10 1 (show 1 < 4 by decide), hr 10 2 (show 2 < 4 by decide), hr 10 3 (show 3 < 4 by decide)⟩
/-! ===== throws and waits ===== -/
abbrev noonV (V : Vm) : Prop := 11 ≤ V 10 2 ∧ V 10 2 ≤ 13
abbrev eat (V : Vm) (s c : Nat) : Prop := vWt V s / 2 < V 2 c ∧ ¬ noonV V
abbrev cap (V : Vm) (w e : Nat) : Prop := w ≤ V 4 e + V 5 e ∧ V 7 e < 5
def car (V : Vm) (w : Nat) : Nat → Option Nat
  | 0 => none
  | n + 1 => match car V w n with
    | none => if cap V w n then some n else none
    | some p => if cap V w n ∧ V 5 p < V 5 n then some n else some p
theorem car_lt {V : Vm} {w : Nat} : ∀ {n p : Nat}, car V w n = some p → p < n ∧ cap V w p
  | 0, p, h => by cases h
  | n + 1, p, h => by
    unfold car at h
    split at h
    · split at h
      · cases h; exact ⟨by omega, by assumption⟩
      · cases h
    · rename_i q hq
      have := car_lt hq
      split at h
      · rename_i hc; cases h; exact ⟨by omega, hc.1⟩
      · cases h; exact ⟨by omega, this.2⟩
theorem car_no {V : Vm} {w n : Nat} (h : ¬ cap V w n) : car V w (n + 1) = car V w n := by
  rw [car]
  split
  · rename_i e; rw [if_neg h, e]
  · rename_i p e; rw [if_neg (fun z => h z.1), e]
theorem car_new {V : Vm} {w n : Nat} (h : cap V w n) (e : car V w n = none) : car V w (n + 1) = some n := by
  rw [car, e]
  simp only [if_pos h]
theorem car_gt {V : Vm} {w n p : Nat} (h : cap V w n) (e : car V w n = some p) (hg : V 5 p < V 5 n) : car V w (n + 1) = some n := by
  rw [car, e]
  simp only [if_pos (And.intro h hg)]
theorem car_le {V : Vm} {w n p : Nat} (e : car V w n = some p) (hg : V 5 n ≤ V 5 p) : car V w (n + 1) = some p := by
  rw [car, e]
  simp only [if_neg (fun z : cap V w n ∧ V 5 p < V 5 n => absurd z.2 (by omega))]
def tak (V : Vm) (s c : Nat) : Option Nat := if eat V s c then none else car V (vWt V s) (V 10 0)
theorem tak_lt {V : Vm} {s c p : Nat} (h : tak V s c = some p) : p < V 10 0 := by
  unfold tak at h
  split at h
  · cases h
  · exact (car_lt h).1
def oI (o : Option Nat) : Int32 := match o with
  | none => iI (-4)
  | some e => nI e
def sB (V : Vm) (s c : Nat) : Nat := min (vSt V s) (V 0 c)
def sS (V : Vm) (s c : Nat) : Nat := min (vSt V s - sB V s c) (V 1 c)
def wor (V : Vm) (s c : Nat) : Nat := 5 * sB V s c + sS V s c
def brg (V : Vm) (s c : Nat) : Nat := match tak V s c with
  | none => 0
  | some _ => wor V s c
def thr (V : Vm) (s c : Nat) : Vm := match tak V s c with
  | none => fun t i => if t = 5 then min 9 (V 5 i + 1) else if t = 10 ∧ i = 2 then (V 10 2 + 1) % 24 else V t i
  | some e => fun t i => if t = 0 ∧ i = c then V 0 c - sB V s c else if t = 1 ∧ i = c then V 1 c - sS V s c else if t = 3 ∧ i = V 6 e then V 3 i + wor V s c else if t = 5 then (if i = e ∧ V 10 3 ≠ 1 then V 5 e - vWt V s / 3 else min 9 (V 5 i + 1)) else if t = 7 ∧ i = e then (if V 10 3 = 1 then min 9 (V 7 e + 1) else V 7 e - 1) else if t = 10 ∧ i = 2 then (V 10 2 + 1) % 24 else V t i
def wai (V : Vm) (k : Nat) : Vm := fun t i => if t = 5 then min 9 (V 5 i + k / 4) else if t = 10 ∧ i = 2 then (V 10 2 + k) % 24 else V t i
end
section
/-! ===== the reference's small methods ===== -/
def S_X11_isIn (v a b : Int32) (h : AH) (K : Int32 → AH → Prop) : Prop := K (if a ≤ v ∧ v ≤ b then nI 1 else nI 0) h
def T_X11_isIn : List AV → AH → (Int32 → AH → Prop) → Prop := fun as h K => match as with
  | [.inl q0, .inl q1, .inl q2] => S_X11_isIn q0 q1 q2 h K
  | _ => False

def M_X11_isIn : MI := (RX11, cX11_isIn, 3, [(0, .iload_n 0, []), (1, .iload_n 1, []), (2, .if_icmp .lt 12, [14]), (5, .iload_n 0, []), (6, .iload_n 2, []), (7, .if_icmp .gt 7, [14]), (10, .iconst 1, []), (11, .goto 4, [15]), (14, .iconst 0, []), (15, .ireturn, [])], [], [], [], [], 0, 0, 0, 0)
theorem ok_X11_isIn : MOK M_X11_isIn := ⟨by decide +kernel, fun _ h => absurd h List.not_mem_nil, fun _ h => absurd h List.not_mem_nil, fun _ h => absurd h List.not_mem_nil, fun _ h => absurd h List.not_mem_nil⟩
theorem vc_X11_isIn {K : Int32 → AH → Prop} {h : AH} (p0 : Int32) (p1 : Int32) (p2 : Int32) (H : ((p0 < p1) → (((nI 0) = 0 ∨ (nI 0) = 1) ∧ K (nI 0) h)) ∧ (¬ (p0 < p1) → ((p2 < p0) → (((nI 0) = 0 ∨ (nI 0) = 1) ∧ K (nI 0) h)) ∧ (¬ (p2 < p0) → (((nI 1) = 0 ∨ (nI 1) = 1) ∧ K (nI 1) h)))) : AW M_X11_isIn (.inl (fun x u => (x = 0 ∨ x = 1) ∧ K x u)) 0 [some (aI p0), some (aI p1), some (aI p2)] [] h 0 0 := AW_go (cuts := []) ok_X11_isIn 400 H

theorem snd_X11_isIn (v a b : Int32) {h : AH} {K : Int32 → AH → Prop} (k : S_X11_isIn v a b h K) : AW M_X11_isIn (.inl (fun x u => (x = 0 ∨ x = 1) ∧ K x u)) 0 [some (aI v), some (aI a), some (aI b)] [] h 0 0 := by
  refine vc_X11_isIn v a b ?_
  unfold S_X11_isIn at k
  grind [n00, n11]
theorem tw_X11_isIn : ∀ (as : List AV) (h : AH) (K : Int32 → AH → Prop), T_X11_isIn as h K → (ini as).length ≤ mNL M_X11_isIn ∧ AW M_X11_isIn (.inl (fun x u => (x = 0 ∨ x = 1) ∧ K x u)) 0 (initL (mNL M_X11_isIn) as) [] h 0 0 := by
  intro as h K hk
  match as, hk with
  | [.inl q0, .inl q1, .inl q2], hk =>
    exact ⟨Nat.le_of_ble_eq_true rfl, snd_X11_isIn q0 q1 q2 hk⟩
theorem cr_RX11_160 : CR RX11 (kIns 160) (3, 1, 22, 0, 0, .inl T_X11_isIn) := crS_z (M := M_X11_isIn) (by decide) rfl (inG (i := 996) (w := Cond.methodLink RX11 53 yX11_isIn) (by decide +kernel) rfl) (inG (i := 997) (w := Cond.static yX11_isIn) (by decide +kernel) rfl) (inG (i := 40) (w := Cond.initialized RX11) (by decide +kernel) rfl) (inG (i := 998) (w := Cond.code yX11_isIn cX11_isIn 3 (some .boolean)) (by decide +kernel) rfl) ⟨by decide +kernel, by decide +kernel, by decide +kernel⟩ tw_X11_isIn

def S_X11_least (a b : Int32) (h : AH) (K : Int32 → AH → Prop) : Prop := K (if a < b then a else b) h
def T_X11_least : List AV → AH → (Int32 → AH → Prop) → Prop := fun as h K => match as with
  | [.inl q0, .inl q1] => S_X11_least q0 q1 h K
  | _ => False

def M_X11_least : MI := (RX11, cX11_least, 2, [(0, .iload_n 0, []), (1, .iload_n 1, []), (2, .if_icmp .ge 7, [9]), (5, .iload_n 0, []), (6, .goto 4, [10]), (9, .iload_n 1, []), (10, .ireturn, [])], [], [], [], [], 0, 0, 0, 0)
theorem ok_X11_least : MOK M_X11_least := ⟨by decide +kernel, fun _ h => absurd h List.not_mem_nil, fun _ h => absurd h List.not_mem_nil, fun _ h => absurd h List.not_mem_nil, fun _ h => absurd h List.not_mem_nil⟩
theorem vc_X11_least {K : Int32 → AH → Prop} {h : AH} (p0 : Int32) (p1 : Int32) (H : ((p1 ≤ p0) → K p1 h) ∧ (¬ (p1 ≤ p0) → K p0 h)) : AW M_X11_least (.inl K) 0 [some (aI p0), some (aI p1)] [] h 0 0 := AW_go (cuts := []) ok_X11_least 400 H

theorem snd_X11_least (a b : Int32) {h : AH} {K : Int32 → AH → Prop} (k : S_X11_least a b h K) : AW M_X11_least (.inl K) 0 [some (aI a), some (aI b)] [] h 0 0 := by
  refine vc_X11_least a b ?_
  unfold S_X11_least at k
  grind
theorem tw_X11_least : ∀ (as : List AV) (h : AH) (K : Int32 → AH → Prop), T_X11_least as h K → (ini as).length ≤ mNL M_X11_least ∧ AW M_X11_least (.inl K) 0 (initL (mNL M_X11_least) as) [] h 0 0 := by
  intro as h K hk
  match as, hk with
  | [.inl q0, .inl q1], hk =>
    exact ⟨Nat.le_of_ble_eq_true rfl, snd_X11_least q0 q1 hk⟩
theorem cr_RX11_256 : CR RX11 (kIns 256) (2, 1, 21, 0, 0, .inl T_X11_least) := crS_i (M := M_X11_least) (by decide) rfl (inG (i := 1037) (w := Cond.methodLink RX11 85 yX11_least) (by decide +kernel) rfl) (inG (i := 1038) (w := Cond.static yX11_least) (by decide +kernel) rfl) (inG (i := 40) (w := Cond.initialized RX11) (by decide +kernel) rfl) (inG (i := 1039) (w := Cond.code yX11_least cX11_least 2 (some .int)) (by decide +kernel) rfl) ⟨by decide +kernel, by decide +kernel, by decide +kernel⟩ tw_X11_least

def S_X11_most (a b : Int32) (h : AH) (K : Int32 → AH → Prop) : Prop := K (if b < a then a else b) h
def T_X11_most : List AV → AH → (Int32 → AH → Prop) → Prop := fun as h K => match as with
  | [.inl q0, .inl q1] => S_X11_most q0 q1 h K
  | _ => False

def M_X11_most : MI := (RX11, cX11_most, 2, [(0, .iload_n 0, []), (1, .iload_n 1, []), (2, .if_icmp .le 7, [9]), (5, .iload_n 0, []), (6, .goto 4, [10]), (9, .iload_n 1, []), (10, .ireturn, [])], [], [], [], [], 0, 0, 0, 0)
theorem ok_X11_most : MOK M_X11_most := ⟨by decide +kernel, fun _ h => absurd h List.not_mem_nil, fun _ h => absurd h List.not_mem_nil, fun _ h => absurd h List.not_mem_nil, fun _ h => absurd h List.not_mem_nil⟩
theorem vc_X11_most {K : Int32 → AH → Prop} {h : AH} (p0 : Int32) (p1 : Int32) (H : ((p0 ≤ p1) → K p1 h) ∧ (¬ (p0 ≤ p1) → K p0 h)) : AW M_X11_most (.inl K) 0 [some (aI p0), some (aI p1)] [] h 0 0 := AW_go (cuts := []) ok_X11_most 400 H

theorem snd_X11_most (a b : Int32) {h : AH} {K : Int32 → AH → Prop} (k : S_X11_most a b h K) : AW M_X11_most (.inl K) 0 [some (aI a), some (aI b)] [] h 0 0 := by
  refine vc_X11_most a b ?_
  unfold S_X11_most at k
  grind
theorem tw_X11_most : ∀ (as : List AV) (h : AH) (K : Int32 → AH → Prop), T_X11_most as h K → (ini as).length ≤ mNL M_X11_most ∧ AW M_X11_most (.inl K) 0 (initL (mNL M_X11_most) as) [] h 0 0 := by
  intro as h K hk
  match as, hk with
  | [.inl q0, .inl q1], hk =>
    exact ⟨Nat.le_of_ble_eq_true rfl, snd_X11_most q0 q1 hk⟩
theorem cr_RX11_265 : CR RX11 (kIns 265) (2, 1, 21, 0, 0, .inl T_X11_most) := crS_i (M := M_X11_most) (by decide) rfl (inG (i := 1040) (w := Cond.methodLink RX11 88 yX11_most) (by decide +kernel) rfl) (inG (i := 1041) (w := Cond.static yX11_most) (by decide +kernel) rfl) (inG (i := 40) (w := Cond.initialized RX11) (by decide +kernel) rfl) (inG (i := 1042) (w := Cond.code yX11_most cX11_most 2 (some .int)) (by decide +kernel) rfl) ⟨by decide +kernel, by decide +kernel, by decide +kernel⟩ tw_X11_most

def S_X11_atCell (c w : Int32) (h : AH) (K : Int32 → AH → Prop) : Prop := K (nI 4 + nI 3 * c + w) h
def T_X11_atCell : List AV → AH → (Int32 → AH → Prop) → Prop := fun as h K => match as with
  | [.inl q0, .inl q1] => S_X11_atCell q0 q1 h K
  | _ => False

def M_X11_atCell : MI := (RX11, cX11_atCell, 2, [(0, .iconst 4, []), (1, .iconst 3, []), (2, .iload_n 0, []), (3, .imul, []), (4, .iadd, []), (5, .iload_n 1, []), (6, .iadd, []), (7, .ireturn, [])], [], [], [], [], 0, 0, 0, 0)
theorem ok_X11_atCell : MOK M_X11_atCell := ⟨by decide +kernel, fun _ h => absurd h List.not_mem_nil, fun _ h => absurd h List.not_mem_nil, fun _ h => absurd h List.not_mem_nil, fun _ h => absurd h List.not_mem_nil⟩
theorem vc_X11_atCell {K : Int32 → AH → Prop} {h : AH} (p0 : Int32) (p1 : Int32) (H : K (((nI 4) + ((nI 3) * p0)) + p1) h) : AW M_X11_atCell (.inl K) 0 [some (aI p0), some (aI p1)] [] h 0 0 := AW_go (cuts := []) ok_X11_atCell 400 H

theorem snd_X11_atCell (c w : Int32) {h : AH} {K : Int32 → AH → Prop} (k : S_X11_atCell c w h K) : AW M_X11_atCell (.inl K) 0 [some (aI c), some (aI w)] [] h 0 0 := vc_X11_atCell c w k
theorem tw_X11_atCell : ∀ (as : List AV) (h : AH) (K : Int32 → AH → Prop), T_X11_atCell as h K → (ini as).length ≤ mNL M_X11_atCell ∧ AW M_X11_atCell (.inl K) 0 (initL (mNL M_X11_atCell) as) [] h 0 0 := by
  intro as h K hk
  match as, hk with
  | [.inl q0, .inl q1], hk =>
    exact ⟨Nat.le_of_ble_eq_true rfl, snd_X11_atCell q0 q1 hk⟩
theorem cr_RX11_193 : CR RX11 (kIns 193) (2, 1, 21, 0, 0, .inl T_X11_atCell) := crS_i (M := M_X11_atCell) (by decide) rfl (inG (i := 1021) (w := Cond.methodLink RX11 64 yX11_atCell) (by decide +kernel) rfl) (inG (i := 1022) (w := Cond.static yX11_atCell) (by decide +kernel) rfl) (inG (i := 40) (w := Cond.initialized RX11) (by decide +kernel) rfl) (inG (i := 1023) (w := Cond.code yX11_atCell cX11_atCell 2 (some .int)) (by decide +kernel) rfl) ⟨by decide +kernel, by decide +kernel, by decide +kernel⟩ tw_X11_atCell

def S_X11_atEagle (c w : Int32) (h : AH) (K : Int32 → AH → Prop) : Prop := K (nI 28 + nI 4 * c + w) h
def T_X11_atEagle : List AV → AH → (Int32 → AH → Prop) → Prop := fun as h K => match as with
  | [.inl q0, .inl q1] => S_X11_atEagle q0 q1 h K
  | _ => False

def M_X11_atEagle : MI := (RX11, cX11_atEagle, 2, [(0, .bipush 28, []), (2, .iconst 4, []), (3, .iload_n 0, []), (4, .imul, []), (5, .iadd, []), (6, .iload_n 1, []), (7, .iadd, []), (8, .ireturn, [])], [], [], [], [], 0, 0, 0, 0)
theorem ok_X11_atEagle : MOK M_X11_atEagle := ⟨by decide +kernel, fun _ h => absurd h List.not_mem_nil, fun _ h => absurd h List.not_mem_nil, fun _ h => absurd h List.not_mem_nil, fun _ h => absurd h List.not_mem_nil⟩
theorem vc_X11_atEagle {K : Int32 → AH → Prop} {h : AH} (p0 : Int32) (p1 : Int32) (H : K (((nI 28) + ((nI 4) * p0)) + p1) h) : AW M_X11_atEagle (.inl K) 0 [some (aI p0), some (aI p1)] [] h 0 0 := AW_go (cuts := []) ok_X11_atEagle 400 H

theorem snd_X11_atEagle (c w : Int32) {h : AH} {K : Int32 → AH → Prop} (k : S_X11_atEagle c w h K) : AW M_X11_atEagle (.inl K) 0 [some (aI c), some (aI w)] [] h 0 0 := vc_X11_atEagle c w k
theorem tw_X11_atEagle : ∀ (as : List AV) (h : AH) (K : Int32 → AH → Prop), T_X11_atEagle as h K → (ini as).length ≤ mNL M_X11_atEagle ∧ AW M_X11_atEagle (.inl K) 0 (initL (mNL M_X11_atEagle) as) [] h 0 0 := by
  intro as h K hk
  match as, hk with
  | [.inl q0, .inl q1], hk =>
    exact ⟨Nat.le_of_ble_eq_true rfl, snd_X11_atEagle q0 q1 hk⟩
theorem cr_RX11_226 : CR RX11 (kIns 226) (2, 1, 21, 0, 0, .inl T_X11_atEagle) := crS_i (M := M_X11_atEagle) (by decide) rfl (inG (i := 1024) (w := Cond.methodLink RX11 75 yX11_atEagle) (by decide +kernel) rfl) (inG (i := 1025) (w := Cond.static yX11_atEagle) (by decide +kernel) rfl) (inG (i := 40) (w := Cond.initialized RX11) (by decide +kernel) rfl) (inG (i := 1026) (w := Cond.code yX11_atEagle cX11_atEagle 2 (some .int)) (by decide +kernel) rfl) ⟨by decide +kernel, by decide +kernel, by decide +kernel⟩ tw_X11_atEagle

def S_X11_kind (j : Nat) (a : Int32) (h : AH) (K : Int32 → AH → Prop) : Prop := ∃ n, n < 7 ∧ a = nI n ∧ K (h.1 16 j (48 + 2 * n)) h
def T_X11_kind : List AV → AH → (Int32 → AH → Prop) → Prop := fun as h K => match as with
  | [.inr (.inr (.inl q0)), .inl q1] => tif (Nat.beq q0.1 16) (S_X11_kind q0.2 q1 h K)
  | _ => False

def M_X11_kind : MI := (RX11, cX11_kind, 2, [(0, .aload_n 0, []), (1, .bipush 48, []), (3, .iconst 2, []), (4, .iload_n 1, []), (5, .imul, []), (6, .iadd, []), (7, .iaload, []), (8, .ireturn, [])], [], [], [], [], 0, 0, 0, 0)
theorem ok_X11_kind : MOK M_X11_kind := ⟨by decide +kernel, fun _ h => absurd h List.not_mem_nil, fun _ h => absurd h List.not_mem_nil, fun _ h => absurd h List.not_mem_nil, fun _ h => absurd h List.not_mem_nil⟩
theorem vc_X11_kind {K : Int32 → AH → Prop} {h : AH} (p0 : Nat) (p1 : Int32) (H : inR ((nI 48) + ((nI 2) * p1)) 62 ∧ K (h.1 16 p0 ((nI 48) + ((nI 2) * p1)).toNatClampNeg) h) : AW M_X11_kind (.inl K) 0 [some (aR 16 p0), some (aI p1)] [] h 0 0 := AW_go (cuts := []) ok_X11_kind 400 H

theorem snd_X11_kind (j : Nat) (a : Int32) {h : AH} {K : Int32 → AH → Prop} (k : S_X11_kind j a h K) : AW M_X11_kind (.inl K) 0 [some (aR 16 j), some (aI a)] [] h 0 0 := by
  refine vc_X11_kind j a ?_
  obtain ⟨n, hn, rfl, k⟩ := k
  simp (disch := omega) only [pk_mul, nI_add, n_inT, n_cl, true_and]
  exact k
theorem tw_X11_kind : ∀ (as : List AV) (h : AH) (K : Int32 → AH → Prop), T_X11_kind as h K → (ini as).length ≤ mNL M_X11_kind ∧ AW M_X11_kind (.inl K) 0 (initL (mNL M_X11_kind) as) [] h 0 0 := by
  intro as h K hk
  match as, hk with
  | [.inr (.inr (.inl q0)), .inl q1], hk =>
    obtain ⟨hb, hk⟩ := tif_inv hk
    have e0 := hb
    obtain ⟨a0, b0⟩ := q0
    have f0 : a0 = 16 := Nat.eq_of_beq_eq_true e0
    subst f0
    exact ⟨Nat.le_of_ble_eq_true rfl, snd_X11_kind b0 q1 hk⟩
theorem cr_RX11_184 : CR RX11 (kIns 184) (2, 1, 21, 0, 0, .inl T_X11_kind) := crS_i (M := M_X11_kind) (by decide) rfl (inG (i := 1050) (w := Cond.methodLink RX11 61 yX11_kind) (by decide +kernel) rfl) (inG (i := 1051) (w := Cond.static yX11_kind) (by decide +kernel) rfl) (inG (i := 40) (w := Cond.initialized RX11) (by decide +kernel) rfl) (inG (i := 1052) (w := Cond.code yX11_kind cX11_kind 2 (some .int)) (by decide +kernel) rfl) ⟨by decide +kernel, by decide +kernel, by decide +kernel⟩ tw_X11_kind

def S_X11_figure (j : Nat) (a : Int32) (h : AH) (K : Int32 → AH → Prop) : Prop := ∃ n, n < 7 ∧ a = nI n ∧ K (h.1 16 j (48 + 2 * n + 1)) h
def T_X11_figure : List AV → AH → (Int32 → AH → Prop) → Prop := fun as h K => match as with
  | [.inr (.inr (.inl q0)), .inl q1] => tif (Nat.beq q0.1 16) (S_X11_figure q0.2 q1 h K)
  | _ => False

def M_X11_figure : MI := (RX11, cX11_figure, 2, [(0, .aload_n 0, []), (1, .bipush 48, []), (3, .iconst 2, []), (4, .iload_n 1, []), (5, .imul, []), (6, .iadd, []), (7, .iconst 1, []), (8, .iadd, []), (9, .iaload, []), (10, .ireturn, [])], [], [], [], [], 0, 0, 0, 0)
theorem ok_X11_figure : MOK M_X11_figure := ⟨by decide +kernel, fun _ h => absurd h List.not_mem_nil, fun _ h => absurd h List.not_mem_nil, fun _ h => absurd h List.not_mem_nil, fun _ h => absurd h List.not_mem_nil⟩
theorem vc_X11_figure {K : Int32 → AH → Prop} {h : AH} (p0 : Nat) (p1 : Int32) (H : inR (((nI 48) + ((nI 2) * p1)) + (nI 1)) 62 ∧ K (h.1 16 p0 (((nI 48) + ((nI 2) * p1)) + (nI 1)).toNatClampNeg) h) : AW M_X11_figure (.inl K) 0 [some (aR 16 p0), some (aI p1)] [] h 0 0 := AW_go (cuts := []) ok_X11_figure 400 H

theorem snd_X11_figure (j : Nat) (a : Int32) {h : AH} {K : Int32 → AH → Prop} (k : S_X11_figure j a h K) : AW M_X11_figure (.inl K) 0 [some (aR 16 j), some (aI a)] [] h 0 0 := by
  refine vc_X11_figure j a ?_
  obtain ⟨n, hn, rfl, k⟩ := k
  simp (disch := omega) only [pk_mul, nI_add, n_inT, n_cl, true_and]
  exact k
theorem tw_X11_figure : ∀ (as : List AV) (h : AH) (K : Int32 → AH → Prop), T_X11_figure as h K → (ini as).length ≤ mNL M_X11_figure ∧ AW M_X11_figure (.inl K) 0 (initL (mNL M_X11_figure) as) [] h 0 0 := by
  intro as h K hk
  match as, hk with
  | [.inr (.inr (.inl q0)), .inl q1], hk =>
    obtain ⟨hb, hk⟩ := tif_inv hk
    have e0 := hb
    obtain ⟨a0, b0⟩ := q0
    have f0 : a0 = 16 := Nat.eq_of_beq_eq_true e0
    subst f0
    exact ⟨Nat.le_of_ble_eq_true rfl, snd_X11_figure b0 q1 hk⟩
theorem cr_RX11_172 : CR RX11 (kIns 172) (2, 1, 21, 0, 0, .inl T_X11_figure) := crS_i (M := M_X11_figure) (by decide) rfl (inG (i := 1065) (w := Cond.methodLink RX11 57 yX11_figure) (by decide +kernel) rfl) (inG (i := 1066) (w := Cond.static yX11_figure) (by decide +kernel) rfl) (inG (i := 40) (w := Cond.initialized RX11) (by decide +kernel) rfl) (inG (i := 1067) (w := Cond.code yX11_figure cX11_figure 2 (some .int)) (by decide +kernel) rfl) ⟨by decide +kernel, by decide +kernel, by decide +kernel⟩ tw_X11_figure

def S_X11_isCell (c : Int32) (h : AH) (K : Int32 → AH → Prop) : Prop := K (if nI 0 ≤ c ∧ c ≤ nI 7 then nI 1 else nI 0) h
def T_X11_isCell : List AV → AH → (Int32 → AH → Prop) → Prop := fun as h K => match as with
  | [.inl q0] => S_X11_isCell q0 h K
  | _ => False

def M_X11_isCell : MI := (RX11, cX11_isCell, 1, [(0, .iload_n 0, []), (1, .iconst 0, []), (2, .bipush 7, []), (4, .invokestatic 53, []), (7, .ireturn, [])], [], [], [], [(160, (3, 1, 22, 0, 0, .inl T_X11_isIn))], 1, 22, 0, 0)
theorem ok_X11_isCell : MOK M_X11_isCell := ⟨by decide +kernel, fun _ h => absurd h List.not_mem_nil, fun _ h => absurd h List.not_mem_nil, fun _ h => absurd h List.not_mem_nil, List.forall_mem_cons.mpr ⟨⟨Nat.le_of_ble_eq_true rfl, Nat.le_of_ble_eq_true rfl, cr_RX11_160⟩, fun _ h => absurd h List.not_mem_nil⟩⟩
theorem vc_X11_isCell {K : Int32 → AH → Prop} {h : AH} (p0 : Int32) (H : S_X11_isIn p0 (nI 0) (nI 7) h (fun x2 h1 => ((x2 = 0 ∨ x2 = 1) ∧ K x2 h1))) : AW M_X11_isCell (.inl (fun x u => (x = 0 ∨ x = 1) ∧ K x u)) 0 [some (aI p0)] [] h 0 0 := AW_go (cuts := []) ok_X11_isCell 400 H

theorem z01 {p : Prop} [Decidable p] : ((if p then nI 1 else nI 0) = 0 ∨ (if p then nI 1 else nI 0) = 1) := by
  split
  · exact Or.inr rfl
  · exact Or.inl rfl
theorem snd_X11_isCell (c : Int32) {h : AH} {K : Int32 → AH → Prop} (k : S_X11_isCell c h K) : AW M_X11_isCell (.inl (fun x u => (x = 0 ∨ x = 1) ∧ K x u)) 0 [some (aI c)] [] h 0 0 := vc_X11_isCell c ⟨z01, k⟩
theorem tw_X11_isCell : ∀ (as : List AV) (h : AH) (K : Int32 → AH → Prop), T_X11_isCell as h K → (ini as).length ≤ mNL M_X11_isCell ∧ AW M_X11_isCell (.inl (fun x u => (x = 0 ∨ x = 1) ∧ K x u)) 0 (initL (mNL M_X11_isCell) as) [] h 0 0 := by
  intro as h K hk
  match as, hk with
  | [.inl q0], hk =>
    exact ⟨Nat.le_of_ble_eq_true rfl, snd_X11_isCell q0 hk⟩
theorem cr_RX11_361 : CR RX11 (kIns 361) (1, 2, 42, 0, 0, .inl T_X11_isCell) := crS_z (M := M_X11_isCell) (by decide) rfl (inG (i := 1018) (w := Cond.methodLink RX11 120 yX11_isCell) (by decide +kernel) rfl) (inG (i := 1019) (w := Cond.static yX11_isCell) (by decide +kernel) rfl) (inG (i := 40) (w := Cond.initialized RX11) (by decide +kernel) rfl) (inG (i := 1020) (w := Cond.code yX11_isCell cX11_isCell 1 (some .boolean)) (by decide +kernel) rfl) ⟨by decide +kernel, by decide +kernel, by decide +kernel⟩ tw_X11_isCell

def S_X11_isShelf (c : Int32) (h : AH) (K : Int32 → AH → Prop) : Prop := K (if nI 0 ≤ c ∧ c ≤ nI 7 then nI 1 else nI 0) h
def T_X11_isShelf : List AV → AH → (Int32 → AH → Prop) → Prop := fun as h K => match as with
  | [.inl q0] => S_X11_isShelf q0 h K
  | _ => False

def M_X11_isShelf : MI := (RX11, cX11_isShelf, 1, [(0, .iload_n 0, []), (1, .iconst 0, []), (2, .bipush 7, []), (4, .invokestatic 53, []), (7, .ireturn, [])], [], [], [], [(160, (3, 1, 22, 0, 0, .inl T_X11_isIn))], 1, 22, 0, 0)
theorem ok_X11_isShelf : MOK M_X11_isShelf := ⟨by decide +kernel, fun _ h => absurd h List.not_mem_nil, fun _ h => absurd h List.not_mem_nil, fun _ h => absurd h List.not_mem_nil, List.forall_mem_cons.mpr ⟨⟨Nat.le_of_ble_eq_true rfl, Nat.le_of_ble_eq_true rfl, cr_RX11_160⟩, fun _ h => absurd h List.not_mem_nil⟩⟩
theorem vc_X11_isShelf {K : Int32 → AH → Prop} {h : AH} (p0 : Int32) (H : S_X11_isIn p0 (nI 0) (nI 7) h (fun x2 h1 => ((x2 = 0 ∨ x2 = 1) ∧ K x2 h1))) : AW M_X11_isShelf (.inl (fun x u => (x = 0 ∨ x = 1) ∧ K x u)) 0 [some (aI p0)] [] h 0 0 := AW_go (cuts := []) ok_X11_isShelf 400 H

theorem snd_X11_isShelf (c : Int32) {h : AH} {K : Int32 → AH → Prop} (k : S_X11_isShelf c h K) : AW M_X11_isShelf (.inl (fun x u => (x = 0 ∨ x = 1) ∧ K x u)) 0 [some (aI c)] [] h 0 0 := vc_X11_isShelf c ⟨z01, k⟩
theorem tw_X11_isShelf : ∀ (as : List AV) (h : AH) (K : Int32 → AH → Prop), T_X11_isShelf as h K → (ini as).length ≤ mNL M_X11_isShelf ∧ AW M_X11_isShelf (.inl (fun x u => (x = 0 ∨ x = 1) ∧ K x u)) 0 (initL (mNL M_X11_isShelf) as) [] h 0 0 := by
  intro as h K hk
  match as, hk with
  | [.inl q0], hk =>
    exact ⟨Nat.le_of_ble_eq_true rfl, snd_X11_isShelf q0 hk⟩
theorem cr_RX11_679 : CR RX11 (kIns 679) (1, 2, 42, 0, 0, .inl T_X11_isShelf) := crS_z (M := M_X11_isShelf) (by decide) rfl (inG (i := 993) (w := Cond.methodLink RX11 226 yX11_isShelf) (by decide +kernel) rfl) (inG (i := 994) (w := Cond.static yX11_isShelf) (by decide +kernel) rfl) (inG (i := 40) (w := Cond.initialized RX11) (by decide +kernel) rfl) (inG (i := 995) (w := Cond.code yX11_isShelf cX11_isShelf 1 (some .boolean)) (by decide +kernel) rfl) ⟨by decide +kernel, by decide +kernel, by decide +kernel⟩ tw_X11_isShelf

def S_X11_isEagle (c : Int32) (h : AH) (K : Int32 → AH → Prop) : Prop := K (if nI 0 ≤ c ∧ c ≤ h.1 16 0 0 - nI 1 then nI 1 else nI 0) h
def T_X11_isEagle : List AV → AH → (Int32 → AH → Prop) → Prop := fun as h K => match as with
  | [.inr (.inr (.inl q0)), .inl q1] => tif (Nat.beq q0.1 15 && Nat.beq q0.2 0) (S_X11_isEagle q1 h K)
  | _ => False

def M_X11_isEagle : MI := (RX11, cX11_isEagle, 2, [(0, .iload_n 1, []), (1, .iconst 0, []), (2, .aload_n 0, []), (3, .getfield 9, []), (6, .iconst 0, []), (7, .iaload, []), (8, .iconst 1, []), (9, .isub, []), (10, .invokestatic 53, []), (13, .ireturn, [])], [(9, (15, 0, 1, 16, 0))], [], [], [(160, (3, 1, 22, 0, 0, .inl T_X11_isIn))], 1, 22, 0, 0)
theorem ok_X11_isEagle : MOK M_X11_isEagle := ⟨by decide +kernel, List.forall_mem_cons.mpr ⟨fl_RX11_9, fun _ h => absurd h List.not_mem_nil⟩, fun _ h => absurd h List.not_mem_nil, fun _ h => absurd h List.not_mem_nil, List.forall_mem_cons.mpr ⟨⟨Nat.le_of_ble_eq_true rfl, Nat.le_of_ble_eq_true rfl, cr_RX11_160⟩, fun _ h => absurd h List.not_mem_nil⟩⟩
theorem vc_X11_isEagle {K : Int32 → AH → Prop} {h : AH} (p1 : Int32) (H : inR (nI 0) 62 ∧ S_X11_isIn p1 (nI 0) ((h.1 16 0 (nI 0).toNatClampNeg) - (nI 1)) h (fun x2 h1 => ((x2 = 0 ∨ x2 = 1) ∧ K x2 h1))) : AW M_X11_isEagle (.inl (fun x u => (x = 0 ∨ x = 1) ∧ K x u)) 0 [some (aR 15 0), some (aI p1)] [] h 0 0 := AW_go (cuts := []) ok_X11_isEagle 400 H

theorem snd_X11_isEagle (c : Int32) {h : AH} {K : Int32 → AH → Prop} (k : S_X11_isEagle c h K) : AW M_X11_isEagle (.inl (fun x u => (x = 0 ∨ x = 1) ∧ K x u)) 0 [some (aR 15 0), some (aI c)] [] h 0 0 := by
  refine vc_X11_isEagle c ?_
  simp (disch := omega) only [n_inT, n_cl, true_and]
  exact ⟨z01, k⟩
theorem tr_X11_isEagle : ∀ (as : List AV) (h : AH) (K : Int32 → AH → Prop), T_X11_isEagle as h K → ∃ (q : Nat) (r : List AV), as = aR 15 q :: r := by
  intro as h K hk
  match as, hk with
  | [.inr (.inr (.inl q0)), .inl q1], hk =>
    obtain ⟨hb, hk⟩ := tif_inv hk
    simp only [Bool.and_eq_true] at hb
    obtain ⟨e0, e1⟩ := hb
    obtain ⟨a0, b0⟩ := q0
    have f0 : a0 = 15 := Nat.eq_of_beq_eq_true e0
    subst f0
    have f1 : b0 = 0 := Nat.eq_of_beq_eq_true e1
    subst f1
    exact ⟨_, _, rfl⟩
theorem tw_X11_isEagle : ∀ (as : List AV) (h : AH) (K : Int32 → AH → Prop), T_X11_isEagle as h K → (ini as).length ≤ mNL M_X11_isEagle ∧ AW M_X11_isEagle (.inl (fun x u => (x = 0 ∨ x = 1) ∧ K x u)) 0 (initL (mNL M_X11_isEagle) as) [] h 0 0 := by
  intro as h K hk
  match as, hk with
  | [.inr (.inr (.inl q0)), .inl q1], hk =>
    obtain ⟨hb, hk⟩ := tif_inv hk
    simp only [Bool.and_eq_true] at hb
    obtain ⟨e0, e1⟩ := hb
    obtain ⟨a0, b0⟩ := q0
    have f0 : a0 = 15 := Nat.eq_of_beq_eq_true e0
    subst f0
    have f1 : b0 = 0 := Nat.eq_of_beq_eq_true e1
    subst f1
    exact ⟨Nat.le_of_ble_eq_true rfl, snd_X11_isEagle q1 hk⟩
theorem cr_RX11_465 : CR RX11 (kIns 465) (2, 2, 43, 0, 0, .inl T_X11_isEagle) := crV_z (t := 15) (M := M_X11_isEagle) (by decide) rfl (by decide) rfl (inG (i := 1085) (w := Cond.methodLink RX11 155 yX11_isEagle) (by decide +kernel) rfl) (inG (i := 1087) (w := Cond.instanceMethod yX11_isEagle) (by decide +kernel) rfl) (inG (i := 40) (w := Cond.initialized RX11) (by decide +kernel) rfl) (inG (i := 22) (w := Cond.selects RX11 yX11_isEagle yX11_isEagle) (by decide +kernel) rfl) (inG (i := 1088) (w := Cond.code yX11_isEagle cX11_isEagle 2 (some .boolean)) (by decide +kernel) rfl) ⟨by decide +kernel, by decide +kernel, by decide +kernel⟩ tr_X11_isEagle tw_X11_isEagle

def S_X11_isSheep (c : Int32) (h : AH) (K : Int32 → AH → Prop) : Prop := K (if nI 0 ≤ c ∧ c ≤ h.1 16 0 1 - nI 1 then nI 1 else nI 0) h
def T_X11_isSheep : List AV → AH → (Int32 → AH → Prop) → Prop := fun as h K => match as with
  | [.inr (.inr (.inl q0)), .inl q1] => tif (Nat.beq q0.1 15 && Nat.beq q0.2 0) (S_X11_isSheep q1 h K)
  | _ => False

def M_X11_isSheep : MI := (RX11, cX11_isSheep, 2, [(0, .iload_n 1, []), (1, .iconst 0, []), (2, .aload_n 0, []), (3, .getfield 9, []), (6, .iconst 1, []), (7, .iaload, []), (8, .iconst 1, []), (9, .isub, []), (10, .invokestatic 53, []), (13, .ireturn, [])], [(9, (15, 0, 1, 16, 0))], [], [], [(160, (3, 1, 22, 0, 0, .inl T_X11_isIn))], 1, 22, 0, 0)
theorem ok_X11_isSheep : MOK M_X11_isSheep := ⟨by decide +kernel, List.forall_mem_cons.mpr ⟨fl_RX11_9, fun _ h => absurd h List.not_mem_nil⟩, fun _ h => absurd h List.not_mem_nil, fun _ h => absurd h List.not_mem_nil, List.forall_mem_cons.mpr ⟨⟨Nat.le_of_ble_eq_true rfl, Nat.le_of_ble_eq_true rfl, cr_RX11_160⟩, fun _ h => absurd h List.not_mem_nil⟩⟩
theorem vc_X11_isSheep {K : Int32 → AH → Prop} {h : AH} (p1 : Int32) (H : inR (nI 1) 62 ∧ S_X11_isIn p1 (nI 0) ((h.1 16 0 (nI 1).toNatClampNeg) - (nI 1)) h (fun x2 h1 => ((x2 = 0 ∨ x2 = 1) ∧ K x2 h1))) : AW M_X11_isSheep (.inl (fun x u => (x = 0 ∨ x = 1) ∧ K x u)) 0 [some (aR 15 0), some (aI p1)] [] h 0 0 := AW_go (cuts := []) ok_X11_isSheep 400 H

theorem snd_X11_isSheep (c : Int32) {h : AH} {K : Int32 → AH → Prop} (k : S_X11_isSheep c h K) : AW M_X11_isSheep (.inl (fun x u => (x = 0 ∨ x = 1) ∧ K x u)) 0 [some (aR 15 0), some (aI c)] [] h 0 0 := by
  refine vc_X11_isSheep c ?_
  simp (disch := omega) only [n_inT, n_cl, true_and]
  exact ⟨z01, k⟩
theorem tr_X11_isSheep : ∀ (as : List AV) (h : AH) (K : Int32 → AH → Prop), T_X11_isSheep as h K → ∃ (q : Nat) (r : List AV), as = aR 15 q :: r := by
  intro as h K hk
  match as, hk with
  | [.inr (.inr (.inl q0)), .inl q1], hk =>
    obtain ⟨hb, hk⟩ := tif_inv hk
    simp only [Bool.and_eq_true] at hb
    obtain ⟨e0, e1⟩ := hb
    obtain ⟨a0, b0⟩ := q0
    have f0 : a0 = 15 := Nat.eq_of_beq_eq_true e0
    subst f0
    have f1 : b0 = 0 := Nat.eq_of_beq_eq_true e1
    subst f1
    exact ⟨_, _, rfl⟩
theorem tw_X11_isSheep : ∀ (as : List AV) (h : AH) (K : Int32 → AH → Prop), T_X11_isSheep as h K → (ini as).length ≤ mNL M_X11_isSheep ∧ AW M_X11_isSheep (.inl (fun x u => (x = 0 ∨ x = 1) ∧ K x u)) 0 (initL (mNL M_X11_isSheep) as) [] h 0 0 := by
  intro as h K hk
  match as, hk with
  | [.inr (.inr (.inl q0)), .inl q1], hk =>
    obtain ⟨hb, hk⟩ := tif_inv hk
    simp only [Bool.and_eq_true] at hb
    obtain ⟨e0, e1⟩ := hb
    obtain ⟨a0, b0⟩ := q0
    have f0 : a0 = 15 := Nat.eq_of_beq_eq_true e0
    subst f0
    have f1 : b0 = 0 := Nat.eq_of_beq_eq_true e1
    subst f1
    exact ⟨Nat.le_of_ble_eq_true rfl, snd_X11_isSheep q1 hk⟩
theorem cr_RX11_396 : CR RX11 (kIns 396) (2, 2, 43, 0, 0, .inl T_X11_isSheep) := crV_z (t := 15) (M := M_X11_isSheep) (by decide) rfl (by decide) rfl (inG (i := 1043) (w := Cond.methodLink RX11 132 yX11_isSheep) (by decide +kernel) rfl) (inG (i := 1045) (w := Cond.instanceMethod yX11_isSheep) (by decide +kernel) rfl) (inG (i := 40) (w := Cond.initialized RX11) (by decide +kernel) rfl) (inG (i := 21) (w := Cond.selects RX11 yX11_isSheep yX11_isSheep) (by decide +kernel) rfl) (inG (i := 1046) (w := Cond.code yX11_isSheep cX11_isSheep 2 (some .boolean)) (by decide +kernel) rfl) ⟨by decide +kernel, by decide +kernel, by decide +kernel⟩ tr_X11_isSheep tw_X11_isSheep
end
section
/-! ===== the reference's rows: weights, carriers, throws ===== -/
abbrev rPre (j : Nat) (a : Int32) (h : AH) (V : Vm) (n : Nat) : Prop := RV (h.1 16 j) V ∧ WF V ∧ n < V 10 1 ∧ a = nI n
def S_X11_weight (j : Nat) (a : Int32) (h : AH) (K : Int32 → AH → Prop) : Prop := ∃ V n, rPre j a h V n ∧ K (nI (vWt V n)) h
def T_X11_weight : List AV → AH → (Int32 → AH → Prop) → Prop := fun as h K => match as with
  | [.inr (.inr (.inl q0)), .inl q1] => tif (Nat.beq q0.1 16) (S_X11_weight q0.2 q1 h K)
  | _ => False

def M_X11_weight : MI := (RX11, cX11_weight, 3, [(0, .aload_n 0, []), (1, .iload_n 1, []), (2, .invokestatic 57, []), (5, .istore_n 2, []), (6, .aload_n 0, []), (7, .iload_n 1, []), (8, .invokestatic 61, []), (11, .tableswitch 64 1 7 #[41, 45, 50, 41, 55, 41, 62], [75, 52, 56, 61, 52, 66, 52, 73]), (52, .iconst 3, []), (53, .iload_n 2, []), (54, .iadd, []), (55, .ireturn, []), (56, .bipush 10, []), (58, .iload_n 2, []), (59, .iadd, []), (60, .ireturn, []), (61, .bipush 18, []), (63, .iload_n 2, []), (64, .iadd, []), (65, .ireturn, []), (66, .bipush 20, []), (68, .iconst 2, []), (69, .iload_n 2, []), (70, .imul, []), (71, .iadd, []), (72, .ireturn, []), (73, .iconst 2, []), (74, .ireturn, []), (75, .bipush 6, []), (77, .iload_n 2, []), (78, .iadd, []), (79, .ireturn, [])], [], [], [], [(172, (2, 1, 21, 0, 0, .inl T_X11_figure)), (184, (2, 1, 21, 0, 0, .inl T_X11_kind))], 1, 21, 0, 0)
theorem ok_X11_weight : MOK M_X11_weight := ⟨by decide +kernel, fun _ h => absurd h List.not_mem_nil, fun _ h => absurd h List.not_mem_nil, fun _ h => absurd h List.not_mem_nil, List.forall_mem_cons.mpr ⟨⟨Nat.le_of_ble_eq_true rfl, Nat.le_of_ble_eq_true rfl, cr_RX11_172⟩, List.forall_mem_cons.mpr ⟨⟨Nat.le_of_ble_eq_true rfl, Nat.le_of_ble_eq_true rfl, cr_RX11_184⟩, fun _ h => absurd h List.not_mem_nil⟩⟩⟩
theorem vc_X11_weight {K : Int32 → AH → Prop} {h : AH} (p0 : Nat) (p1 : Int32) (H : S_X11_figure p0 p1 h (fun x2 h1 => S_X11_kind p0 p1 h1 (fun x4 h3 => (x4.toInt < 1 ∨ 7 < x4.toInt → K ((nI 6) + x2) h3) ∧ (x4 = nI 1 → K ((nI 3) + x2) h3) ∧ (x4 = nI 2 → K ((nI 10) + x2) h3) ∧ (x4 = nI 3 → K ((nI 18) + x2) h3) ∧ (x4 = nI 4 → K ((nI 3) + x2) h3) ∧ (x4 = nI 5 → K ((nI 20) + ((nI 2) * x2)) h3) ∧ (x4 = nI 6 → K ((nI 3) + x2) h3) ∧ (x4 = nI 7 → K (nI 2) h3) ∧ True))) : AW M_X11_weight (.inl K) 0 [some (aR 16 p0), some (aI p1), none] [] h 0 0 := AW_go (cuts := []) ok_X11_weight 400 H

theorem snd_X11_weight (j : Nat) (a : Int32) {h : AH} {K : Int32 → AH → Prop} (k : S_X11_weight j a h K) : AW M_X11_weight (.inl K) 0 [some (aR 16 j), some (aI a), none] [] h 0 0 := by
  refine vc_X11_weight j a ?_
  obtain ⟨V, n, ⟨hr, hw, hn, rfl⟩, k⟩ := k
  obtain ⟨-, -, -, -, -, -, -, -, e8, e9, -⟩ := RVs hr
  have h7 := hw.2.1
  have hb := hw.2.2.2.2.2.2 n hn
  refine ⟨n, by omega, rfl, n, by omega, rfl, ?_⟩
  rw [e8 n hn, e9 n hn]
  unfold vWt wt at k
  simp (disch := omega) only [n_toInt, n_eq, nI_add, pk_mul]
  grind
theorem tw_X11_weight : ∀ (as : List AV) (h : AH) (K : Int32 → AH → Prop), T_X11_weight as h K → (ini as).length ≤ mNL M_X11_weight ∧ AW M_X11_weight (.inl K) 0 (initL (mNL M_X11_weight) as) [] h 0 0 := by
  intro as h K hk
  match as, hk with
  | [.inr (.inr (.inl q0)), .inl q1], hk =>
    obtain ⟨hb, hk⟩ := tif_inv hk
    have e0 := hb
    obtain ⟨a0, b0⟩ := q0
    have f0 : a0 = 16 := Nat.eq_of_beq_eq_true e0
    subst f0
    exact ⟨Nat.le_of_ble_eq_true rfl, snd_X11_weight b0 q1 hk⟩
theorem cr_RX11_205 : CR RX11 (kIns 205) (2, 2, 43, 0, 0, .inl T_X11_weight) := crS_i (M := M_X11_weight) (by decide) rfl (inG (i := 1062) (w := Cond.methodLink RX11 68 yX11_weight) (by decide +kernel) rfl) (inG (i := 1063) (w := Cond.static yX11_weight) (by decide +kernel) rfl) (inG (i := 40) (w := Cond.initialized RX11) (by decide +kernel) rfl) (inG (i := 1064) (w := Cond.code yX11_weight cX11_weight 3 (some .int)) (by decide +kernel) rfl) ⟨by decide +kernel, by decide +kernel, by decide +kernel⟩ tw_X11_weight

def S_X11_sticks (j : Nat) (a : Int32) (h : AH) (K : Int32 → AH → Prop) : Prop := ∃ V n, rPre j a h V n ∧ K (nI (vSt V n)) h
def T_X11_sticks : List AV → AH → (Int32 → AH → Prop) → Prop := fun as h K => match as with
  | [.inr (.inr (.inl q0)), .inl q1] => tif (Nat.beq q0.1 16) (S_X11_sticks q0.2 q1 h K)
  | _ => False

def M_X11_sticks : MI := (RX11, cX11_sticks, 3, [(0, .aload_n 0, []), (1, .iload_n 1, []), (2, .invokestatic 57, []), (5, .iconst 3, []), (6, .idiv, []), (7, .istore_n 2, []), (8, .aload_n 0, []), (9, .iload_n 1, []), (10, .invokestatic 61, []), (13, .tableswitch 58 1 7 #[43, 45, 45, 58, 49, 43, 56], [71, 56, 58, 58, 71, 62, 56, 69]), (56, .iload_n 2, []), (57, .ireturn, []), (58, .iconst 3, []), (59, .iload_n 2, []), (60, .iadd, []), (61, .ireturn, []), (62, .bipush 6, []), (64, .iconst 2, []), (65, .iload_n 2, []), (66, .imul, []), (67, .iadd, []), (68, .ireturn, []), (69, .iconst 0, []), (70, .ireturn, []), (71, .iconst 1, []), (72, .iload_n 2, []), (73, .iadd, []), (74, .ireturn, [])], [], [], [], [(172, (2, 1, 21, 0, 0, .inl T_X11_figure)), (184, (2, 1, 21, 0, 0, .inl T_X11_kind))], 1, 21, 0, 0)
theorem ok_X11_sticks : MOK M_X11_sticks := ⟨by decide +kernel, fun _ h => absurd h List.not_mem_nil, fun _ h => absurd h List.not_mem_nil, fun _ h => absurd h List.not_mem_nil, List.forall_mem_cons.mpr ⟨⟨Nat.le_of_ble_eq_true rfl, Nat.le_of_ble_eq_true rfl, cr_RX11_172⟩, List.forall_mem_cons.mpr ⟨⟨Nat.le_of_ble_eq_true rfl, Nat.le_of_ble_eq_true rfl, cr_RX11_184⟩, fun _ h => absurd h List.not_mem_nil⟩⟩⟩
theorem vc_X11_sticks {K : Int32 → AH → Prop} {h : AH} (p0 : Nat) (p1 : Int32) (H : S_X11_figure p0 p1 h (fun x2 h1 => (¬ (nI 3) = 0) ∧ S_X11_kind p0 p1 h1 (fun x4 h3 => (x4.toInt < 1 ∨ 7 < x4.toInt → K ((nI 1) + (x2 / (nI 3))) h3) ∧ (x4 = nI 1 → K (x2 / (nI 3)) h3) ∧ (x4 = nI 2 → K ((nI 3) + (x2 / (nI 3))) h3) ∧ (x4 = nI 3 → K ((nI 3) + (x2 / (nI 3))) h3) ∧ (x4 = nI 4 → K ((nI 1) + (x2 / (nI 3))) h3) ∧ (x4 = nI 5 → K ((nI 6) + ((nI 2) * (x2 / (nI 3)))) h3) ∧ (x4 = nI 6 → K (x2 / (nI 3)) h3) ∧ (x4 = nI 7 → K (nI 0) h3) ∧ True))) : AW M_X11_sticks (.inl K) 0 [some (aR 16 p0), some (aI p1), none] [] h 0 0 := AW_go (cuts := []) ok_X11_sticks 400 H

theorem snd_X11_sticks (j : Nat) (a : Int32) {h : AH} {K : Int32 → AH → Prop} (k : S_X11_sticks j a h K) : AW M_X11_sticks (.inl K) 0 [some (aR 16 j), some (aI a), none] [] h 0 0 := by
  refine vc_X11_sticks j a ?_
  obtain ⟨V, n, ⟨hr, hw, hn, rfl⟩, k⟩ := k
  obtain ⟨-, -, -, -, -, -, -, -, e8, e9, -⟩ := RVs hr
  have h7 := hw.2.1
  have hb := hw.2.2.2.2.2.2 n hn
  refine ⟨n, by omega, rfl, by decide, n, by omega, rfl, ?_⟩
  rw [e8 n hn, e9 n hn]
  unfold vSt stk at k
  simp (disch := omega) only [n_toInt, n_eq, n_div, nI_add, pk_mul]
  grind
theorem tw_X11_sticks : ∀ (as : List AV) (h : AH) (K : Int32 → AH → Prop), T_X11_sticks as h K → (ini as).length ≤ mNL M_X11_sticks ∧ AW M_X11_sticks (.inl K) 0 (initL (mNL M_X11_sticks) as) [] h 0 0 := by
  intro as h K hk
  match as, hk with
  | [.inr (.inr (.inl q0)), .inl q1], hk =>
    obtain ⟨hb, hk⟩ := tif_inv hk
    have e0 := hb
    obtain ⟨a0, b0⟩ := q0
    have f0 : a0 = 16 := Nat.eq_of_beq_eq_true e0
    subst f0
    exact ⟨Nat.le_of_ble_eq_true rfl, snd_X11_sticks b0 q1 hk⟩
theorem cr_RX11_286 : CR RX11 (kIns 286) (2, 2, 43, 0, 0, .inl T_X11_sticks) := crS_i (M := M_X11_sticks) (by decide) rfl (inG (i := 1074) (w := Cond.methodLink RX11 95 yX11_sticks) (by decide +kernel) rfl) (inG (i := 1075) (w := Cond.static yX11_sticks) (by decide +kernel) rfl) (inG (i := 40) (w := Cond.initialized RX11) (by decide +kernel) rfl) (inG (i := 1076) (w := Cond.code yX11_sticks cX11_sticks 3 (some .int)) (by decide +kernel) rfl) ⟨by decide +kernel, by decide +kernel, by decide +kernel⟩ tw_X11_sticks

def S_X11_flies (j : Nat) (a : Int32) (h : AH) (K : Int32 → AH → Prop) : Prop := ∃ V n, rPre j a h V n ∧ K (nI (vFl V n)) h
def T_X11_flies : List AV → AH → (Int32 → AH → Prop) → Prop := fun as h K => match as with
  | [.inr (.inr (.inl q0)), .inl q1] => tif (Nat.beq q0.1 16) (S_X11_flies q0.2 q1 h K)
  | _ => False

def M_X11_flies : MI := (RX11, cX11_flies, 2, [(0, .aload_n 0, []), (1, .iload_n 1, []), (2, .invokestatic 61, []), (5, .tableswitch 53 1 7 #[43, 46, 46, 43, 48, 50, 50], [58, 48, 51, 51, 48, 53, 55, 55]), (48, .bipush 6, []), (50, .ireturn, []), (51, .iconst 3, []), (52, .ireturn, []), (53, .iconst 2, []), (54, .ireturn, []), (55, .bipush 7, []), (57, .ireturn, []), (58, .iconst 4, []), (59, .ireturn, [])], [], [], [], [(184, (2, 1, 21, 0, 0, .inl T_X11_kind))], 1, 21, 0, 0)
theorem ok_X11_flies : MOK M_X11_flies := ⟨by decide +kernel, fun _ h => absurd h List.not_mem_nil, fun _ h => absurd h List.not_mem_nil, fun _ h => absurd h List.not_mem_nil, List.forall_mem_cons.mpr ⟨⟨Nat.le_of_ble_eq_true rfl, Nat.le_of_ble_eq_true rfl, cr_RX11_184⟩, fun _ h => absurd h List.not_mem_nil⟩⟩
theorem vc_X11_flies {K : Int32 → AH → Prop} {h : AH} (p0 : Nat) (p1 : Int32) (H : S_X11_kind p0 p1 h (fun x2 h1 => (x2.toInt < 1 ∨ 7 < x2.toInt → K (nI 4) h1) ∧ (x2 = nI 1 → K (nI 6) h1) ∧ (x2 = nI 2 → K (nI 3) h1) ∧ (x2 = nI 3 → K (nI 3) h1) ∧ (x2 = nI 4 → K (nI 6) h1) ∧ (x2 = nI 5 → K (nI 2) h1) ∧ (x2 = nI 6 → K (nI 7) h1) ∧ (x2 = nI 7 → K (nI 7) h1) ∧ True)) : AW M_X11_flies (.inl K) 0 [some (aR 16 p0), some (aI p1)] [] h 0 0 := AW_go (cuts := []) ok_X11_flies 400 H

theorem snd_X11_flies (j : Nat) (a : Int32) {h : AH} {K : Int32 → AH → Prop} (k : S_X11_flies j a h K) : AW M_X11_flies (.inl K) 0 [some (aR 16 j), some (aI a)] [] h 0 0 := by
  refine vc_X11_flies j a ?_
  obtain ⟨V, n, ⟨hr, hw, hn, rfl⟩, k⟩ := k
  obtain ⟨-, -, -, -, -, -, -, -, e8, e9, -⟩ := RVs hr
  have h7 := hw.2.1
  have hb := hw.2.2.2.2.2.2 n hn
  refine ⟨n, by omega, rfl, ?_⟩
  rw [e8 n hn]
  unfold vFl fly at k
  simp (disch := omega) only [n_toInt, n_eq, nI_add, pk_mul]
  grind
theorem tw_X11_flies : ∀ (as : List AV) (h : AH) (K : Int32 → AH → Prop), T_X11_flies as h K → (ini as).length ≤ mNL M_X11_flies ∧ AW M_X11_flies (.inl K) 0 (initL (mNL M_X11_flies) as) [] h 0 0 := by
  intro as h K hk
  match as, hk with
  | [.inr (.inr (.inl q0)), .inl q1], hk =>
    obtain ⟨hb, hk⟩ := tif_inv hk
    have e0 := hb
    obtain ⟨a0, b0⟩ := q0
    have f0 : a0 = 16 := Nat.eq_of_beq_eq_true e0
    subst f0
    exact ⟨Nat.le_of_ble_eq_true rfl, snd_X11_flies b0 q1 hk⟩
theorem cr_RX11_406 : CR RX11 (kIns 406) (2, 2, 42, 0, 0, .inl T_X11_flies) := crS_i (M := M_X11_flies) (by decide) rfl (inG (i := 1047) (w := Cond.methodLink RX11 135 yX11_flies) (by decide +kernel) rfl) (inG (i := 1048) (w := Cond.static yX11_flies) (by decide +kernel) rfl) (inG (i := 40) (w := Cond.initialized RX11) (by decide +kernel) rfl) (inG (i := 1049) (w := Cond.code yX11_flies cX11_flies 2 (some .int)) (by decide +kernel) rfl) ⟨by decide +kernel, by decide +kernel, by decide +kernel⟩ tw_X11_flies

def S_X11_price (j : Nat) (a : Int32) (h : AH) (K : Int32 → AH → Prop) : Prop := ∃ V n, rPre j a h V n ∧ K (nI (vPr V n)) h
def T_X11_price : List AV → AH → (Int32 → AH → Prop) → Prop := fun as h K => match as with
  | [.inr (.inr (.inl q0)), .inl q1] => tif (Nat.beq q0.1 16) (S_X11_price q0.2 q1 h K)
  | _ => False

def M_X11_price : MI := (RX11, cX11_price, 3, [(0, .aload_n 0, []), (1, .iload_n 1, []), (2, .invokestatic 57, []), (5, .istore_n 2, []), (6, .aload_n 0, []), (7, .iload_n 1, []), (8, .invokestatic 61, []), (11, .tableswitch 65 1 7 #[41, 43, 47, 52, 54, 61, 63], [76, 52, 54, 58, 63, 65, 72, 74]), (52, .iconst 3, []), (53, .ireturn, []), (54, .iconst 5, []), (55, .iload_n 2, []), (56, .iadd, []), (57, .ireturn, []), (58, .bipush 25, []), (60, .iload_n 2, []), (61, .iadd, []), (62, .ireturn, []), (63, .iconst 4, []), (64, .ireturn, []), (65, .bipush 10, []), (67, .iconst 2, []), (68, .iload_n 2, []), (69, .imul, []), (70, .iadd, []), (71, .ireturn, []), (72, .iconst 0, []), (73, .ireturn, []), (74, .iconst 1, []), (75, .ireturn, []), (76, .iconst 5, []), (77, .ireturn, [])], [], [], [], [(172, (2, 1, 21, 0, 0, .inl T_X11_figure)), (184, (2, 1, 21, 0, 0, .inl T_X11_kind))], 1, 21, 0, 0)
theorem ok_X11_price : MOK M_X11_price := ⟨by decide +kernel, fun _ h => absurd h List.not_mem_nil, fun _ h => absurd h List.not_mem_nil, fun _ h => absurd h List.not_mem_nil, List.forall_mem_cons.mpr ⟨⟨Nat.le_of_ble_eq_true rfl, Nat.le_of_ble_eq_true rfl, cr_RX11_172⟩, List.forall_mem_cons.mpr ⟨⟨Nat.le_of_ble_eq_true rfl, Nat.le_of_ble_eq_true rfl, cr_RX11_184⟩, fun _ h => absurd h List.not_mem_nil⟩⟩⟩
theorem vc_X11_price {K : Int32 → AH → Prop} {h : AH} (p0 : Nat) (p1 : Int32) (H : S_X11_figure p0 p1 h (fun x2 h1 => S_X11_kind p0 p1 h1 (fun x4 h3 => (x4.toInt < 1 ∨ 7 < x4.toInt → K (nI 5) h3) ∧ (x4 = nI 1 → K (nI 3) h3) ∧ (x4 = nI 2 → K ((nI 5) + x2) h3) ∧ (x4 = nI 3 → K ((nI 25) + x2) h3) ∧ (x4 = nI 4 → K (nI 4) h3) ∧ (x4 = nI 5 → K ((nI 10) + ((nI 2) * x2)) h3) ∧ (x4 = nI 6 → K (nI 0) h3) ∧ (x4 = nI 7 → K (nI 1) h3) ∧ True))) : AW M_X11_price (.inl K) 0 [some (aR 16 p0), some (aI p1), none] [] h 0 0 := AW_go (cuts := []) ok_X11_price 400 H

theorem snd_X11_price (j : Nat) (a : Int32) {h : AH} {K : Int32 → AH → Prop} (k : S_X11_price j a h K) : AW M_X11_price (.inl K) 0 [some (aR 16 j), some (aI a), none] [] h 0 0 := by
  refine vc_X11_price j a ?_
  obtain ⟨V, n, ⟨hr, hw, hn, rfl⟩, k⟩ := k
  obtain ⟨-, -, -, -, -, -, -, -, e8, e9, -⟩ := RVs hr
  have h7 := hw.2.1
  have hb := hw.2.2.2.2.2.2 n hn
  refine ⟨n, by omega, rfl, n, by omega, rfl, ?_⟩
  rw [e8 n hn, e9 n hn]
  unfold vPr prc at k
  simp (disch := omega) only [n_toInt, n_eq, nI_add, pk_mul]
  grind
theorem tw_X11_price : ∀ (as : List AV) (h : AH) (K : Int32 → AH → Prop), T_X11_price as h K → (ini as).length ≤ mNL M_X11_price ∧ AW M_X11_price (.inl K) 0 (initL (mNL M_X11_price) as) [] h 0 0 := by
  intro as h K hk
  match as, hk with
  | [.inr (.inr (.inl q0)), .inl q1], hk =>
    obtain ⟨hb, hk⟩ := tif_inv hk
    have e0 := hb
    obtain ⟨a0, b0⟩ := q0
    have f0 : a0 = 16 := Nat.eq_of_beq_eq_true e0
    subst f0
    exact ⟨Nat.le_of_ble_eq_true rfl, snd_X11_price b0 q1 hk⟩
theorem cr_RX11_475 : CR RX11 (kIns 475) (2, 2, 43, 0, 0, .inl T_X11_price) := crS_i (M := M_X11_price) (by decide) rfl (inG (i := 1093) (w := Cond.methodLink RX11 158 yX11_price) (by decide +kernel) rfl) (inG (i := 1094) (w := Cond.static yX11_price) (by decide +kernel) rfl) (inG (i := 40) (w := Cond.initialized RX11) (by decide +kernel) rfl) (inG (i := 1095) (w := Cond.code yX11_price cX11_price 3 (some .int)) (by decide +kernel) rfl) ⟨by decide +kernel, by decide +kernel, by decide +kernel⟩ tw_X11_price

def S_X11_isNoon (j : Nat) (h : AH) (K : Int32 → AH → Prop) : Prop := ∃ V, RV (h.1 16 j) V ∧ WF V ∧ K (if noonV V then nI 1 else nI 0) h
def T_X11_isNoon : List AV → AH → (Int32 → AH → Prop) → Prop := fun as h K => match as with
  | [.inr (.inr (.inl q0))] => tif (Nat.beq q0.1 16) (S_X11_isNoon q0.2 h K)
  | _ => False

def M_X11_isNoon : MI := (RX11, cX11_isNoon, 1, [(0, .aload_n 0, []), (1, .iconst 2, []), (2, .iaload, []), (3, .bipush 11, []), (5, .bipush 13, []), (7, .invokestatic 53, []), (10, .ireturn, [])], [], [], [], [(160, (3, 1, 22, 0, 0, .inl T_X11_isIn))], 1, 22, 0, 0)
theorem ok_X11_isNoon : MOK M_X11_isNoon := ⟨by decide +kernel, fun _ h => absurd h List.not_mem_nil, fun _ h => absurd h List.not_mem_nil, fun _ h => absurd h List.not_mem_nil, List.forall_mem_cons.mpr ⟨⟨Nat.le_of_ble_eq_true rfl, Nat.le_of_ble_eq_true rfl, cr_RX11_160⟩, fun _ h => absurd h List.not_mem_nil⟩⟩
theorem vc_X11_isNoon {K : Int32 → AH → Prop} {h : AH} (p0 : Nat) (H : inR (nI 2) 62 ∧ S_X11_isIn (h.1 16 p0 (nI 2).toNatClampNeg) (nI 11) (nI 13) h (fun x2 h1 => ((x2 = 0 ∨ x2 = 1) ∧ K x2 h1))) : AW M_X11_isNoon (.inl (fun x u => (x = 0 ∨ x = 1) ∧ K x u)) 0 [some (aR 16 p0)] [] h 0 0 := AW_go (cuts := []) ok_X11_isNoon 400 H

theorem snd_X11_isNoon (j : Nat) {h : AH} {K : Int32 → AH → Prop} (k : S_X11_isNoon j h K) : AW M_X11_isNoon (.inl (fun x u => (x = 0 ∨ x = 1) ∧ K x u)) 0 [some (aR 16 j)] [] h 0 0 := by
  refine vc_X11_isNoon j ?_
  obtain ⟨V, hr, hw, k⟩ := k
  obtain ⟨-, -, -, -, -, -, -, -, -, -, -, -, e2, -⟩ := RVs hr
  have hh := hw.2.2.1
  simp (disch := omega) only [n_inT, n_cl, true_and, S_X11_isIn, e2, n_le]
  exact ⟨z01, k⟩
theorem tw_X11_isNoon : ∀ (as : List AV) (h : AH) (K : Int32 → AH → Prop), T_X11_isNoon as h K → (ini as).length ≤ mNL M_X11_isNoon ∧ AW M_X11_isNoon (.inl (fun x u => (x = 0 ∨ x = 1) ∧ K x u)) 0 (initL (mNL M_X11_isNoon) as) [] h 0 0 := by
  intro as h K hk
  match as, hk with
  | [.inr (.inr (.inl q0))], hk =>
    obtain ⟨hb, hk⟩ := tif_inv hk
    have e0 := hb
    obtain ⟨a0, b0⟩ := q0
    have f0 : a0 = 16 := Nat.eq_of_beq_eq_true e0
    subst f0
    exact ⟨Nat.le_of_ble_eq_true rfl, snd_X11_isNoon b0 hk⟩
theorem cr_RX11_214 : CR RX11 (kIns 214) (1, 2, 42, 0, 0, .inl T_X11_isNoon) := crS_z (M := M_X11_isNoon) (by decide) rfl (inG (i := 1068) (w := Cond.methodLink RX11 71 yX11_isNoon) (by decide +kernel) rfl) (inG (i := 1069) (w := Cond.static yX11_isNoon) (by decide +kernel) rfl) (inG (i := 40) (w := Cond.initialized RX11) (by decide +kernel) rfl) (inG (i := 1070) (w := Cond.code yX11_isNoon cX11_isNoon 1 (some .boolean)) (by decide +kernel) rfl) ⟨by decide +kernel, by decide +kernel, by decide +kernel⟩ tw_X11_isNoon

def S_X11_isEaten (j : Nat) (a c : Int32) (h : AH) (K : Int32 → AH → Prop) : Prop := ∃ V n m, rPre j a h V n ∧ m < 8 ∧ c = nI m ∧ K (if eat V n m then nI 1 else nI 0) h
def T_X11_isEaten : List AV → AH → (Int32 → AH → Prop) → Prop := fun as h K => match as with
  | [.inr (.inr (.inl q0)), .inl q1, .inl q2] => tif (Nat.beq q0.1 16) (S_X11_isEaten q0.2 q1 q2 h K)
  | _ => False

def M_X11_isEaten : MI := (RX11, cX11_isEaten, 3, [(0, .aload_n 0, []), (1, .iload_n 2, []), (2, .iconst 2, []), (3, .invokestatic 64, []), (6, .iaload, []), (7, .aload_n 0, []), (8, .iload_n 1, []), (9, .invokestatic 68, []), (12, .iconst 2, []), (13, .idiv, []), (14, .if_icmp .le 14, [28]), (17, .aload_n 0, []), (18, .invokestatic 71, []), (21, .ifCond .ne 7, [28]), (24, .iconst 1, []), (25, .goto 4, [29]), (28, .iconst 0, []), (29, .ireturn, [])], [], [], [], [(193, (2, 1, 21, 0, 0, .inl T_X11_atCell)), (205, (2, 2, 43, 0, 0, .inl T_X11_weight)), (214, (1, 2, 42, 0, 0, .inl T_X11_isNoon))], 2, 43, 0, 0)
theorem ok_X11_isEaten : MOK M_X11_isEaten := ⟨by decide +kernel, fun _ h => absurd h List.not_mem_nil, fun _ h => absurd h List.not_mem_nil, fun _ h => absurd h List.not_mem_nil, List.forall_mem_cons.mpr ⟨⟨Nat.le_of_ble_eq_true rfl, Nat.le_of_ble_eq_true rfl, cr_RX11_193⟩, List.forall_mem_cons.mpr ⟨⟨Nat.le_of_ble_eq_true rfl, Nat.le_of_ble_eq_true rfl, cr_RX11_205⟩, List.forall_mem_cons.mpr ⟨⟨Nat.le_of_ble_eq_true rfl, Nat.le_of_ble_eq_true rfl, cr_RX11_214⟩, fun _ h => absurd h List.not_mem_nil⟩⟩⟩⟩
theorem vc_X11_isEaten {K : Int32 → AH → Prop} {h : AH} (p0 : Nat) (p1 : Int32) (p2 : Int32) (H : S_X11_atCell p2 (nI 2) h (fun x2 h1 => inR x2 62 ∧ S_X11_weight p0 p1 h1 (fun x4 h3 => (¬ (nI 2) = 0) ∧ (((h1.1 16 p0 x2.toNatClampNeg) ≤ (x4 / (nI 2))) → (((nI 0) = 0 ∨ (nI 0) = 1) ∧ K (nI 0) h3)) ∧ (¬ ((h1.1 16 p0 x2.toNatClampNeg) ≤ (x4 / (nI 2))) → S_X11_isNoon p0 h3 (fun x6 h5 => ((¬ x6 = 0) → (((nI 0) = 0 ∨ (nI 0) = 1) ∧ K (nI 0) h5)) ∧ (¬ (¬ x6 = 0) → (((nI 1) = 0 ∨ (nI 1) = 1) ∧ K (nI 1) h5))))))) : AW M_X11_isEaten (.inl (fun x u => (x = 0 ∨ x = 1) ∧ K x u)) 0 [some (aR 16 p0), some (aI p1), some (aI p2)] [] h 0 0 := AW_go (cuts := []) ok_X11_isEaten 400 H

theorem snd_X11_isEaten (j : Nat) (a c : Int32) {h : AH} {K : Int32 → AH → Prop} (k : S_X11_isEaten j a c h K) : AW M_X11_isEaten (.inl (fun x u => (x = 0 ∨ x = 1) ∧ K x u)) 0 [some (aR 16 j), some (aI a), some (aI c)] [] h 0 0 := by
  refine vc_X11_isEaten j a c ?_
  obtain ⟨V, n, m, hp, hm, rfl, k⟩ := k
  obtain ⟨hr, hw, hn, rfl⟩ := id hp
  obtain ⟨-, -, e2, -⟩ := RVs hr
  have hb := hw.2.2.2.2.2.2 n hn
  have hc := hw.2.2.2.2.1 m hm
  have hwt : vWt V n ≤ 38 := wt_le hb.2
  simp (disch := omega) only [S_X11_atCell, pk_mul, nI_add, n_inT, n_cl, true_and, e2]
  refine ⟨V, n, hp, ?_⟩
  simp (disch := omega) only [n_div, n_le]
  refine ⟨by decide, fun q => ⟨Or.inl rfl, ?_⟩, fun q => ⟨V, hr, hw, ?_⟩⟩
  · rw [if_neg (fun z => by omega)] at k
    exact k
  · by_cases hq : noonV V
    · rw [if_neg (fun z => z.2 hq)] at k
      rw [if_pos hq]
      exact ⟨fun _ => ⟨Or.inl rfl, k⟩, fun z => absurd (fun z2 => by cases z2) z⟩
    · rw [if_pos ⟨by omega, hq⟩] at k
      rw [if_neg hq]
      exact ⟨fun z => absurd rfl z, fun _ => ⟨Or.inr rfl, k⟩⟩
theorem tw_X11_isEaten : ∀ (as : List AV) (h : AH) (K : Int32 → AH → Prop), T_X11_isEaten as h K → (ini as).length ≤ mNL M_X11_isEaten ∧ AW M_X11_isEaten (.inl (fun x u => (x = 0 ∨ x = 1) ∧ K x u)) 0 (initL (mNL M_X11_isEaten) as) [] h 0 0 := by
  intro as h K hk
  match as, hk with
  | [.inr (.inr (.inl q0)), .inl q1, .inl q2], hk =>
    obtain ⟨hb, hk⟩ := tif_inv hk
    have e0 := hb
    obtain ⟨a0, b0⟩ := q0
    have f0 : a0 = 16 := Nat.eq_of_beq_eq_true e0
    subst f0
    exact ⟨Nat.le_of_ble_eq_true rfl, snd_X11_isEaten b0 q1 q2 hk⟩
theorem cr_RX11_235 : CR RX11 (kIns 235) (3, 3, 65, 0, 0, .inl T_X11_isEaten) := crS_z (M := M_X11_isEaten) (by decide) rfl (inG (i := 1059) (w := Cond.methodLink RX11 78 yX11_isEaten) (by decide +kernel) rfl) (inG (i := 1060) (w := Cond.static yX11_isEaten) (by decide +kernel) rfl) (inG (i := 40) (w := Cond.initialized RX11) (by decide +kernel) rfl) (inG (i := 1061) (w := Cond.code yX11_isEaten cX11_isEaten 3 (some .boolean)) (by decide +kernel) rfl) ⟨by decide +kernel, by decide +kernel, by decide +kernel⟩ tw_X11_isEaten

def S_X11_power (j : Nat) (e : Int32) (h : AH) (K : Int32 → AH → Prop) : Prop := ∃ V n, RV (h.1 16 j) V ∧ WF V ∧ n < V 10 0 ∧ e = nI n ∧ K (nI (V 4 n + V 5 n)) h
def T_X11_power : List AV → AH → (Int32 → AH → Prop) → Prop := fun as h K => match as with
  | [.inr (.inr (.inl q0)), .inl q1] => tif (Nat.beq q0.1 16) (S_X11_power q0.2 q1 h K)
  | _ => False

def M_X11_power : MI := (RX11, cX11_power, 2, [(0, .aload_n 0, []), (1, .iload_n 1, []), (2, .iconst 0, []), (3, .invokestatic 75, []), (6, .iaload, []), (7, .aload_n 0, []), (8, .iload_n 1, []), (9, .iconst 1, []), (10, .invokestatic 75, []), (13, .iaload, []), (14, .iadd, []), (15, .ireturn, [])], [], [], [], [(226, (2, 1, 21, 0, 0, .inl T_X11_atEagle))], 1, 21, 0, 0)
theorem ok_X11_power : MOK M_X11_power := ⟨by decide +kernel, fun _ h => absurd h List.not_mem_nil, fun _ h => absurd h List.not_mem_nil, fun _ h => absurd h List.not_mem_nil, List.forall_mem_cons.mpr ⟨⟨Nat.le_of_ble_eq_true rfl, Nat.le_of_ble_eq_true rfl, cr_RX11_226⟩, fun _ h => absurd h List.not_mem_nil⟩⟩
theorem vc_X11_power {K : Int32 → AH → Prop} {h : AH} (p0 : Nat) (p1 : Int32) (H : S_X11_atEagle p1 (nI 0) h (fun x2 h1 => inR x2 62 ∧ S_X11_atEagle p1 (nI 1) h1 (fun x4 h3 => inR x4 62 ∧ K ((h1.1 16 p0 x2.toNatClampNeg) + (h3.1 16 p0 x4.toNatClampNeg)) h3))) : AW M_X11_power (.inl K) 0 [some (aR 16 p0), some (aI p1)] [] h 0 0 := AW_go (cuts := []) ok_X11_power 400 H

theorem snd_X11_power (j : Nat) (e : Int32) {h : AH} {K : Int32 → AH → Prop} (k : S_X11_power j e h K) : AW M_X11_power (.inl K) 0 [some (aR 16 j), some (aI e)] [] h 0 0 := by
  refine vc_X11_power j e ?_
  obtain ⟨V, n, hr, hw, hn, rfl, k⟩ := k
  obtain ⟨-, -, -, -, e4, e5, -⟩ := RVs hr
  have h4 := hw.1
  simp (disch := omega) only [S_X11_atEagle, pk_mul, nI_add, n_inT, n_cl, true_and, e4, e5]
  exact k
theorem tw_X11_power : ∀ (as : List AV) (h : AH) (K : Int32 → AH → Prop), T_X11_power as h K → (ini as).length ≤ mNL M_X11_power ∧ AW M_X11_power (.inl K) 0 (initL (mNL M_X11_power) as) [] h 0 0 := by
  intro as h K hk
  match as, hk with
  | [.inr (.inr (.inl q0)), .inl q1], hk =>
    obtain ⟨hb, hk⟩ := tif_inv hk
    have e0 := hb
    obtain ⟨a0, b0⟩ := q0
    have f0 : a0 = 16 := Nat.eq_of_beq_eq_true e0
    subst f0
    exact ⟨Nat.le_of_ble_eq_true rfl, snd_X11_power b0 q1 hk⟩
theorem cr_RX11_247 : CR RX11 (kIns 247) (2, 2, 42, 0, 0, .inl T_X11_power) := crS_i (M := M_X11_power) (by decide) rfl (inG (i := 1071) (w := Cond.methodLink RX11 82 yX11_power) (by decide +kernel) rfl) (inG (i := 1072) (w := Cond.static yX11_power) (by decide +kernel) rfl) (inG (i := 40) (w := Cond.initialized RX11) (by decide +kernel) rfl) (inG (i := 1073) (w := Cond.code yX11_power cX11_power 2 (some .int)) (by decide +kernel) rfl) ⟨by decide +kernel, by decide +kernel, by decide +kernel⟩ tw_X11_power

def S_X11_carrier (j : Nat) (a c : Int32) (h : AH) (K : Int32 → AH → Prop) : Prop := ∃ V n m, rPre j a h V n ∧ m < 8 ∧ c = nI m ∧ K (oI (tak V n m)) h
def T_X11_carrier : List AV → AH → (Int32 → AH → Prop) → Prop := fun as h K => match as with
  | [.inr (.inr (.inl q0)), .inl q1, .inl q2] => tif (Nat.beq q0.1 16) (S_X11_carrier q0.2 q1 q2 h K)
  | _ => False

def M_X11_carrier : MI := (RX11, cX11_carrier, 5, [(0, .bipush (-4), []), (2, .istore_n 3, []), (3, .iconst 0, []), (4, .istore 4, []), (6, .iload 4, []), (8, .aload_n 0, []), (9, .iconst 0, []), (10, .iaload, []), (11, .if_icmp .ge 72, [83]), (14, .aload_n 0, []), (15, .iload_n 1, []), (16, .iload_n 2, []), (17, .invokestatic 78, []), (20, .ifCond .ne 63, [83]), (23, .aload_n 0, []), (24, .iload 4, []), (26, .invokestatic 82, []), (29, .aload_n 0, []), (30, .iload_n 1, []), (31, .invokestatic 68, []), (34, .if_icmp .lt 43, [77]), (37, .aload_n 0, []), (38, .iload 4, []), (40, .iconst 3, []), (41, .invokestatic 75, []), (44, .iaload, []), (45, .iconst 4, []), (46, .if_icmp .le 6, [52]), (49, .goto 28, [77]), (52, .iload_n 3, []), (53, .ifCond .lt 21, [74]), (56, .aload_n 0, []), (57, .iload 4, []), (59, .iconst 1, []), (60, .invokestatic 75, []), (63, .iaload, []), (64, .aload_n 0, []), (65, .iload_n 3, []), (66, .iconst 1, []), (67, .invokestatic 75, []), (70, .iaload, []), (71, .if_icmp .le 6, [77]), (74, .iload 4, []), (76, .istore_n 3, []), (77, .iinc 4 1, []), (80, .goto (-74), [6]), (83, .iload_n 3, []), (84, .ireturn, [])], [], [], [], [(235, (3, 3, 65, 0, 0, .inl T_X11_isEaten)), (247, (2, 2, 42, 0, 0, .inl T_X11_power)), (205, (2, 2, 43, 0, 0, .inl T_X11_weight)), (226, (2, 1, 21, 0, 0, .inl T_X11_atEagle))], 3, 65, 0, 0)
theorem ok_X11_carrier : MOK M_X11_carrier := ⟨by decide +kernel, fun _ h => absurd h List.not_mem_nil, fun _ h => absurd h List.not_mem_nil, fun _ h => absurd h List.not_mem_nil, List.forall_mem_cons.mpr ⟨⟨Nat.le_of_ble_eq_true rfl, Nat.le_of_ble_eq_true rfl, cr_RX11_235⟩, List.forall_mem_cons.mpr ⟨⟨Nat.le_of_ble_eq_true rfl, Nat.le_of_ble_eq_true rfl, cr_RX11_247⟩, List.forall_mem_cons.mpr ⟨⟨Nat.le_of_ble_eq_true rfl, Nat.le_of_ble_eq_true rfl, cr_RX11_205⟩, List.forall_mem_cons.mpr ⟨⟨Nat.le_of_ble_eq_true rfl, Nat.le_of_ble_eq_true rfl, cr_RX11_226⟩, fun _ h => absurd h List.not_mem_nil⟩⟩⟩⟩⟩
theorem vc_X11_carrier {K : Int32 → AH → Prop} {h : AH} (p0 : Nat) (p1 : Int32) (p2 : Int32) (H : AW M_X11_carrier (.inl K) 6 [some (aR 16 p0), some (aI p1), some (aI p2), some (aI (iI (-4))), some (aI (nI 0))] [] h 0 0) : AW M_X11_carrier (.inl K) 0 [some (aR 16 p0), some (aI p1), some (aI p2), none, none] [] h 0 0 := AW_go (cuts := [(6, [true, true, true, true, true])]) ok_X11_carrier 400 H
theorem vc_X11_carrier_6 {K : Int32 → AH → Prop} {h : AH}  (l0 : Nat) (l1 : Int32) (l2 : Int32) (l3 : Int32) (l4 : Int32) (H : inR (nI 0) 62 ∧ (((h.1 16 l0 (nI 0).toNatClampNeg) ≤ l4) → K l3 h) ∧ (¬ ((h.1 16 l0 (nI 0).toNatClampNeg) ≤ l4) → S_X11_isEaten l0 l1 l2 h (fun x2 h1 => ((¬ x2 = 0) → K l3 h1) ∧ (¬ (¬ x2 = 0) → S_X11_power l0 l4 h1 (fun x4 h3 => S_X11_weight l0 l1 h3 (fun x6 h5 => ((x4 < x6) → AW M_X11_carrier (.inl K) 6 [some (aR 16 l0), some (aI l1), some (aI l2), some (aI l3), some (aI (l4 + (nI 1)))] [] h5 0 0) ∧ (¬ (x4 < x6) → S_X11_atEagle l4 (nI 3) h5 (fun x8 h7 => inR x8 62 ∧ (((h7.1 16 l0 x8.toNatClampNeg) ≤ (nI 4)) → ((l3 < 0) → AW M_X11_carrier (.inl K) 6 [some (aR 16 l0), some (aI l1), some (aI l2), some (aI l4), some (aI (l4 + (nI 1)))] [] h7 0 0) ∧ (¬ (l3 < 0) → S_X11_atEagle l4 (nI 1) h7 (fun x10 h9 => inR x10 62 ∧ S_X11_atEagle l3 (nI 1) h9 (fun x12 h11 => inR x12 62 ∧ (((h9.1 16 l0 x10.toNatClampNeg) ≤ (h11.1 16 l0 x12.toNatClampNeg)) → AW M_X11_carrier (.inl K) 6 [some (aR 16 l0), some (aI l1), some (aI l2), some (aI l3), some (aI (l4 + (nI 1)))] [] h11 0 0) ∧ (¬ ((h9.1 16 l0 x10.toNatClampNeg) ≤ (h11.1 16 l0 x12.toNatClampNeg)) → AW M_X11_carrier (.inl K) 6 [some (aR 16 l0), some (aI l1), some (aI l2), some (aI l4), some (aI (l4 + (nI 1)))] [] h11 0 0))))) ∧ (¬ ((h7.1 16 l0 x8.toNatClampNeg) ≤ (nI 4)) → AW M_X11_carrier (.inl K) 6 [some (aR 16 l0), some (aI l1), some (aI l2), some (aI l3), some (aI (l4 + (nI 1)))] [] h7 0 0))))))))) : AW M_X11_carrier (.inl K) 6 [some (aR 16 l0), some (aI l1), some (aI l2), some (aI l3), some (aI l4)] [] h 0 0 := AW_go (cuts := [(6, [true, true, true, true, true])]) ok_X11_carrier 400 H

theorem lp_X11_carrier {j n m : Nat} {V : Vm} {h : AH} {K : Int32 → AH → Prop} (hp : rPre j (nI n) h V n) (hm : m < 8) (k : K (oI (tak V n m)) h) : ∀ r e, e + r = V 10 0 → ∀ f, ((eat V n m ∧ e = 0 ∧ f = iI (-4)) ∨ (¬ eat V n m ∧ f = oI (car V (vWt V n) e))) → AW M_X11_carrier (.inl K) 6 [some (aR 16 j), some (aI (nI n)), some (aI (nI m)), some (aI f), some (aI (nI e))] [] h 0 0 := by
  obtain ⟨hr, hw, hn, -⟩ := id hp
  obtain ⟨-, -, -, -, e4, e5, e6, e7, -, -, e0, -⟩ := RVs hr
  have h4 := hw.1
  have hb := hw.2.2.2.2.2.2 n hn
  have hwt : vWt V n ≤ 38 := wt_le hb.2
  intro r
  induction r with
  | zero =>
    intro e he f hf
    refine vc_X11_carrier_6 j (nI n) (nI m) f (nI e) ?_
    simp (disch := omega) only [n_inT, n_cl, true_and, e0, n_le]
    refine ⟨fun _ => ?_, fun q => absurd (by omega) q⟩
    rcases hf with ⟨h1, h2, rfl⟩ | ⟨h1, rfl⟩
    · unfold tak at k; rw [if_pos h1] at k; exact k
    · unfold tak at k; rw [if_neg h1] at k; rw [show e = V 10 0 by omega]; exact k
  | succ r ih =>
    intro e he f hf
    refine vc_X11_carrier_6 j (nI n) (nI m) f (nI e) ?_
    have he0 : e < V 10 0 := by omega
    have hbe := hw.2.2.2.2.2.1 e he0
    simp (disch := omega) only [n_inT, n_cl, true_and, e0, n_le]
    refine ⟨fun q => by omega, fun _ => ⟨V, n, m, hp, hm, rfl, ?_⟩⟩
    rcases hf with ⟨h1, h2, rfl⟩ | ⟨h1, rfl⟩
    · unfold tak at k
      rw [if_pos h1] at k ⊢
      exact ⟨fun _ => k, fun z => absurd (fun z2 => by cases z2) z⟩
    · rw [if_neg h1]
      refine ⟨fun z => absurd rfl z, fun _ => ⟨V, e, hr, hw, he0, rfl, V, n, hp, ?_⟩⟩
      have hnext := ih (e + 1) (by omega)
      simp (disch := omega) only [n_lt, S_X11_atEagle, pk_mul, nI_add, n_inT, n_cl, true_and, e7, e5, n_le]
      refine ⟨fun q => hnext _ (Or.inr ⟨h1, ?_⟩), fun q => ⟨fun q2 => ?_, fun q2 => hnext _ (Or.inr ⟨h1, ?_⟩)⟩⟩
      · rw [car_no (fun z => by have := z.1; omega)]
      · have hc : cap V (vWt V n) e := ⟨by omega, by omega⟩
        cases hcar : car V (vWt V n) e with
        | none =>
          refine ⟨fun _ => hnext _ (Or.inr ⟨h1, ?_⟩), fun q3 => absurd (m_lt (by omega) (by omega)) q3⟩
          rw [car_new hc hcar]
          rfl
        | some p =>
          have hp1 := (car_lt hcar).1
          have hbp := hw.2.2.2.2.2.1 p (by omega)
          simp only [show oI (some p) = nI p from rfl]
          rw [n_lt0 (by omega)]
          refine ⟨fun z => z.elim, fun _ => ?_⟩
          simp (disch := omega) only [pk_mul, nI_add, n_inT, n_cl, true_and, e5, n_le]
          refine ⟨fun q3 => hnext _ (Or.inr ⟨h1, ?_⟩), fun q3 => hnext _ (Or.inr ⟨h1, ?_⟩)⟩
          · rw [car_le hcar (by omega)]
            rfl
          · rw [car_gt hc hcar (by omega)]
            rfl
      · rw [car_no (fun z => by have := z.2; omega)]
theorem snd_X11_carrier (j : Nat) (a c : Int32) {h : AH} {K : Int32 → AH → Prop} (k : S_X11_carrier j a c h K) : AW M_X11_carrier (.inl K) 0 [some (aR 16 j), some (aI a), some (aI c), none, none] [] h 0 0 := by
  obtain ⟨V, n, m, hp, hm, rfl, k⟩ := k
  obtain ⟨hr, hw, hn, rfl⟩ := id hp
  refine vc_X11_carrier j (nI n) (nI m) (lp_X11_carrier hp hm k (V 10 0) 0 (by omega) _ ?_)
  by_cases he : eat V n m
  · exact Or.inl ⟨he, rfl, rfl⟩
  · exact Or.inr ⟨he, rfl⟩
theorem tw_X11_carrier : ∀ (as : List AV) (h : AH) (K : Int32 → AH → Prop), T_X11_carrier as h K → (ini as).length ≤ mNL M_X11_carrier ∧ AW M_X11_carrier (.inl K) 0 (initL (mNL M_X11_carrier) as) [] h 0 0 := by
  intro as h K hk
  match as, hk with
  | [.inr (.inr (.inl q0)), .inl q1, .inl q2], hk =>
    obtain ⟨hb, hk⟩ := tif_inv hk
    have e0 := hb
    obtain ⟨a0, b0⟩ := q0
    have f0 : a0 = 16 := Nat.eq_of_beq_eq_true e0
    subst f0
    exact ⟨Nat.le_of_ble_eq_true rfl, snd_X11_carrier b0 q1 q2 hk⟩
theorem cr_RX11_274 : CR RX11 (kIns 274) (3, 4, 89, 0, 0, .inl T_X11_carrier) := crS_i (M := M_X11_carrier) (by decide) rfl (inG (i := 1056) (w := Cond.methodLink RX11 91 yX11_carrier) (by decide +kernel) rfl) (inG (i := 1057) (w := Cond.static yX11_carrier) (by decide +kernel) rfl) (inG (i := 40) (w := Cond.initialized RX11) (by decide +kernel) rfl) (inG (i := 1058) (w := Cond.code yX11_carrier cX11_carrier 5 (some .int)) (by decide +kernel) rfl) ⟨by decide +kernel, by decide +kernel, by decide +kernel⟩ tw_X11_carrier

/-- the least of 9 and the most of 0 -/
def clp (y : Int32) : Int32 := if (if nI 9 < y then nI 9 else y) < nI 0 then nI 0 else (if nI 9 < y then nI 9 else y)
theorem clp_n {a : Nat} (h : a < 2147483648) : clp (nI a) = nI (min 9 a) := by
  unfold clp
  by_cases h9 : 9 < a
  · simp only [if_pos ((n_lt (by omega) h).mpr h9), if_neg (fun q => by have := (n_lt (by omega) (by omega)).mp q; omega : ¬ nI 9 < nI 0), Nat.min_eq_left (show 9 ≤ a by omega)]
  · simp only [if_neg (fun q => h9 ((n_lt (by omega) h).mp q) : ¬ nI 9 < nI a), if_neg (fun q => by have := (n_lt (by omega) (by omega)).mp q; omega : ¬ nI a < nI 0), Nat.min_eq_right (show a ≤ 9 by omega)]
theorem clp_m {a b : Nat} (ha : a ≤ 9) (hb : b ≤ 100) : clp (nI a + -nI b) = nI (a - b) := by
  have e : (nI a + -nI b).toInt = (a : Int) - b := by
    rw [← Int32.sub_eq_add_neg]
    exact pk_sub_toInt (by omega) (by omega)
  have h9 : ¬ nI 9 < nI a + -nI b := by
    rw [Int32.lt_iff_toInt_lt, e, n_toInt (by omega)]
    omega
  unfold clp
  rw [if_neg h9]
  split
  · rename_i q
    rw [Int32.lt_iff_toInt_lt, e, n_toInt (by omega)] at q
    rw [show a - b = 0 by omega]
  · rename_i q
    rw [Int32.lt_iff_toInt_lt, e, n_toInt (by omega)] at q
    rw [← Int32.sub_eq_add_neg, n_sub (by omega)]
theorem iI_m1 : iI (-1) = -nI 1 := by decide
def S_X11_hungers (j : Nat) (e y : Int32) (h : AH) (K : AH → Prop) : Prop := ∃ n, n < 4 ∧ e = nI n ∧ K (wI h 16 j (28 + 4 * n + 1) (clp (h.1 16 j (28 + 4 * n + 1) + y)))
def T_X11_hungers : List AV → AH → (AH → Prop) → Prop := fun as h K => match as with
  | [.inr (.inr (.inl q0)), .inl q1, .inl q2] => tif (Nat.beq q0.1 16) (S_X11_hungers q0.2 q1 q2 h K)
  | _ => False

def M_X11_hungers : MI := (RX11, cX11_hungers, 3, [(0, .aload_n 0, []), (1, .iload_n 1, []), (2, .iconst 1, []), (3, .invokestatic 75, []), (6, .iconst 0, []), (7, .bipush 9, []), (9, .aload_n 0, []), (10, .iload_n 1, []), (11, .iconst 1, []), (12, .invokestatic 75, []), (15, .iaload, []), (16, .iload_n 2, []), (17, .iadd, []), (18, .invokestatic 85, []), (21, .invokestatic 88, []), (24, .iastore, []), (25, .return_, [])], [], [], [], [(226, (2, 1, 21, 0, 0, .inl T_X11_atEagle)), (256, (2, 1, 21, 0, 0, .inl T_X11_least)), (265, (2, 1, 21, 0, 0, .inl T_X11_most))], 1, 21, 0, 0)
theorem ok_X11_hungers : MOK M_X11_hungers := ⟨by decide +kernel, fun _ h => absurd h List.not_mem_nil, fun _ h => absurd h List.not_mem_nil, fun _ h => absurd h List.not_mem_nil, List.forall_mem_cons.mpr ⟨⟨Nat.le_of_ble_eq_true rfl, Nat.le_of_ble_eq_true rfl, cr_RX11_226⟩, List.forall_mem_cons.mpr ⟨⟨Nat.le_of_ble_eq_true rfl, Nat.le_of_ble_eq_true rfl, cr_RX11_256⟩, List.forall_mem_cons.mpr ⟨⟨Nat.le_of_ble_eq_true rfl, Nat.le_of_ble_eq_true rfl, cr_RX11_265⟩, fun _ h => absurd h List.not_mem_nil⟩⟩⟩⟩
theorem vc_X11_hungers {K : AH → Prop} {h : AH} (p0 : Nat) (p1 : Int32) (p2 : Int32) (H : S_X11_atEagle p1 (nI 1) h (fun x2 h1 => S_X11_atEagle p1 (nI 1) h1 (fun x4 h3 => inR x4 62 ∧ S_X11_least (nI 9) ((h3.1 16 p0 x4.toNatClampNeg) + p2) h3 (fun x6 h5 => S_X11_most (nI 0) x6 h5 (fun x8 h7 => inR x2 62 ∧ K (wI h7 16 p0 x2.toNatClampNeg x8)))))) : AW M_X11_hungers (.inr (.inl K)) 0 [some (aR 16 p0), some (aI p1), some (aI p2)] [] h 0 0 := AW_go (cuts := []) ok_X11_hungers 400 H

theorem snd_X11_hungers (j : Nat) (e y : Int32) {h : AH} {K : AH → Prop} (k : S_X11_hungers j e y h K) : AW M_X11_hungers (.inr (.inl K)) 0 [some (aR 16 j), some (aI e), some (aI y)] [] h 0 0 := by
  refine vc_X11_hungers j e y ?_
  obtain ⟨n, hn, rfl, k⟩ := k
  simp (disch := omega) only [S_X11_atEagle, S_X11_least, S_X11_most, pk_mul, nI_add, n_inT, n_cl, true_and]
  exact k
theorem tw_X11_hungers : ∀ (as : List AV) (h : AH) (K : AH → Prop), T_X11_hungers as h K → (ini as).length ≤ mNL M_X11_hungers ∧ AW M_X11_hungers (.inr (.inl K)) 0 (initL (mNL M_X11_hungers) as) [] h 0 0 := by
  intro as h K hk
  match as, hk with
  | [.inr (.inr (.inl q0)), .inl q1, .inl q2], hk =>
    obtain ⟨hb, hk⟩ := tif_inv hk
    have e0 := hb
    obtain ⟨a0, b0⟩ := q0
    have f0 : a0 = 16 := Nat.eq_of_beq_eq_true e0
    subst f0
    exact ⟨Nat.le_of_ble_eq_true rfl, snd_X11_hungers b0 q1 q2 hk⟩
theorem cr_RX11_295 : CR RX11 (kIns 295) (3, 2, 43, 0, 0, .inr (.inl T_X11_hungers)) := crS_v (M := M_X11_hungers) (by decide) rfl (inG (i := 1034) (w := Cond.methodLink RX11 98 yX11_hungers) (by decide +kernel) rfl) (inG (i := 1035) (w := Cond.static yX11_hungers) (by decide +kernel) rfl) (inG (i := 40) (w := Cond.initialized RX11) (by decide +kernel) rfl) (inG (i := 1036) (w := Cond.code yX11_hungers cX11_hungers 3 (none)) (by decide +kernel) rfl) ⟨by decide +kernel, by decide +kernel, by decide +kernel⟩ tw_X11_hungers
end
section
/-! ===== the reference's throw ===== -/
def fink (V : Vm) (o : Option Nat) (k : Nat) : Vm := fun t i => if t = 5 ∧ i < k ∧ some i ≠ o then min 9 (V 5 i + 1) else V t i
def fin (V : Vm) (o : Option Nat) : Vm := fun t i => if t = 5 ∧ some i ≠ o then min 9 (V 5 i + 1) else if t = 10 ∧ i = 2 then (V 10 2 + 1) % 24 else V t i
theorem fink_ne {V : Vm} {o : Option Nat} {k t i : Nat} (h : t ≠ 5) : fink V o k t i = V t i := by unfold fink; rw [if_neg (fun z => h z.1)]
theorem fink_WF {V : Vm} {o : Option Nat} {k : Nat} (hw : WF V) : WF (fink V o k) := by
  obtain ⟨a, b, c, d, e, f, g⟩ := hw
  unfold WF
  simp (disch := omega) only [fink_ne]
  refine ⟨a, b, c, d, e, fun i hi => ⟨(f i hi).1, ?_, (f i hi).2.2⟩, g⟩
  unfold fink
  split
  · omega
  · exact (f i hi).2.1
theorem oI_eq {e : Nat} {o : Option Nat} (he : e < 2147483648) (ho : ∀ p, o = some p → p < 2147483648) : nI e = oI o ↔ o = some e := by
  cases o with
  | none =>
    constructor
    · intro q
      have := m_ne (a := -4) (k := e) (by omega) (by omega) he
      rw [show nI e = iI (-4) from q] at this
      simp at this
    · intro q; cases q
  | some p =>
    show nI e = nI p ↔ _
    rw [n_eq he (ho p rfl)]
    constructor
    · intro q; rw [q]
    · intro q; cases q; rfl
def S_X11_throwIn (j : Nat) (a c : Int32) (h : AH) (K : Int32 → AH → Prop) : Prop := ∃ V n m, rPre j a h V n ∧ m < 8 ∧ c = nI m ∧ ∀ h', only 16 j h h' → RV (h'.1 16 j) (thr V n m) → K (nI (brg V n m)) h'
def T_X11_throwIn : List AV → AH → (Int32 → AH → Prop) → Prop := fun as h K => match as with
  | [.inr (.inr (.inl q0)), .inl q1, .inl q2] => tif (Nat.beq q0.1 16) (S_X11_throwIn q0.2 q1 q2 h K)
  | _ => False

def M_X11_throwIn : MI := (RX11, cX11_throwIn, 8, [(0, .aload_n 0, []), (1, .iload_n 1, []), (2, .iload_n 2, []), (3, .invokestatic 91, []), (6, .istore_n 3, []), (7, .iconst 0, []), (8, .istore 4, []), (10, .iload_n 3, []), (11, .ifCond .lt 154, [165]), (14, .aload_n 0, []), (15, .iload_n 1, []), (16, .invokestatic 95, []), (19, .aload_n 0, []), (20, .iload_n 2, []), (21, .iconst 0, []), (22, .invokestatic 64, []), (25, .iaload, []), (26, .invokestatic 85, []), (29, .istore 5, []), (31, .aload_n 0, []), (32, .iload_n 1, []), (33, .invokestatic 95, []), (36, .iload 5, []), (38, .isub, []), (39, .aload_n 0, []), (40, .iload_n 2, []), (41, .iconst 1, []), (42, .invokestatic 64, []), (45, .iaload, []), (46, .invokestatic 85, []), (49, .istore 6, []), (51, .aload_n 0, []), (52, .iload_n 2, []), (53, .iconst 0, []), (54, .invokestatic 64, []), (57, .dup2, []), (58, .iaload, []), (59, .iload 5, []), (61, .isub, []), (62, .iastore, []), (63, .aload_n 0, []), (64, .iload_n 2, []), (65, .iconst 1, []), (66, .invokestatic 64, []), (69, .dup2, []), (70, .iaload, []), (71, .iload 6, []), (73, .isub, []), (74, .iastore, []), (75, .iconst 5, []), (76, .iload 5, []), (78, .imul, []), (79, .iload 6, []), (81, .iadd, []), (82, .istore 4, []), (84, .aload_n 0, []), (85, .bipush 44, []), (87, .aload_n 0, []), (88, .iload_n 3, []), (89, .iconst 2, []), (90, .invokestatic 75, []), (93, .iaload, []), (94, .iadd, []), (95, .dup2, []), (96, .iaload, []), (97, .iload 4, []), (99, .iadd, []), (100, .iastore, []), (101, .aload_n 0, []), (102, .iload_n 3, []), (103, .aload_n 0, []), (104, .iconst 3, []), (105, .iaload, []), (106, .iconst 1, []), (107, .if_icmp .ne 7, [114]), (110, .iconst 1, []), (111, .goto 11, [122]), (114, .aload_n 0, []), (115, .iload_n 1, []), (116, .invokestatic 68, []), (119, .iconst 3, []), (120, .idiv, []), (121, .ineg, []), (122, .invokestatic 98, []), (125, .aload_n 0, []), (126, .iload_n 3, []), (127, .iconst 3, []), (128, .invokestatic 75, []), (131, .iaload, []), (132, .aload_n 0, []), (133, .iconst 3, []), (134, .iaload, []), (135, .iconst 1, []), (136, .if_icmp .ne 7, [143]), (139, .iconst 1, []), (140, .goto 4, [144]), (143, .iconst (-1), []), (144, .iadd, []), (145, .istore 7, []), (147, .aload_n 0, []), (148, .iload_n 3, []), (149, .iconst 3, []), (150, .invokestatic 75, []), (153, .iconst 0, []), (154, .bipush 9, []), (156, .iload 7, []), (158, .invokestatic 85, []), (161, .invokestatic 88, []), (164, .iastore, []), (165, .iconst 0, []), (166, .istore 5, []), (168, .iload 5, []), (170, .aload_n 0, []), (171, .iconst 0, []), (172, .iaload, []), (173, .if_icmp .ge 22, [195]), (176, .iload 5, []), (178, .iload_n 3, []), (179, .if_icmp .eq 10, [189]), (182, .aload_n 0, []), (183, .iload 5, []), (185, .iconst 1, []), (186, .invokestatic 98, []), (189, .iinc 5 1, []), (192, .goto (-24), [168]), (195, .aload_n 0, []), (196, .iconst 2, []), (197, .aload_n 0, []), (198, .iconst 2, []), (199, .iaload, []), (200, .iconst 1, []), (201, .iadd, []), (202, .bipush 24, []), (204, .irem, []), (205, .iastore, []), (206, .iload 4, []), (208, .ireturn, [])], [], [], [], [(274, (3, 4, 89, 0, 0, .inl T_X11_carrier)), (286, (2, 2, 43, 0, 0, .inl T_X11_sticks)), (193, (2, 1, 21, 0, 0, .inl T_X11_atCell)), (256, (2, 1, 21, 0, 0, .inl T_X11_least)), (226, (2, 1, 21, 0, 0, .inl T_X11_atEagle)), (205, (2, 2, 43, 0, 0, .inl T_X11_weight)), (295, (3, 2, 43, 0, 0, .inr (.inl T_X11_hungers))), (265, (2, 1, 21, 0, 0, .inl T_X11_most))], 4, 89, 0, 0)
theorem ok_X11_throwIn : MOK M_X11_throwIn := ⟨by decide +kernel, fun _ h => absurd h List.not_mem_nil, fun _ h => absurd h List.not_mem_nil, fun _ h => absurd h List.not_mem_nil, List.forall_mem_cons.mpr ⟨⟨Nat.le_of_ble_eq_true rfl, Nat.le_of_ble_eq_true rfl, cr_RX11_274⟩, List.forall_mem_cons.mpr ⟨⟨Nat.le_of_ble_eq_true rfl, Nat.le_of_ble_eq_true rfl, cr_RX11_286⟩, List.forall_mem_cons.mpr ⟨⟨Nat.le_of_ble_eq_true rfl, Nat.le_of_ble_eq_true rfl, cr_RX11_193⟩, List.forall_mem_cons.mpr ⟨⟨Nat.le_of_ble_eq_true rfl, Nat.le_of_ble_eq_true rfl, cr_RX11_256⟩, List.forall_mem_cons.mpr ⟨⟨Nat.le_of_ble_eq_true rfl, Nat.le_of_ble_eq_true rfl, cr_RX11_226⟩, List.forall_mem_cons.mpr ⟨⟨Nat.le_of_ble_eq_true rfl, Nat.le_of_ble_eq_true rfl, cr_RX11_205⟩, List.forall_mem_cons.mpr ⟨⟨Nat.le_of_ble_eq_true rfl, Nat.le_of_ble_eq_true rfl, cr_RX11_295⟩, List.forall_mem_cons.mpr ⟨⟨Nat.le_of_ble_eq_true rfl, Nat.le_of_ble_eq_true rfl, cr_RX11_265⟩, fun _ h => absurd h List.not_mem_nil⟩⟩⟩⟩⟩⟩⟩⟩⟩
set_option maxRecDepth 100000 in
theorem vc_X11_throwIn {K : Int32 → AH → Prop} {h : AH} (p0 : Nat) (p1 : Int32) (p2 : Int32) (H : S_X11_carrier p0 p1 p2 h (fun x2 h1 => ((x2 < 0) → AW M_X11_throwIn (.inl K) 168 [some (aR 16 p0), none, none, some (aI x2), some (aI (nI 0)), some (aI (nI 0)), none, none] [] h1 0 0) ∧ (¬ (x2 < 0) → S_X11_sticks p0 p1 h1 (fun x4 h3 => S_X11_atCell p2 (nI 0) h3 (fun x6 h5 => inR x6 62 ∧ S_X11_least x4 (h5.1 16 p0 x6.toNatClampNeg) h5 (fun x8 h7 => S_X11_sticks p0 p1 h7 (fun x10 h9 => S_X11_atCell p2 (nI 1) h9 (fun x12 h11 => inR x12 62 ∧ S_X11_least (x10 - x8) (h11.1 16 p0 x12.toNatClampNeg) h11 (fun x14 h13 => AW M_X11_throwIn (.inl K) 51 [some (aR 16 p0), some (aI p1), some (aI p2), some (aI x2), none, some (aI x8), some (aI x14), none] [] h13 0 0))))))))) : AW M_X11_throwIn (.inl K) 0 [some (aR 16 p0), some (aI p1), some (aI p2), none, none, none, none, none] [] h 0 0 := AW_go (cuts := [(51, [true, true, true, true, false, true, true, false]), (101, [true, true, false, true, true, false, false, false]), (125, [true, false, false, true, true, false, false, false]), (147, [true, false, false, true, true, false, false, true]), (168, [true, false, false, true, true, true, false, false])]) ok_X11_throwIn 400 H
set_option maxRecDepth 100000 in
theorem vc_X11_throwIn_51 {K : Int32 → AH → Prop} {h : AH}  (l0 : Nat) (l1 : Int32) (l2 : Int32) (l3 : Int32) (l5 : Int32) (l6 : Int32) (H : S_X11_atCell l2 (nI 0) h (fun x2 h1 => inR x2 62 ∧ inR x2 62 ∧ S_X11_atCell l2 (nI 1) (wI h1 16 l0 x2.toNatClampNeg ((h1.1 16 l0 x2.toNatClampNeg) - l5)) (fun x4 h3 => inR x4 62 ∧ inR x4 62 ∧ S_X11_atEagle l3 (nI 2) (wI h3 16 l0 x4.toNatClampNeg ((h3.1 16 l0 x4.toNatClampNeg) - l6)) (fun x6 h5 => inR x6 62 ∧ inR ((nI 44) + (h5.1 16 l0 x6.toNatClampNeg)) 62 ∧ inR ((nI 44) + (h5.1 16 l0 x6.toNatClampNeg)) 62 ∧ AW M_X11_throwIn (.inl K) 101 [some (aR 16 l0), some (aI l1), none, some (aI l3), some (aI (((nI 5) * l5) + l6)), none, none, none] [] (wI h5 16 l0 ((nI 44) + (h5.1 16 l0 x6.toNatClampNeg)).toNatClampNeg ((h5.1 16 l0 ((nI 44) + (h5.1 16 l0 x6.toNatClampNeg)).toNatClampNeg) + (((nI 5) * l5) + l6))) 0 0)))) : AW M_X11_throwIn (.inl K) 51 [some (aR 16 l0), some (aI l1), some (aI l2), some (aI l3), none, some (aI l5), some (aI l6), none] [] h 0 0 := AW_go (cuts := [(51, [true, true, true, true, false, true, true, false]), (101, [true, true, false, true, true, false, false, false]), (125, [true, false, false, true, true, false, false, false]), (147, [true, false, false, true, true, false, false, true]), (168, [true, false, false, true, true, true, false, false])]) ok_X11_throwIn 400 H
set_option maxRecDepth 100000 in
theorem vc_X11_throwIn_101 {K : Int32 → AH → Prop} {h : AH}  (l0 : Nat) (l1 : Int32) (l3 : Int32) (l4 : Int32) (H : inR (nI 3) 62 ∧ ((¬ (h.1 16 l0 (nI 3).toNatClampNeg) = (nI 1)) → S_X11_weight l0 l1 h (fun x2 h1 => (¬ (nI 3) = 0) ∧ S_X11_hungers l0 l3 (-(x2 / (nI 3))) h1 (fun h3 => AW M_X11_throwIn (.inl K) 125 [some (aR 16 l0), none, none, some (aI l3), some (aI l4), none, none, none] [] h3 0 0))) ∧ (¬ (¬ (h.1 16 l0 (nI 3).toNatClampNeg) = (nI 1)) → S_X11_hungers l0 l3 (nI 1) h (fun h4 => AW M_X11_throwIn (.inl K) 125 [some (aR 16 l0), none, none, some (aI l3), some (aI l4), none, none, none] [] h4 0 0))) : AW M_X11_throwIn (.inl K) 101 [some (aR 16 l0), some (aI l1), none, some (aI l3), some (aI l4), none, none, none] [] h 0 0 := AW_go (cuts := [(51, [true, true, true, true, false, true, true, false]), (101, [true, true, false, true, true, false, false, false]), (125, [true, false, false, true, true, false, false, false]), (147, [true, false, false, true, true, false, false, true]), (168, [true, false, false, true, true, true, false, false])]) ok_X11_throwIn 400 H
set_option maxRecDepth 100000 in
theorem vc_X11_throwIn_125 {K : Int32 → AH → Prop} {h : AH}  (l0 : Nat) (l3 : Int32) (l4 : Int32) (H : S_X11_atEagle l3 (nI 3) h (fun x2 h1 => inR x2 62 ∧ inR (nI 3) 62 ∧ ((¬ (h1.1 16 l0 (nI 3).toNatClampNeg) = (nI 1)) → AW M_X11_throwIn (.inl K) 147 [some (aR 16 l0), none, none, some (aI l3), some (aI l4), none, none, some (aI ((h1.1 16 l0 x2.toNatClampNeg) + (iI (-1))))] [] h1 0 0) ∧ (¬ (¬ (h1.1 16 l0 (nI 3).toNatClampNeg) = (nI 1)) → AW M_X11_throwIn (.inl K) 147 [some (aR 16 l0), none, none, some (aI l3), some (aI l4), none, none, some (aI ((h1.1 16 l0 x2.toNatClampNeg) + (nI 1)))] [] h1 0 0))) : AW M_X11_throwIn (.inl K) 125 [some (aR 16 l0), none, none, some (aI l3), some (aI l4), none, none, none] [] h 0 0 := AW_go (cuts := [(51, [true, true, true, true, false, true, true, false]), (101, [true, true, false, true, true, false, false, false]), (125, [true, false, false, true, true, false, false, false]), (147, [true, false, false, true, true, false, false, true]), (168, [true, false, false, true, true, true, false, false])]) ok_X11_throwIn 400 H
set_option maxRecDepth 100000 in
theorem vc_X11_throwIn_147 {K : Int32 → AH → Prop} {h : AH}  (l0 : Nat) (l3 : Int32) (l4 : Int32) (l7 : Int32) (H : S_X11_atEagle l3 (nI 3) h (fun x2 h1 => S_X11_least (nI 9) l7 h1 (fun x4 h3 => S_X11_most (nI 0) x4 h3 (fun x6 h5 => inR x2 62 ∧ AW M_X11_throwIn (.inl K) 168 [some (aR 16 l0), none, none, some (aI l3), some (aI l4), some (aI (nI 0)), none, none] [] (wI h5 16 l0 x2.toNatClampNeg x6) 0 0)))) : AW M_X11_throwIn (.inl K) 147 [some (aR 16 l0), none, none, some (aI l3), some (aI l4), none, none, some (aI l7)] [] h 0 0 := AW_go (cuts := [(51, [true, true, true, true, false, true, true, false]), (101, [true, true, false, true, true, false, false, false]), (125, [true, false, false, true, true, false, false, false]), (147, [true, false, false, true, true, false, false, true]), (168, [true, false, false, true, true, true, false, false])]) ok_X11_throwIn 400 H
set_option maxRecDepth 100000 in
theorem vc_X11_throwIn_168 {K : Int32 → AH → Prop} {h : AH}  (l0 : Nat) (l3 : Int32) (l4 : Int32) (l5 : Int32) (H : inR (nI 0) 62 ∧ (((h.1 16 l0 (nI 0).toNatClampNeg) ≤ l5) → inR (nI 2) 62 ∧ (¬ (nI 24) = 0) ∧ inR (nI 2) 62 ∧ K l4 (wI h 16 l0 (nI 2).toNatClampNeg (((h.1 16 l0 (nI 2).toNatClampNeg) + (nI 1)) - ((h.1 16 l0 (nI 2).toNatClampNeg) + (nI 1)) / (nI 24) * (nI 24)))) ∧ (¬ ((h.1 16 l0 (nI 0).toNatClampNeg) ≤ l5) → ((l5 = l3) → AW M_X11_throwIn (.inl K) 168 [some (aR 16 l0), none, none, some (aI l3), some (aI l4), some (aI (l5 + (nI 1))), none, none] [] h 0 0) ∧ (¬ (l5 = l3) → S_X11_hungers l0 l5 (nI 1) h (fun h1 => AW M_X11_throwIn (.inl K) 168 [some (aR 16 l0), none, none, some (aI l3), some (aI l4), some (aI (l5 + (nI 1))), none, none] [] h1 0 0)))) : AW M_X11_throwIn (.inl K) 168 [some (aR 16 l0), none, none, some (aI l3), some (aI l4), some (aI l5), none, none] [] h 0 0 := AW_go (cuts := [(51, [true, true, true, true, false, true, true, false]), (101, [true, true, false, true, true, false, false, false]), (125, [true, false, false, true, true, false, false, false]), (147, [true, false, false, true, true, false, false, true]), (168, [true, false, false, true, true, true, false, false])]) ok_X11_throwIn 400 H
end
section
theorem lp_X11_throwIn {j : Nat} {V : Vm} {o : Option Nat} {x : Int32} {h0 : AH} {K : Int32 → AH → Prop} (hw : WF V) (ho : ∀ p, o = some p → p < 4) (k : ∀ h', only 16 j h0 h' → RV (h'.1 16 j) (fin V o) → K x h') : ∀ r e h, e + r = V 10 0 → only 16 j h0 h → RV (h.1 16 j) (fink V o e) → AW M_X11_throwIn (.inl K) 168 [some (aR 16 j), none, none, some (aI (oI o)), some (aI x), some (aI (nI e)), none, none] [] h 0 0 := by
  have h4 := hw.1
  have hh := hw.2.2.1
  intro r
  induction r with
  | zero =>
    intro e h he h1 hr
    refine vc_X11_throwIn_168 j (oI o) x (nI e) ?_
    obtain ⟨-, -, -, -, -, -, -, -, -, -, e0, -, e2, -⟩ := RVs hr
    rw [fink_ne (by decide)] at e0 e2
    simp (disch := omega) only [n_inT, n_cl, true_and, e0, e2, n_le, nI_add, n_rem]
    refine ⟨fun _ => ⟨by decide, k _ (only_tr h1 (only_wI ..)) ?_⟩, fun q => absurd (by omega) q⟩
    have h2 := RV_set (fink_WF (o := o) (k := e) hw) hr (t := 10) (i := 2) (x := (V 10 2 + 1) % 24) (by omega) (show 2 < 4 by decide)
    refine RV_c h2 ?_ ?_ ?_
    · rw [uV_ne (by omega), fink_ne (by decide)]
      unfold fin
      rw [if_neg (by omega), if_neg (by omega)]
    · rw [uV_ne (by omega), fink_ne (by decide)]
      unfold fin
      rw [if_neg (by omega), if_neg (by omega)]
    · intro t i hi
      rw [vLim_u (by omega), vLim_c (V := V) (fink_ne (by decide)) (fink_ne (by decide))] at hi
      have h5i : t = 5 → i < e := fun z => by subst z; have hi : i < V 10 0 := hi; omega
      unfold fin uV fink
      grind
  | succ r ih =>
    intro e h he h1 hr
    refine vc_X11_throwIn_168 j (oI o) x (nI e) ?_
    obtain ⟨-, -, -, -, -, e5, -, -, -, -, e0, -, -, -⟩ := RVs hr
    rw [fink_ne (by decide)] at e0 e5
    have e5 := e5 e (by omega)
    have hbe := hw.2.2.2.2.2.1 e (by omega)
    have e5 : h.1 16 j (28 + 4 * e + 1) = nI (V 5 e) := by
      rw [e5]
      unfold fink
      rw [if_neg (by omega)]
    simp (disch := omega) only [n_inT, n_cl, true_and, e0, n_le, nI_add]
    refine ⟨fun q => by omega, fun _ => ⟨fun q => ?_, fun q => ⟨e, by omega, rfl, ?_⟩⟩⟩
    · have q := (oI_eq (by omega) (fun p hp => by have := ho p hp; omega)).mp q
      refine ih (e + 1) h (by omega) h1 (RV_c hr ?_ ?_ ?_)
      · rw [fink_ne (by decide), fink_ne (by decide)]
      · rw [fink_ne (by decide), fink_ne (by decide)]
      · intro t i hi
        unfold fink
        by_cases hc : t = 5 ∧ i < e ∧ some i ≠ o
        · rw [if_pos hc, if_pos ⟨hc.1, by omega, hc.2.2⟩]
        · rw [if_neg hc, if_neg]
          rintro ⟨z1, z2, z3⟩
          rcases Nat.lt_or_ge i e with z | z
          · exact hc ⟨z1, z, z3⟩
          · exact z3 (by rw [show i = e by omega]; exact q.symm)
    · have q : o ≠ some e := fun z => q ((oI_eq (by omega) (fun p hp => by have := ho p hp; omega)).mpr z)
      rw [e5, nI_add, clp_n (by omega)]
      have h2 := RV_set (fink_WF (o := o) (k := e) hw) hr (t := 5) (i := e) (x := min 9 (V 5 e + 1)) (by omega) (by show e < fink V o e 10 0; rw [fink_ne (by decide)]; omega)
      refine ih (e + 1) _ (by omega) (only_tr h1 (only_wI ..)) (RV_c h2 ?_ ?_ ?_)
      · rw [uV_ne (by omega), fink_ne (by decide), fink_ne (by decide)]
      · rw [uV_ne (by omega), fink_ne (by decide), fink_ne (by decide)]
      · intro t i hi
        unfold uV fink
        by_cases hc : t = 5 ∧ i = e
        · rw [if_pos hc, if_pos ⟨hc.1, by omega, by rw [hc.2]; exact fun z => q z.symm⟩, hc.2]
        · rw [if_neg hc]
          by_cases hc2 : t = 5 ∧ i < e ∧ some i ≠ o
          · rw [if_pos hc2, if_pos ⟨hc2.1, by omega, hc2.2.2⟩]
          · rw [if_neg hc2, if_neg]
            rintro ⟨z1, z2, z3⟩
            rcases Nat.lt_or_ge i e with z | z
            · exact hc2 ⟨z1, z, z3⟩
            · exact hc ⟨z1, by omega⟩
theorem least_n {a b : Nat} (ha : a < 2147483648) (hb : b < 2147483648) : (if nI a < nI b then nI a else nI b) = nI (min a b) := by
  by_cases h : a < b
  · rw [if_pos ((n_lt ha hb).mpr h), Nat.min_eq_left (by omega)]
  · rw [if_neg (fun q => h ((n_lt ha hb).mp q)), Nat.min_eq_right (by omega)]
/-- the valley once the eagle e has carried its stones off, and eaten -/
def crd (V : Vm) (n m e : Nat) : Vm := uV (uV (uV (uV (uV V 0 m (V 0 m - sB V n m)) 1 m (V 1 m - sS V n m)) 3 (V 6 e) (V 3 (V 6 e) + wor V n m)) 5 e (if V 10 3 = 1 then min 9 (V 5 e + 1) else V 5 e - vWt V n / 3)) 7 e (if V 10 3 = 1 then min 9 (V 7 e + 1) else V 7 e - 1)
theorem crd_10 (V : Vm) (n m e i : Nat) : crd V n m e 10 i = V 10 i := by
  unfold crd
  rw [uV_ne (by omega), uV_ne (by omega), uV_ne (by omega), uV_ne (by omega), uV_ne (by omega)]
theorem WF_u {V : Vm} {t i x : Nat} (hw : WF V) (ht : t ≠ 10) (hx : t ≤ 2 → x ≤ 9) (h4 : t = 4 → x ≤ 30) (h5 : t = 5 ∨ t = 7 → x ≤ 9) (h6 : t = 6 → x ≤ 3) (h8 : t = 8 → x ≤ 7) (h9 : t = 9 → x ≤ 9) : WF (uV V t i x) := by
  obtain ⟨a, b, c, d, e, f, g⟩ := hw
  unfold WF
  rw [uV_ne (by omega), uV_ne (by omega), uV_ne (by omega), uV_ne (by omega)]
  refine ⟨a, b, c, d, fun k hk => ?_, fun k hk => ?_, fun k hk => ?_⟩
  · have := e k hk
    unfold uV
    refine ⟨?_, ?_, ?_⟩ <;> split <;> omega
  · have := f k hk
    unfold uV
    refine ⟨?_, ?_, ?_, ?_⟩ <;> split <;> omega
  · have := g k hk
    unfold uV
    refine ⟨?_, ?_⟩ <;> split <;> omega
theorem crd_WF {V : Vm} {n m e : Nat} (hw : WF V) (hm : m < 8) (he : e < V 10 0) : WF (crd V n m e) := by
  have h1 := hw.2.2.2.2.1 m hm
  have h2 := hw.2.2.2.2.2.1 e he
  unfold crd
  refine WF_u (WF_u (WF_u (WF_u (WF_u hw ?_ ?_ ?_ ?_ ?_ ?_ ?_) ?_ ?_ ?_ ?_ ?_ ?_ ?_) ?_ ?_ ?_ ?_ ?_ ?_ ?_) ?_ ?_ ?_ ?_ ?_ ?_ ?_) ?_ ?_ ?_ ?_ ?_ ?_ ?_ <;> first | omega | (intro _; omega) | (intro _; split <;> omega)
theorem fin_crd {V : Vm} {n m e : Nat} (ht : tak V n m = some e) (t i : Nat) : thr V n m t i = fin (crd V n m e) (some e) t i := by
  unfold thr fin crd
  rw [ht]
  unfold uV
  grind
theorem fin_none {V : Vm} {n m : Nat} (ht : tak V n m = none) (t i : Nat) : thr V n m t i = fin V none t i := by
  unfold thr fin
  rw [ht]
  grind
end
section
theorem uI_at (f : Nat → Nat → Nat → Int32) (t p i : Nat) (x : Int32) : uI f t p i x t p i = x := by unfold uI; rw [if_pos ⟨rfl, rfl, rfl⟩]
theorem uI_ni {f : Nat → Nat → Nat → Int32} {t p i : Nat} {x : Int32} {a b j : Nat} (hn : j ≠ i) : uI f t p i x a b j = f a b j := by unfold uI; rw [if_neg (fun e => hn e.2.2)]
theorem uI_nt {f : Nat → Nat → Nat → Int32} {t p i : Nat} {x : Int32} {a b j : Nat} (hn : a ≠ t) : uI f t p i x a b j = f a b j := by unfold uI; rw [if_neg (fun e => hn e.1)]
theorem uI_np {f : Nat → Nat → Nat → Int32} {t p i : Nat} {x : Int32} {a b j : Nat} (hn : b ≠ p) : uI f t p i x a b j = f a b j := by unfold uI; rw [if_neg (fun e => hn e.2.1)]
theorem snd_X11_throwIn (j : Nat) (a c : Int32) {h : AH} {K : Int32 → AH → Prop} (k : S_X11_throwIn j a c h K) : AW M_X11_throwIn (.inl K) 0 [some (aR 16 j), some (aI a), some (aI c), none, none, none, none, none] [] h 0 0 := by
  refine vc_X11_throwIn j a c ?_
  obtain ⟨V, n, m, hp, hm, rfl, k⟩ := k
  obtain ⟨hr, hw, hn, rfl⟩ := id hp
  refine ⟨V, n, m, hp, hm, rfl, ?_⟩
  have h4 := hw.1
  have h1 := hw.2.2.2.2.1 m hm
  have hd := hw.2.2.2.1
  have hb := hw.2.2.2.2.2.2 n hn
  have hwt : vWt V n ≤ 38 := wt_le hb.2
  have hst : vSt V n ≤ 12 := stk_le hb.2
  cases ht : tak V n m with
  | none =>
    refine ⟨fun _ => ?_, fun q => absurd (m_lt (by omega) (by omega)) q⟩
    refine lp_X11_throwIn (o := none) (V := V) hw (fun p hp => by cases hp) (fun h' h1 h2 => ?_) (V 10 0) 0 h (by omega) (only_rfl ..) (RV_c hr rfl rfl (fun t i _ => by unfold fink; rw [if_neg (by omega)]))
    have := k h' h1 (RV_c h2 (fin_none ht 10 0) (fin_none ht 10 1) (fun t i _ => fin_none ht t i))
    unfold brg at this
    rw [ht] at this
    exact this
  | some e =>
    have he := tak_lt ht
    have h2 := hw.2.2.2.2.2.1 e he
    have k2 : ∀ h', only 16 j h h' → RV (h'.1 16 j) (fin (crd V n m e) (some e)) → K (nI (wor V n m)) h' := fun h' q1 q2 => by
      have := k h' q1 (RV_c q2 (fin_crd ht 10 0) (fin_crd ht 10 1) (fun t i _ => fin_crd ht t i))
      unfold brg at this
      rw [ht] at this
      exact this
    have fl := fun h' (q1 : only 16 j h h') (q2 : RV (h'.1 16 j) (crd V n m e)) => lp_X11_throwIn (o := some e) (V := crd V n m e) (crd_WF hw hm he) (fun p hp => by cases hp; omega) k2 (V 10 0) 0 h' (by rw [crd_10]; omega) q1 (RV_c q2 rfl rfl (fun t i _ => by unfold fink; rw [if_neg (by omega)]))
    clear k k2
    obtain ⟨e0, e1, -, e3, -, e5, e6, e7, -, -, -, -, -, e13⟩ := RVs hr
    have hsB : sB V n m ≤ V 0 m := by unfold sB; omega
    have hsB2 : sB V n m ≤ vSt V n := by unfold sB; omega
    have hsS : sS V n m ≤ V 1 m := by unfold sS; omega
    have w1 := RV_set hw hr (t := 0) (i := m) (x := V 0 m - sB V n m) (by omega) hm
    have f1 : WF (uV V 0 m (V 0 m - sB V n m)) := WF_u hw (by omega) (fun _ => by omega) (by omega) (by omega) (by omega) (by omega) (by omega)
    have w2 := RV_set f1 w1 (t := 1) (i := m) (x := V 1 m - sS V n m) (by omega) hm
    have f2 : WF (uV (uV V 0 m (V 0 m - sB V n m)) 1 m (V 1 m - sS V n m)) := WF_u f1 (by omega) (fun _ => by omega) (by omega) (by omega) (by omega) (by omega) (by omega)
    have w3 := RV_set f2 w2 (t := 3) (i := V 6 e) (x := V 3 (V 6 e) + wor V n m) (by omega) (show V 6 e < 4 by omega)
    have f3 : WF (uV (uV (uV V 0 m (V 0 m - sB V n m)) 1 m (V 1 m - sS V n m)) 3 (V 6 e) (V 3 (V 6 e) + wor V n m)) := WF_u f2 (by omega) (by omega) (by omega) (by omega) (by omega) (by omega) (by omega)
    have gV : ∀ t i, t ≠ 0 → t ≠ 1 → t ≠ 3 → uV (uV (uV V 0 m (V 0 m - sB V n m)) 1 m (V 1 m - sS V n m)) 3 (V 6 e) (V 3 (V 6 e) + wor V n m) t i = V t i := fun t i a b c => by rw [uV_ne (by omega), uV_ne (by omega), uV_ne (by omega)]
    have hcrd : crd V n m e = uV (uV (uV (uV (uV V 0 m (V 0 m - sB V n m)) 1 m (V 1 m - sS V n m)) 3 (V 6 e) (V 3 (V 6 e) + wor V n m)) 5 e (if V 10 3 = 1 then min 9 (V 5 e + 1) else V 5 e - vWt V n / 3)) 7 e (if V 10 3 = 1 then min 9 (V 7 e + 1) else V 7 e - 1) := rfl
    rw [hcrd] at fl
    clear hcrd
    generalize hV3 : uV (uV (uV V 0 m (V 0 m - sB V n m)) 1 m (V 1 m - sS V n m)) 3 (V 6 e) (V 3 (V 6 e) + wor V n m) = V3 at w3 f3 gV fl
    clear hV3 f1 f2 w1 w2
    have x5b : (if V 10 3 = 1 then min 9 (V 5 e + 1) else V 5 e - vWt V n / 3) ≤ 9 := by split <;> omega
    generalize hx5 : (if V 10 3 = 1 then min 9 (V 5 e + 1) else V 5 e - vWt V n / 3) = x5 at fl x5b
    generalize hx7 : (if V 10 3 = 1 then min 9 (V 7 e + 1) else V 7 e - 1) = x7 at fl
    have f4 : WF (uV V3 5 e x5) := WF_u f3 (by omega) (by omega) (by omega) (by omega) (by omega) (by omega) (by omega)
    have gV4 : ∀ t i, t ≠ 0 → t ≠ 1 → t ≠ 3 → t ≠ 5 → uV V3 5 e x5 t i = V t i := fun t i a b c d => by rw [uV_ne (by omega), gV t i a b c]
    have k147 : ∀ g y, only 16 j h g → RV (g.1 16 j) (uV V3 5 e x5) → clp y = nI x7 → AW M_X11_throwIn (.inl K) 147 [some (aR 16 j), none, none, some (aI (nI e)), some (aI (nI (wor V n m))), none, none, some (aI y)] [] g 0 0 := by
      intro g y q1 q2 q3
      refine vc_X11_throwIn_147 j (nI e) (nI (wor V n m)) y ?_
      simp (disch := omega) only [S_X11_atEagle, S_X11_least, S_X11_most, pk_mul, nI_add, n_inT, n_cl, true_and]
      rw [show (if (if nI 9 < y then nI 9 else y) < nI 0 then nI 0 else (if nI 9 < y then nI 9 else y)) = nI x7 from q3]
      exact fl _ (only_tr q1 (only_wI ..)) (RV_set f4 q2 (t := 7) (i := e) (by omega) (show e < uV V3 5 e x5 10 0 by rw [gV4 10 0 (by omega) (by omega) (by omega) (by omega)]; exact he))
    have k125 : ∀ g, only 16 j h g → RV (g.1 16 j) (uV V3 5 e x5) → AW M_X11_throwIn (.inl K) 125 [some (aR 16 j), none, none, some (aI (nI e)), some (aI (nI (wor V n m))), none, none, none] [] g 0 0 := by
      intro g q1 q2
      refine vc_X11_throwIn_125 j (nI e) (nI (wor V n m)) ?_
      obtain ⟨-, -, -, -, -, -, -, d7, -, -, -, -, -, d13⟩ := RVs q2
      rw [gV4 10 3 (by omega) (by omega) (by omega) (by omega)] at d13
      rw [gV4 10 0 (by omega) (by omega) (by omega) (by omega)] at d7
      have d7 := d7 e he
      rw [gV4 7 e (by omega) (by omega) (by omega) (by omega)] at d7
      simp (disch := omega) only [S_X11_atEagle, pk_mul, nI_add, n_inT, n_cl, true_and, d7, d13, n_eq]
      refine ⟨fun q => k147 g _ q1 q2 ?_, fun q => k147 g _ q1 q2 ?_⟩
      · rw [iI_m1, clp_m (by omega) (by omega), ← hx7, if_neg q]
      · rw [clp_n (by omega), ← hx7, if_pos (Decidable.not_not.mp q)]
    have k101 : ∀ g, only 16 j h g → RV (g.1 16 j) V3 → AW M_X11_throwIn (.inl K) 101 [some (aR 16 j), some (aI (nI n)), none, some (aI (nI e)), some (aI (nI (wor V n m))), none, none, none] [] g 0 0 := by
      intro g q1 q2
      refine vc_X11_throwIn_101 j (nI n) (nI e) (nI (wor V n m)) ?_
      obtain ⟨-, -, -, -, -, d5, -, -, -, -, -, -, -, d13⟩ := RVs q2
      rw [gV 10 3 (by omega) (by omega) (by omega)] at d13
      rw [gV 10 0 (by omega) (by omega) (by omega)] at d5
      have d5 := d5 e he
      rw [gV 5 e (by omega) (by omega) (by omega)] at d5
      have hle : e < vLim V3 5 := by show e < V3 10 0; rw [gV 10 0 (by omega) (by omega) (by omega)]; exact he
      simp (disch := omega) only [n_inT, n_cl, true_and, d13, n_eq]
      refine ⟨fun q => ⟨V3, n, ⟨q2, f3, by rw [gV 10 1 (by omega) (by omega) (by omega)]; exact hn, rfl⟩, by decide, e, by omega, rfl, ?_⟩, fun q => ⟨e, by omega, rfl, ?_⟩⟩
      · have hw3 : vWt V3 n = vWt V n := by unfold vWt; rw [gV 8 n (by omega) (by omega) (by omega), gV 9 n (by omega) (by omega) (by omega)]
        rw [hw3, d5, n_div (by omega) (by omega) (by omega), clp_m (by omega) (by omega)]
        rw [if_neg q] at hx5
        rw [hx5]
        exact k125 _ (only_tr q1 (only_wI ..)) (RV_set f3 q2 (t := 5) (i := e) (by omega) hle)
      · rw [d5, nI_add, clp_n (by omega)]
        rw [if_pos (Decidable.not_not.mp q)] at hx5
        rw [hx5]
        exact k125 _ (only_tr q1 (only_wI ..)) (RV_set f3 q2 (t := 5) (i := e) (by omega) hle)
    clear k125 k147 fl
    simp only [show oI (some e) = nI e from rfl]
    rw [n_lt0 (by omega)]
    refine ⟨fun z => z.elim, fun _ => ⟨V, n, hp, ?_⟩⟩
    simp (disch := omega) only [S_X11_atCell, S_X11_least, pk_mul, nI_add, n_inT, n_cl, true_and, e0, least_n]
    refine ⟨V, n, hp, ?_⟩
    rw [show nI (min (vSt V n) (V 0 m)) = nI (sB V n m) from rfl]
    simp (disch := omega) only [n_inT, n_cl, true_and, e1, n_sub, least_n]
    rw [show nI (min (vSt V n - sB V n m) (V 1 m)) = nI (sS V n m) from rfl]
    refine vc_X11_throwIn_51 j (nI n) (nI m) (nI e) (nI (sB V n m)) (nI (sS V n m)) ?_
    simp (disch := omega) only [S_X11_atCell, S_X11_atEagle, pk_mul, nI_add, n_inT, n_cl, true_and, e0, e1, e3, e6, uI_ni, n_sub]
    exact k101 _ (only_tr (only_tr (only_wI ..) (only_wI ..)) (only_wI ..)) w3
theorem tw_X11_throwIn : ∀ (as : List AV) (h : AH) (K : Int32 → AH → Prop), T_X11_throwIn as h K → (ini as).length ≤ mNL M_X11_throwIn ∧ AW M_X11_throwIn (.inl K) 0 (initL (mNL M_X11_throwIn) as) [] h 0 0 := by
  intro as h K hk
  match as, hk with
  | [.inr (.inr (.inl q0)), .inl q1, .inl q2], hk =>
    obtain ⟨hb, hk⟩ := tif_inv hk
    have e0 := hb
    obtain ⟨a0, b0⟩ := q0
    have f0 : a0 = 16 := Nat.eq_of_beq_eq_true e0
    subst f0
    exact ⟨Nat.le_of_ble_eq_true rfl, snd_X11_throwIn b0 q1 q2 hk⟩
theorem cr_RX11_415 : CR RX11 (kIns 415) (3, 5, 116, 0, 0, .inl T_X11_throwIn) := crS_i (M := M_X11_throwIn) (by decide) rfl (inG (i := 1053) (w := Cond.methodLink RX11 138 yX11_throwIn) (by decide +kernel) rfl) (inG (i := 1054) (w := Cond.static yX11_throwIn) (by decide +kernel) rfl) (inG (i := 40) (w := Cond.initialized RX11) (by decide +kernel) rfl) (inG (i := 1055) (w := Cond.code yX11_throwIn cX11_throwIn 8 (some .int)) (by decide +kernel) rfl) ⟨by decide +kernel, by decide +kernel, by decide +kernel⟩ tw_X11_throwIn
end
section
/-! ===== the reference: rows copied, waits, what is brought in mind ===== -/
theorem ro_lt {V : Vm} (h4 : V 10 0 ≤ 4) (h7 : V 10 1 ≤ 7) {t i : Nat} (hi : i < vLim V t) : ro t i < 62 := by
  have ht : t ≤ 10 := by
    rcases Nat.lt_or_ge 10 t with h | h
    · unfold vLim at hi; split at hi <;> omega
    · exact h
  match t, ht with
  | 0, _ => simp only [ro, vLim] at *; omega
  | 1, _ => simp only [ro, vLim] at *; omega
  | 2, _ => simp only [ro, vLim] at *; omega
  | 3, _ => simp only [ro, vLim] at *; omega
  | 4, _ => simp only [ro, vLim] at *; omega
  | 5, _ => simp only [ro, vLim] at *; omega
  | 6, _ => simp only [ro, vLim] at *; omega
  | 7, _ => simp only [ro, vLim] at *; omega
  | 8, _ => simp only [ro, vLim] at *; omega
  | 9, _ => simp only [ro, vLim] at *; omega
  | 10, _ => simp only [ro, vLim] at *; omega
theorem RV_cp {r r' : Nat → Int32} {V : Vm} (hw : WF V) (hr : RV r V) (hc : ∀ i, i < 62 → r' i = r i) : RV r' V := fun t i hi => by
  rw [hc _ (ro_lt hw.1 hw.2.1 hi)]
  exact hr t i hi
theorem WF_wai {V : Vm} {k : Nat} (hw : WF V) : WF (wai V k) := by
  obtain ⟨a, b, c, d, e, f, g⟩ := hw
  have hn : ∀ t i, t ≠ 5 → t ≠ 10 → wai V k t i = V t i := fun t i h1 h2 => by unfold wai; rw [if_neg h1, if_neg (fun z => h2 z.1)]
  have h10 : ∀ i, i ≠ 2 → wai V k 10 i = V 10 i := fun i h1 => by unfold wai; rw [if_neg (by decide), if_neg (fun z => h1 z.2)]
  have h12 : wai V k 10 2 = (V 10 2 + k) % 24 := by unfold wai; rw [if_neg (by decide), if_pos ⟨rfl, rfl⟩]
  have h5 : ∀ i, wai V k 5 i = min 9 (V 5 i + k / 4) := fun i => by unfold wai; rw [if_pos rfl]
  unfold WF
  simp (disch := omega) only [hn, h10, h12, h5]
  refine ⟨a, b, by omega, d, e, fun i hi => ?_, g⟩
  have := f i hi
  omega
theorem WF_thr {V : Vm} {n m : Nat} (hw : WF V) (hm : m < 8) : WF (thr V n m) := by
  have hfin : ∀ (W : Vm) (o : Option Nat), WF W → WF (fin W o) := by
    intro W o hw
    obtain ⟨a, b, c, d, e, f, g⟩ := hw
    have hn : ∀ t i, t ≠ 5 → t ≠ 10 → fin W o t i = W t i := fun t i h1 h2 => by unfold fin; rw [if_neg (fun z => h1 z.1), if_neg (fun z => h2 z.1)]
    have h10 : ∀ i, i ≠ 2 → fin W o 10 i = W 10 i := fun i h1 => by unfold fin; rw [if_neg (by omega), if_neg (fun z => h1 z.2)]
    have h12 : fin W o 10 2 = (W 10 2 + 1) % 24 := by unfold fin; rw [if_neg (by omega), if_pos ⟨rfl, rfl⟩]
    have h5 : ∀ i, W 5 i ≤ 9 → fin W o 5 i ≤ 9 := fun i hi => by unfold fin; split; omega; rw [if_neg (by omega)]; exact hi
    unfold WF
    simp (disch := omega) only [hn, h10, h12]
    refine ⟨a, b, by omega, d, e, fun i hi => ?_, g⟩
    have := f i hi
    exact ⟨this.1, h5 i this.2.1, this.2.2⟩
  cases ht : tak V n m with
  | none =>
    have : thr V n m = fin V none := funext fun t => funext fun i => fin_none ht t i
    rw [this]
    exact hfin V none hw
  | some e =>
    have : thr V n m = fin (crd V n m e) (some e) := funext fun t => funext fun i => fin_crd ht t i
    rw [this]
    exact hfin _ _ (crd_WF hw hm (tak_lt ht))
theorem brg_le {V : Vm} {n m : Nat} (hw : WF V) (hn : n < V 10 1) (hm : m < 8) : brg V n m ≤ 54 := by
  have h1 := hw.2.2.2.2.1 m hm
  unfold brg
  split
  · omega
  · unfold wor sS sB
    omega
def S_X11_copies (j i : Nat) (h : AH) (K : AH → Prop) : Prop := j ≠ i ∧ ∀ h', only 16 i h h' → (∀ k, k < 62 → h'.1 16 i k = h.1 16 j k) → K h'
def T_X11_copies : List AV → AH → (AH → Prop) → Prop := fun as h K => match as with
  | [.inr (.inr (.inl q0)), .inr (.inr (.inl q1))] => tif (Nat.beq q0.1 16 && Nat.beq q1.1 16) (S_X11_copies q0.2 q1.2 h K)
  | _ => False

def M_X11_copies : MI := (RX11, cX11_copies, 3, [(0, .iconst 0, []), (1, .istore_n 2, []), (2, .iload_n 2, []), (3, .bipush 62, []), (5, .if_icmp .ge 15, [20]), (8, .aload_n 1, []), (9, .iload_n 2, []), (10, .aload_n 0, []), (11, .iload_n 2, []), (12, .iaload, []), (13, .iastore, []), (14, .iinc 2 1, []), (17, .goto (-15), [2]), (20, .return_, [])], [], [], [], [], 0, 0, 0, 0)
theorem ok_X11_copies : MOK M_X11_copies := ⟨by decide +kernel, fun _ h => absurd h List.not_mem_nil, fun _ h => absurd h List.not_mem_nil, fun _ h => absurd h List.not_mem_nil, fun _ h => absurd h List.not_mem_nil⟩
set_option maxRecDepth 100000 in
theorem vc_X11_copies {K : AH → Prop} {h : AH} (p0 : Nat) (p1 : Nat) (H : AW M_X11_copies (.inr (.inl K)) 2 [some (aR 16 p0), some (aR 16 p1), some (aI (nI 0))] [] h 0 0) : AW M_X11_copies (.inr (.inl K)) 0 [some (aR 16 p0), some (aR 16 p1), none] [] h 0 0 := AW_go (cuts := [(2, [true, true, true])]) ok_X11_copies 400 H
set_option maxRecDepth 100000 in
theorem vc_X11_copies_2 {K : AH → Prop} {h : AH}  (l0 : Nat) (l1 : Nat) (l2 : Int32) (H : (((nI 62) ≤ l2) → K h) ∧ (¬ ((nI 62) ≤ l2) → inR l2 62 ∧ inR l2 62 ∧ AW M_X11_copies (.inr (.inl K)) 2 [some (aR 16 l0), some (aR 16 l1), some (aI (l2 + (nI 1)))] [] (wI h 16 l1 l2.toNatClampNeg (h.1 16 l0 l2.toNatClampNeg)) 0 0)) : AW M_X11_copies (.inr (.inl K)) 2 [some (aR 16 l0), some (aR 16 l1), some (aI l2)] [] h 0 0 := AW_go (cuts := [(2, [true, true, true])]) ok_X11_copies 400 H

theorem lp_X11_copies {j i : Nat} {h0 : AH} {K : AH → Prop} (hj : j ≠ i) (k : ∀ h', only 16 i h0 h' → (∀ k, k < 62 → h'.1 16 i k = h0.1 16 j k) → K h') : ∀ r e h, e + r = 62 → only 16 i h0 h → (∀ k, k < e → h.1 16 i k = h0.1 16 j k) → AW M_X11_copies (.inr (.inl K)) 2 [some (aR 16 j), some (aR 16 i), some (aI (nI e))] [] h 0 0 := by
  intro r
  induction r with
  | zero =>
    intro e h he h1 h2
    refine vc_X11_copies_2 j i (nI e) ?_
    simp (disch := omega) only [n_le]
    exact ⟨fun _ => k h h1 (fun q hq => h2 q (by omega)), fun q => absurd (by omega) q⟩
  | succ r ih =>
    intro e h he h1 h2
    refine vc_X11_copies_2 j i (nI e) ?_
    simp (disch := omega) only [n_le, n_inT, n_cl, true_and, nI_add]
    refine ⟨fun q => by omega, fun _ => ih (e + 1) _ (by omega) (only_tr h1 (only_wI ..)) (fun q hq => ?_)⟩
    show uI h.1 16 i e (h.1 16 j e) 16 i q = _
    by_cases hqe : q = e
    · subst hqe
      rw [uI_at, h1.2 16 j (fun z => hj z.2)]
    · rw [uI_ni hqe]
      exact h2 q (by omega)
theorem snd_X11_copies (j i : Nat) {h : AH} {K : AH → Prop} (k : S_X11_copies j i h K) : AW M_X11_copies (.inr (.inl K)) 0 [some (aR 16 j), some (aR 16 i), none] [] h 0 0 :=
  vc_X11_copies j i (lp_X11_copies k.1 k.2 62 0 h (by omega) (only_rfl ..) (fun _ q => absurd q (by omega)))
theorem tw_X11_copies : ∀ (as : List AV) (h : AH) (K : AH → Prop), T_X11_copies as h K → (ini as).length ≤ mNL M_X11_copies ∧ AW M_X11_copies (.inr (.inl K)) 0 (initL (mNL M_X11_copies) as) [] h 0 0 := by
  intro as h K hk
  match as, hk with
  | [.inr (.inr (.inl q0)), .inr (.inr (.inl q1))], hk =>
    obtain ⟨hb, hk⟩ := tif_inv hk
    simp only [Bool.and_eq_true] at hb
    obtain ⟨e0, e1⟩ := hb
    obtain ⟨a0, b0⟩ := q0
    obtain ⟨a1, b1⟩ := q1
    have f0 : a0 = 16 := Nat.eq_of_beq_eq_true e0
    subst f0
    have f1 : a1 = 16 := Nat.eq_of_beq_eq_true e1
    subst f1
    exact ⟨Nat.le_of_ble_eq_true rfl, snd_X11_copies b0 b1 hk⟩
theorem cr_RX11_445 : CR RX11 (kIns 445) (2, 1, 22, 0, 0, .inr (.inl T_X11_copies)) := crS_v (M := M_X11_copies) (by decide) rfl (inG (i := 1011) (w := Cond.methodLink RX11 148 yX11_copies) (by decide +kernel) rfl) (inG (i := 1012) (w := Cond.static yX11_copies) (by decide +kernel) rfl) (inG (i := 40) (w := Cond.initialized RX11) (by decide +kernel) rfl) (inG (i := 1013) (w := Cond.code yX11_copies cX11_copies 3 (none)) (by decide +kernel) rfl) ⟨by decide +kernel, by decide +kernel, by decide +kernel⟩ tw_X11_copies

def S_X11_waitIn (j : Nat) (x : Int32) (h : AH) (K : AH → Prop) : Prop := ∃ V k, RV (h.1 16 j) V ∧ WF V ∧ k ≤ 60 ∧ x = nI k ∧ ∀ h', only 16 j h h' → RV (h'.1 16 j) (wai V k) → K h'
def T_X11_waitIn : List AV → AH → (AH → Prop) → Prop := fun as h K => match as with
  | [.inr (.inr (.inl q0)), .inl q1] => tif (Nat.beq q0.1 16) (S_X11_waitIn q0.2 q1 h K)
  | _ => False

def M_X11_waitIn : MI := (RX11, cX11_waitIn, 3, [(0, .aload_n 0, []), (1, .iconst 2, []), (2, .aload_n 0, []), (3, .iconst 2, []), (4, .iaload, []), (5, .iload_n 1, []), (6, .iadd, []), (7, .bipush 24, []), (9, .irem, []), (10, .iastore, []), (11, .iconst 0, []), (12, .istore_n 2, []), (13, .iload_n 2, []), (14, .aload_n 0, []), (15, .iconst 0, []), (16, .iaload, []), (17, .if_icmp .ge 17, [34]), (20, .aload_n 0, []), (21, .iload_n 2, []), (22, .iload_n 1, []), (23, .iconst 4, []), (24, .idiv, []), (25, .invokestatic 98, []), (28, .iinc 2 1, []), (31, .goto (-18), [13]), (34, .return_, [])], [], [], [], [(295, (3, 2, 43, 0, 0, .inr (.inl T_X11_hungers)))], 2, 43, 0, 0)
theorem ok_X11_waitIn : MOK M_X11_waitIn := ⟨by decide +kernel, fun _ h => absurd h List.not_mem_nil, fun _ h => absurd h List.not_mem_nil, fun _ h => absurd h List.not_mem_nil, List.forall_mem_cons.mpr ⟨⟨Nat.le_of_ble_eq_true rfl, Nat.le_of_ble_eq_true rfl, cr_RX11_295⟩, fun _ h => absurd h List.not_mem_nil⟩⟩
set_option maxRecDepth 100000 in
theorem vc_X11_waitIn {K : AH → Prop} {h : AH} (p0 : Nat) (p1 : Int32) (H : inR (nI 2) 62 ∧ (¬ (nI 24) = 0) ∧ inR (nI 2) 62 ∧ AW M_X11_waitIn (.inr (.inl K)) 13 [some (aR 16 p0), some (aI p1), some (aI (nI 0))] [] (wI h 16 p0 (nI 2).toNatClampNeg (((h.1 16 p0 (nI 2).toNatClampNeg) + p1) - ((h.1 16 p0 (nI 2).toNatClampNeg) + p1) / (nI 24) * (nI 24))) 0 0) : AW M_X11_waitIn (.inr (.inl K)) 0 [some (aR 16 p0), some (aI p1), none] [] h 0 0 := AW_go (cuts := [(13, [true, true, true])]) ok_X11_waitIn 400 H
set_option maxRecDepth 100000 in
theorem vc_X11_waitIn_13 {K : AH → Prop} {h : AH}  (l0 : Nat) (l1 : Int32) (l2 : Int32) (H : inR (nI 0) 62 ∧ (((h.1 16 l0 (nI 0).toNatClampNeg) ≤ l2) → K h) ∧ (¬ ((h.1 16 l0 (nI 0).toNatClampNeg) ≤ l2) → (¬ (nI 4) = 0) ∧ S_X11_hungers l0 l2 (l1 / (nI 4)) h (fun h1 => AW M_X11_waitIn (.inr (.inl K)) 13 [some (aR 16 l0), some (aI l1), some (aI (l2 + (nI 1)))] [] h1 0 0))) : AW M_X11_waitIn (.inr (.inl K)) 13 [some (aR 16 l0), some (aI l1), some (aI l2)] [] h 0 0 := AW_go (cuts := [(13, [true, true, true])]) ok_X11_waitIn 400 H

def waik (V : Vm) (k e : Nat) : Vm := fun t i => if t = 5 ∧ i < e then min 9 (V 5 i + k / 4) else if t = 10 ∧ i = 2 then (V 10 2 + k) % 24 else V t i
theorem waik_10 {V : Vm} {k e i : Nat} (h : i ≠ 2) : waik V k e 10 i = V 10 i := by unfold waik; rw [if_neg (by omega), if_neg (by omega)]
theorem waik_WF {V : Vm} {k e : Nat} (hw : WF V) : WF (waik V k e) := by
  obtain ⟨a, b, c, d, ee, f, g⟩ := hw
  have hn : ∀ t i, t ≠ 5 → t ≠ 10 → waik V k e t i = V t i := fun t i h1 h2 => by unfold waik; rw [if_neg (fun z => h1 z.1), if_neg (fun z => h2 z.1)]
  have h12 : waik V k e 10 2 = (V 10 2 + k) % 24 := by unfold waik; rw [if_neg (by omega), if_pos ⟨rfl, rfl⟩]
  have h5 : ∀ i, V 5 i ≤ 9 → waik V k e 5 i ≤ 9 := fun i hi => by unfold waik; split; omega; rw [if_neg (by omega)]; exact hi
  unfold WF
  simp (disch := omega) only [hn, waik_10, h12]
  refine ⟨a, b, by omega, d, ee, fun i hi => ?_, g⟩
  have := f i hi
  exact ⟨this.1, h5 i this.2.1, this.2.2⟩
theorem lp_X11_waitIn {j : Nat} {V : Vm} {k : Nat} {h0 : AH} {K : AH → Prop} (hw : WF V) (hk : k ≤ 60) (kk : ∀ h', only 16 j h0 h' → RV (h'.1 16 j) (wai V k) → K h') : ∀ r e h, e + r = V 10 0 → only 16 j h0 h → RV (h.1 16 j) (waik V k e) → AW M_X11_waitIn (.inr (.inl K)) 13 [some (aR 16 j), some (aI (nI k)), some (aI (nI e))] [] h 0 0 := by
  have h4 := hw.1
  intro r
  induction r with
  | zero =>
    intro e h he h1 h2
    refine vc_X11_waitIn_13 j (nI k) (nI e) ?_
    obtain ⟨-, -, -, -, -, -, -, -, -, -, e0, -⟩ := RVs h2
    rw [waik_10 (by omega)] at e0
    simp (disch := omega) only [n_inT, n_cl, true_and, e0, n_le]
    refine ⟨fun _ => kk h h1 (RV_c h2 ?_ ?_ ?_), fun q => absurd (by omega) q⟩
    · rw [waik_10 (by omega)]; unfold wai; rw [if_neg (by decide), if_neg (by omega)]
    · rw [waik_10 (by omega)]; unfold wai; rw [if_neg (by decide), if_neg (by omega)]
    · intro t i hi
      rw [vLim_c (V := V) (waik_10 (by omega)) (waik_10 (by omega))] at hi
      have h5i : t = 5 → i < e := fun z => by subst z; have hi : i < V 10 0 := hi; omega
      unfold wai waik
      grind
  | succ r ih =>
    intro e h he h1 h2
    refine vc_X11_waitIn_13 j (nI k) (nI e) ?_
    obtain ⟨-, -, -, -, -, e5, -, -, -, -, e0, -⟩ := RVs h2
    rw [waik_10 (by omega)] at e0 e5
    have e5 := e5 e (by omega)
    have hbe := hw.2.2.2.2.2.1 e (by omega)
    rw [show waik V k e 5 e = V 5 e by unfold waik; rw [if_neg (by omega), if_neg (by omega)]] at e5
    simp (disch := omega) only [n_inT, n_cl, true_and, e0, n_le, n_div]
    refine ⟨fun q => by omega, fun _ => ⟨by decide, e, by omega, rfl, ?_⟩⟩
    rw [e5, nI_add, nI_add, clp_n (by omega)]
    have h3 := RV_set (waik_WF (k := k) (e := e) hw) h2 (t := 5) (i := e) (x := min 9 (V 5 e + k / 4)) (by omega) (by show e < waik V k e 10 0; rw [waik_10 (by omega)]; omega)
    refine ih (e + 1) _ (by omega) (only_tr h1 (only_wI ..)) (RV_c h3 ?_ ?_ ?_)
    · rw [uV_ne (by omega), waik_10 (by omega), waik_10 (by omega)]
    · rw [uV_ne (by omega), waik_10 (by omega), waik_10 (by omega)]
    · intro t i hi
      unfold uV waik
      grind
theorem snd_X11_waitIn (j : Nat) (x : Int32) {h : AH} {K : AH → Prop} (k : S_X11_waitIn j x h K) : AW M_X11_waitIn (.inr (.inl K)) 0 [some (aR 16 j), some (aI x), none] [] h 0 0 := by
  refine vc_X11_waitIn j x ?_
  obtain ⟨V, k, hr, hw, hk, rfl, kk⟩ := k
  obtain ⟨-, -, -, -, -, -, -, -, -, -, -, -, e2, -⟩ := RVs hr
  have hh := hw.2.2.1
  simp (disch := omega) only [n_inT, n_cl, true_and, e2, nI_add, n_rem]
  refine ⟨by decide, lp_X11_waitIn hw hk kk (V 10 0) 0 _ (by omega) (only_wI ..) ?_⟩
  have h3 := RV_set hw hr (t := 10) (i := 2) (x := (V 10 2 + k) % 24) (by omega) (show 2 < 4 by decide)
  refine RV_c h3 ?_ ?_ ?_
  · rw [uV_ne (by omega), waik_10 (by omega)]
  · rw [uV_ne (by omega), waik_10 (by omega)]
  · intro t i hi
    unfold uV waik
    grind
theorem tw_X11_waitIn : ∀ (as : List AV) (h : AH) (K : AH → Prop), T_X11_waitIn as h K → (ini as).length ≤ mNL M_X11_waitIn ∧ AW M_X11_waitIn (.inr (.inl K)) 0 (initL (mNL M_X11_waitIn) as) [] h 0 0 := by
  intro as h K hk
  match as, hk with
  | [.inr (.inr (.inl q0)), .inl q1], hk =>
    obtain ⟨hb, hk⟩ := tif_inv hk
    have e0 := hb
    obtain ⟨a0, b0⟩ := q0
    have f0 : a0 = 16 := Nat.eq_of_beq_eq_true e0
    subst f0
    exact ⟨Nat.le_of_ble_eq_true rfl, snd_X11_waitIn b0 q1 hk⟩
theorem cr_RX11_385 : CR RX11 (kIns 385) (2, 3, 65, 0, 0, .inr (.inl T_X11_waitIn)) := crS_v (M := M_X11_waitIn) (by decide) rfl (inG (i := 1031) (w := Cond.methodLink RX11 128 yX11_waitIn) (by decide +kernel) rfl) (inG (i := 1032) (w := Cond.static yX11_waitIn) (by decide +kernel) rfl) (inG (i := 40) (w := Cond.initialized RX11) (by decide +kernel) rfl) (inG (i := 1033) (w := Cond.code yX11_waitIn cX11_waitIn 3 (none)) (by decide +kernel) rfl) ⟨by decide +kernel, by decide +kernel, by decide +kernel⟩ tw_X11_waitIn

def S_X11_broughtBy (j : Nat) (a c : Int32) (h : AH) (K : Int32 → AH → Prop) : Prop := ∃ V n m, rPre j a h V n ∧ m < 8 ∧ c = nI m ∧ j ≠ 2 ∧ ∀ h', only 16 2 h h' → K (nI (brg V n m)) h'
def T_X11_broughtBy : List AV → AH → (Int32 → AH → Prop) → Prop := fun as h K => match as with
  | [.inr (.inr (.inl q0)), .inr (.inr (.inl q1)), .inl q2, .inl q3] => tif (Nat.beq q0.1 15 && Nat.beq q0.2 0 && Nat.beq q1.1 16) (S_X11_broughtBy q1.2 q2 q3 h K)
  | _ => False

def M_X11_broughtBy : MI := (RX11, cX11_broughtBy, 4, [(0, .aload_n 1, []), (1, .aload_n 0, []), (2, .getfield 16, []), (5, .invokestatic 148, []), (8, .aload_n 0, []), (9, .getfield 16, []), (12, .iload_n 2, []), (13, .iload_n 3, []), (14, .invokestatic 138, []), (17, .ireturn, [])], [(16, (15, 2, 1, 16, 2))], [], [], [(445, (2, 1, 22, 0, 0, .inr (.inl T_X11_copies))), (415, (3, 5, 116, 0, 0, .inl T_X11_throwIn))], 5, 116, 0, 0)
theorem ok_X11_broughtBy : MOK M_X11_broughtBy := ⟨by decide +kernel, List.forall_mem_cons.mpr ⟨fl_RX11_16, fun _ h => absurd h List.not_mem_nil⟩, fun _ h => absurd h List.not_mem_nil, fun _ h => absurd h List.not_mem_nil, List.forall_mem_cons.mpr ⟨⟨Nat.le_of_ble_eq_true rfl, Nat.le_of_ble_eq_true rfl, cr_RX11_445⟩, List.forall_mem_cons.mpr ⟨⟨Nat.le_of_ble_eq_true rfl, Nat.le_of_ble_eq_true rfl, cr_RX11_415⟩, fun _ h => absurd h List.not_mem_nil⟩⟩⟩
set_option maxRecDepth 100000 in
theorem vc_X11_broughtBy {K : Int32 → AH → Prop} {h : AH} (p1 : Nat) (p2 : Int32) (p3 : Int32) (H : S_X11_copies p1 2 h (fun h1 => S_X11_throwIn 2 p2 p3 h1 (fun x3 h2 => K x3 h2))) : AW M_X11_broughtBy (.inl K) 0 [some (aR 15 0), some (aR 16 p1), some (aI p2), some (aI p3)] [] h 0 0 := AW_go (cuts := []) ok_X11_broughtBy 400 H

theorem snd_X11_broughtBy (j : Nat) (a c : Int32) {h : AH} {K : Int32 → AH → Prop} (k : S_X11_broughtBy j a c h K) : AW M_X11_broughtBy (.inl K) 0 [some (aR 15 0), some (aR 16 j), some (aI a), some (aI c)] [] h 0 0 := by
  refine vc_X11_broughtBy j a c ?_
  obtain ⟨V, n, m, ⟨hr, hw, hn, rfl⟩, hm, rfl, hj, k⟩ := k
  exact ⟨hj, fun h1 o1 c1 => ⟨V, n, m, ⟨RV_cp hw hr c1, hw, hn, rfl⟩, hm, rfl, fun h2 o2 _ => k h2 (only_tr o1 o2)⟩⟩
theorem tr_X11_broughtBy : ∀ (as : List AV) (h : AH) (K : Int32 → AH → Prop), T_X11_broughtBy as h K → ∃ (q : Nat) (r : List AV), as = aR 15 q :: r := by
  intro as h K hk
  match as, hk with
  | [.inr (.inr (.inl q0)), .inr (.inr (.inl q1)), .inl q2, .inl q3], hk =>
    obtain ⟨hb, hk⟩ := tif_inv hk
    simp only [Bool.and_eq_true] at hb
    obtain ⟨⟨e0, e1⟩, e2⟩ := hb
    obtain ⟨a0, b0⟩ := q0
    obtain ⟨a1, b1⟩ := q1
    have f0 : a0 = 15 := Nat.eq_of_beq_eq_true e0
    subst f0
    have f1 : b0 = 0 := Nat.eq_of_beq_eq_true e1
    subst f1
    have f2 : a1 = 16 := Nat.eq_of_beq_eq_true e2
    subst f2
    exact ⟨_, _, rfl⟩
theorem tw_X11_broughtBy : ∀ (as : List AV) (h : AH) (K : Int32 → AH → Prop), T_X11_broughtBy as h K → (ini as).length ≤ mNL M_X11_broughtBy ∧ AW M_X11_broughtBy (.inl K) 0 (initL (mNL M_X11_broughtBy) as) [] h 0 0 := by
  intro as h K hk
  match as, hk with
  | [.inr (.inr (.inl q0)), .inr (.inr (.inl q1)), .inl q2, .inl q3], hk =>
    obtain ⟨hb, hk⟩ := tif_inv hk
    simp only [Bool.and_eq_true] at hb
    obtain ⟨⟨e0, e1⟩, e2⟩ := hb
    obtain ⟨a0, b0⟩ := q0
    obtain ⟨a1, b1⟩ := q1
    have f0 : a0 = 15 := Nat.eq_of_beq_eq_true e0
    subst f0
    have f1 : b0 = 0 := Nat.eq_of_beq_eq_true e1
    subst f1
    have f2 : a1 = 16 := Nat.eq_of_beq_eq_true e2
    subst f2
    exact ⟨Nat.le_of_ble_eq_true rfl, snd_X11_broughtBy b1 q2 q3 hk⟩
theorem cr_RX11_504 : CR RX11 (kIns 504) (4, 6, 139, 0, 0, .inl T_X11_broughtBy) := crV_i (t := 15) (M := M_X11_broughtBy) (by decide) rfl (by decide) rfl (inG (i := 1132) (w := Cond.methodLink RX11 168 yX11_broughtBy) (by decide +kernel) rfl) (inG (i := 1134) (w := Cond.instanceMethod yX11_broughtBy) (by decide +kernel) rfl) (inG (i := 40) (w := Cond.initialized RX11) (by decide +kernel) rfl) (inG (i := 25) (w := Cond.selects RX11 yX11_broughtBy yX11_broughtBy) (by decide +kernel) rfl) (inG (i := 1135) (w := Cond.code yX11_broughtBy cX11_broughtBy 4 (some .int)) (by decide +kernel) rfl) ⟨by decide +kernel, by decide +kernel, by decide +kernel⟩ tr_X11_broughtBy tw_X11_broughtBy

def S_X11_wrongThrow (a c : Int32) (h : AH) (K : Int32 → AH → Prop) : Prop := ∃ V, RV (h.1 16 0) V ∧ WF V ∧ (∀ n m, n < V 10 1 → m < 8 → a = nI n → c = nI m → K (if vFl V n < m then iI (-3) else nI 0) h) ∧ ((¬ ∃ n m, n < V 10 1 ∧ m < 8 ∧ a = nI n ∧ c = nI m) → K (iI (-1)) h)
def T_X11_wrongThrow : List AV → AH → (Int32 → AH → Prop) → Prop := fun as h K => match as with
  | [.inr (.inr (.inl q0)), .inl q1, .inl q2] => tif (Nat.beq q0.1 15 && Nat.beq q0.2 0) (S_X11_wrongThrow q1 q2 h K)
  | _ => False

def M_X11_wrongThrow : MI := (RX11, cX11_wrongThrow, 3, [(0, .aload_n 0, []), (1, .iload_n 1, []), (2, .invokevirtual 132, []), (5, .ifCond .eq 10, [15]), (8, .iload_n 2, []), (9, .invokestatic 120, []), (12, .ifCond .ne 7, [19]), (15, .iconst (-1), []), (16, .goto 21, [37]), (19, .iload_n 2, []), (20, .aload_n 0, []), (21, .getfield 9, []), (24, .iload_n 1, []), (25, .invokestatic 135, []), (28, .if_icmp .le 8, [36]), (31, .bipush (-3), []), (33, .goto 4, [37]), (36, .iconst 0, []), (37, .ireturn, [])], [(9, (15, 0, 1, 16, 0))], [], [], [(396, (2, 2, 43, 0, 0, .inl T_X11_isSheep)), (361, (1, 2, 42, 0, 0, .inl T_X11_isCell)), (406, (2, 2, 42, 0, 0, .inl T_X11_flies))], 2, 43, 0, 0)
theorem ok_X11_wrongThrow : MOK M_X11_wrongThrow := ⟨by decide +kernel, List.forall_mem_cons.mpr ⟨fl_RX11_9, fun _ h => absurd h List.not_mem_nil⟩, fun _ h => absurd h List.not_mem_nil, fun _ h => absurd h List.not_mem_nil, List.forall_mem_cons.mpr ⟨⟨Nat.le_of_ble_eq_true rfl, Nat.le_of_ble_eq_true rfl, cr_RX11_396⟩, List.forall_mem_cons.mpr ⟨⟨Nat.le_of_ble_eq_true rfl, Nat.le_of_ble_eq_true rfl, cr_RX11_361⟩, List.forall_mem_cons.mpr ⟨⟨Nat.le_of_ble_eq_true rfl, Nat.le_of_ble_eq_true rfl, cr_RX11_406⟩, fun _ h => absurd h List.not_mem_nil⟩⟩⟩⟩
set_option maxRecDepth 100000 in
theorem vc_X11_wrongThrow {K : Int32 → AH → Prop} {h : AH} (p1 : Int32) (p2 : Int32) (H : S_X11_isSheep p1 h (fun x2 h1 => ((x2 = 0) → K (iI (-1)) h1) ∧ (¬ (x2 = 0) → S_X11_isCell p2 h1 (fun x4 h3 => ((¬ x4 = 0) → S_X11_flies 0 p1 h3 (fun x6 h5 => ((p2 ≤ x6) → K (nI 0) h5) ∧ (¬ (p2 ≤ x6) → K (iI (-3)) h5))) ∧ (¬ (¬ x4 = 0) → K (iI (-1)) h3))))) : AW M_X11_wrongThrow (.inl K) 0 [some (aR 15 0), some (aI p1), some (aI p2)] [] h 0 0 := AW_go (cuts := []) ok_X11_wrongThrow 400 H

/-- an index below n, as the code asks for it -/
theorem in_iff {x : Int32} {n : Nat} (hn : n < 2147483648) : (nI 0 ≤ x ∧ x ≤ nI n - nI 1) ↔ ∃ k, k < n ∧ x = nI k := by
  constructor
  · rintro ⟨h1, h2⟩
    cases n with
    | zero =>
      exfalso
      have h3 : (nI 0).toInt ≤ x.toInt := Int32.le_iff_toInt_le.mp h1
      have h4 : x.toInt ≤ (nI 0 - nI 1).toInt := Int32.le_iff_toInt_le.mp h2
      have h5 : (nI 0).toInt = 0 := by decide
      have h6 : (nI 0 - nI 1).toInt = -1 := by decide
      omega
    | succ n =>
      rw [n_sub (by omega), Nat.add_sub_cancel] at h2
      obtain ⟨k, hk, e⟩ := n_of (by omega) h1 h2
      exact ⟨k, by omega, e⟩
  · rintro ⟨k, hk, rfl⟩
    rw [n_sub (by omega), n_le (by omega) (by omega), n_le (by omega) (by omega)]
    omega
theorem in8_iff {x : Int32} : (nI 0 ≤ x ∧ x ≤ nI 7) ↔ ∃ k, k < 8 ∧ x = nI k := by
  have := in_iff (x := x) (n := 8) (by omega)
  rw [n_sub (by omega)] at this
  exact this
theorem if10_eq {p : Prop} [Decidable p] : ((if p then nI 1 else nI 0) = 0) ↔ ¬ p := by
  split
  · constructor
    · intro h; cases h
    · intro h; contradiction
  · constructor
    · intro _; assumption
    · intro _; rfl
theorem snd_X11_wrongThrow (a c : Int32) {h : AH} {K : Int32 → AH → Prop} (k : S_X11_wrongThrow a c h K) : AW M_X11_wrongThrow (.inl K) 0 [some (aR 15 0), some (aI a), some (aI c)] [] h 0 0 := by
  refine vc_X11_wrongThrow a c ?_
  obtain ⟨V, hr, hw, k1, k2⟩ := k
  have h7 := hw.2.1
  obtain ⟨-, -, -, -, -, -, -, -, -, -, -, e1, -, -⟩ := RVs hr
  unfold S_X11_isSheep S_X11_isCell
  rw [e1]
  simp only [if10_eq, in_iff (x := a) (n := V 10 1) (by omega), in8_iff]
  refine ⟨fun q => k2 (fun ⟨n, m, a1, a2, a3, a4⟩ => q ⟨n, a1, a3⟩), fun q => ⟨fun q2 => ?_, fun q2 => k2 (fun ⟨n, m, a1, a2, a3, a4⟩ => ?_)⟩⟩
  · obtain ⟨n, hn, rfl⟩ := Decidable.not_not.mp q
    obtain ⟨m, hm, rfl⟩ := Decidable.not_not.mp q2
    have := k1 n m hn hm rfl rfl
    have hf : vFl V n ≤ 7 := fly_le _
    refine ⟨V, n, ⟨hr, hw, hn, rfl⟩, ?_⟩
    simp (disch := omega) only [n_le]
    refine ⟨fun z => ?_, fun z => ?_⟩
    · rw [if_neg (by omega)] at this; exact this
    · rw [if_pos (by omega)] at this; exact this
  · exact q2 (fun z => z ⟨m, a2, a4⟩)
theorem tr_X11_wrongThrow : ∀ (as : List AV) (h : AH) (K : Int32 → AH → Prop), T_X11_wrongThrow as h K → ∃ (q : Nat) (r : List AV), as = aR 15 q :: r := by
  intro as h K hk
  match as, hk with
  | [.inr (.inr (.inl q0)), .inl q1, .inl q2], hk =>
    obtain ⟨hb, hk⟩ := tif_inv hk
    simp only [Bool.and_eq_true] at hb
    obtain ⟨e0, e1⟩ := hb
    obtain ⟨a0, b0⟩ := q0
    have f0 : a0 = 15 := Nat.eq_of_beq_eq_true e0
    subst f0
    have f1 : b0 = 0 := Nat.eq_of_beq_eq_true e1
    subst f1
    exact ⟨_, _, rfl⟩
theorem tw_X11_wrongThrow : ∀ (as : List AV) (h : AH) (K : Int32 → AH → Prop), T_X11_wrongThrow as h K → (ini as).length ≤ mNL M_X11_wrongThrow ∧ AW M_X11_wrongThrow (.inl K) 0 (initL (mNL M_X11_wrongThrow) as) [] h 0 0 := by
  intro as h K hk
  match as, hk with
  | [.inr (.inr (.inl q0)), .inl q1, .inl q2], hk =>
    obtain ⟨hb, hk⟩ := tif_inv hk
    simp only [Bool.and_eq_true] at hb
    obtain ⟨e0, e1⟩ := hb
    obtain ⟨a0, b0⟩ := q0
    have f0 : a0 = 15 := Nat.eq_of_beq_eq_true e0
    subst f0
    have f1 : b0 = 0 := Nat.eq_of_beq_eq_true e1
    subst f1
    exact ⟨Nat.le_of_ble_eq_true rfl, snd_X11_wrongThrow q1 q2 hk⟩
theorem cr_RX11_495 : CR RX11 (kIns 495) (3, 3, 65, 0, 0, .inl T_X11_wrongThrow) := crV_i (t := 15) (M := M_X11_wrongThrow) (by decide) rfl (by decide) rfl (inG (i := 1120) (w := Cond.methodLink RX11 165 yX11_wrongThrow) (by decide +kernel) rfl) (inG (i := 1122) (w := Cond.instanceMethod yX11_wrongThrow) (by decide +kernel) rfl) (inG (i := 40) (w := Cond.initialized RX11) (by decide +kernel) rfl) (inG (i := 24) (w := Cond.selects RX11 yX11_wrongThrow yX11_wrongThrow) (by decide +kernel) rfl) (inG (i := 1123) (w := Cond.code yX11_wrongThrow cX11_wrongThrow 3 (some .int)) (by decide +kernel) rfl) ⟨by decide +kernel, by decide +kernel, by decide +kernel⟩ tr_X11_wrongThrow tw_X11_wrongThrow
end
section
/-! ===== the reference: best throws ===== -/
theorem nI_iI (k : Nat) : nI k = iI (k : Int) := Int32.ofInt_eq_ofNat.symm
theorem i_toInt {a : Int} (h1 : -2147483648 ≤ a) (h2 : a < 2147483648) : (iI a).toInt = a := Int32.toInt_ofInt_of_le (by omega) (by omega)
theorem i_lt {a b : Int} (a1 : -2147483648 ≤ a) (a2 : a < 2147483648) (b1 : -2147483648 ≤ b) (b2 : b < 2147483648) : iI a < iI b ↔ a < b := by
  rw [Int32.lt_iff_toInt_lt, i_toInt a1 a2, i_toInt b1 b2]
theorem i_le {a b : Int} (a1 : -2147483648 ≤ a) (a2 : a < 2147483648) (b1 : -2147483648 ≤ b) (b2 : b < 2147483648) : iI a ≤ iI b ↔ a ≤ b := by
  rw [Int32.le_iff_toInt_le, i_toInt a1 a2, i_toInt b1 b2]
theorem i_eq {a b : Int} (a1 : -2147483648 ≤ a) (a2 : a < 2147483648) (b1 : -2147483648 ≤ b) (b2 : b < 2147483648) : iI a = iI b ↔ a = b := by
  rw [← Int32.toInt_inj, i_toInt a1 a2, i_toInt b1 b2]
theorem i_add (a b : Int) : iI a + iI b = iI (a + b) := (Int32.ofInt_add a b).symm
theorem i_sub (a b : Int) : iI a - iI b = iI (a - b) := (Int32.ofInt_sub a b).symm
theorem n_subI (a b : Nat) : nI a - nI b = iI ((a : Int) - b) := by rw [nI_iI, nI_iI, i_sub]
theorem i_0 : (0 : Int32) = iI 0 := by decide
theorem i_far : (-1000000000 : Int32) = iI (-1000000000) := by decide
def gn (V : Vm) (s c : Nat) : Int := (brg V s c : Int) - (vPr V s : Int)
/-- the first of the greatest, over one number and over two -/
def am1 (f : Nat → Int) : Nat → Int × Int → Int × Int
  | 0, p => p
  | k + 1, p => if (am1 f k p).2 < f k then ((k : Int), f k) else am1 f k p
def amC (f : Nat → Int) (s : Nat) : Nat → Int × Int → Int × Int
  | 0, p => p
  | k + 1, p => if (amC f s k p).2 < f k then (((10 * s + k : Nat) : Int), f k) else amC f s k p
def amA (f : Nat → Nat → Int) (lim : Nat → Nat) : Nat → Int × Int → Int × Int
  | 0, p => p
  | a + 1, p => amC (f a) a (lim a + 1) (amA f lim a p)
def bst (V : Vm) : Int × Int := amA (gn V) (vFl V) (V 10 1) (-4, -1000000000)
theorem am1_b {f : Nat → Int} {n : Nat} {p : Int × Int} {A B : Int} (hf : ∀ k, k < n → f k ≤ B ∧ A ≤ f k) (h1 : A ≤ p.2) (h2 : p.2 ≤ B) (h3 : 0 ≤ p.1) (h4 : p.1 ≤ n) : ∀ k, k ≤ n → A ≤ (am1 f k p).2 ∧ (am1 f k p).2 ≤ B ∧ 0 ≤ (am1 f k p).1 ∧ (am1 f k p).1 ≤ n := by
  intro k
  induction k with
  | zero => intro _; exact ⟨h1, h2, h3, h4⟩
  | succ k ih =>
    intro hk
    have i := ih (by omega)
    have j := hf k (by omega)
    unfold am1
    split
    · exact ⟨j.2, j.1, by simp, by simp; omega⟩
    · exact i
theorem amC_b {f : Nat → Int} {s n : Nat} {p : Int × Int} {A B : Int} (hs : s < 7) (hn : n ≤ 8) (hf : ∀ k, k < n → f k ≤ B ∧ A ≤ f k) (h1 : A ≤ p.2) (h2 : p.2 ≤ B) (h3 : -4 ≤ p.1) (h4 : p.1 ≤ 67) : ∀ k, k ≤ n → A ≤ (amC f s k p).2 ∧ (amC f s k p).2 ≤ B ∧ -4 ≤ (amC f s k p).1 ∧ (amC f s k p).1 ≤ 67 := by
  intro k
  induction k with
  | zero => intro _; exact ⟨h1, h2, h3, h4⟩
  | succ k ih =>
    intro hk
    have i := ih (by omega)
    have j := hf k (by omega)
    unfold amC
    split
    · refine ⟨j.2, j.1, ?_, ?_⟩
      · show -4 ≤ ((10 * s + k : Nat) : Int); omega
      · show ((10 * s + k : Nat) : Int) ≤ 67; omega
    · exact i
theorem amA_b {f : Nat → Nat → Int} {lim : Nat → Nat} {n : Nat} {p : Int × Int} {A B : Int} (hn : n ≤ 7) (hl : ∀ s, s < n → lim s ≤ 7) (hf : ∀ s k, s < n → k ≤ lim s → f s k ≤ B ∧ A ≤ f s k) (h1 : A ≤ p.2) (h2 : p.2 ≤ B) (h3 : -4 ≤ p.1) (h4 : p.1 ≤ 67) : ∀ k, k ≤ n → A ≤ (amA f lim k p).2 ∧ (amA f lim k p).2 ≤ B ∧ -4 ≤ (amA f lim k p).1 ∧ (amA f lim k p).1 ≤ 67 := by
  intro k
  induction k with
  | zero => intro _; exact ⟨h1, h2, h3, h4⟩
  | succ k ih =>
    intro hk
    obtain ⟨i1, i2, i3, i4⟩ := ih (by omega)
    unfold amA
    have := hl k (by omega)
    exact amC_b (n := lim k + 1) (by omega) (by omega) (fun c hc => hf k c (by omega) (by omega)) i1 i2 i3 i4 (lim k + 1) (Nat.le_refl _)
theorem gn_b {V : Vm} {s c : Nat} (hw : WF V) (hs : s < V 10 1) (hc : c < 8) : gn V s c ≤ 54 ∧ -34 ≤ gn V s c := by
  have h1 := brg_le hw hs hc
  have h2 : vPr V s ≤ 34 := prc_le (hw.2.2.2.2.2.2 s hs).2
  unfold gn
  omega
theorem bst_b {V : Vm} (hw : WF V) : ∀ a, a ≤ V 10 1 → -1000000000 ≤ (amA (gn V) (vFl V) a (-4, -1000000000)).2 ∧ (amA (gn V) (vFl V) a (-4, -1000000000)).2 ≤ 54 ∧ -4 ≤ (amA (gn V) (vFl V) a (-4, -1000000000)).1 ∧ (amA (gn V) (vFl V) a (-4, -1000000000)).1 ≤ 67 := by
  have h7 := hw.2.1
  refine amA_b (n := V 10 1) h7 (fun s _ => fly_le _) (fun s k hs hk => ?_) (by simp) (by simp) (by simp) (by simp)
  have hf : vFl V s ≤ 7 := fly_le _
  have := gn_b hw hs (show k < 8 by omega)
  omega
def onlyB (h h' : AH) : Prop := h'.2 = h.2 ∧ ∀ a b i, ¬ (a = 16 ∧ b = 2) → ¬ (a = 15 ∧ i = 10) → h'.1 a b i = h.1 a b i
theorem onlyB_rfl (h : AH) : onlyB h h := ⟨rfl, fun _ _ _ _ _ => rfl⟩
theorem onlyB_tr {h h1 h2 : AH} (a : onlyB h h1) (b : onlyB h1 h2) : onlyB h h2 := ⟨b.1.trans a.1, fun x y i q1 q2 => (b.2 x y i q1 q2).trans (a.2 x y i q1 q2)⟩
theorem onlyB_o {h h1 : AH} (a : only 16 2 h h1) : onlyB h h1 := ⟨a.1, fun x y i q1 _ => by rw [a.2 x y q1]⟩
theorem onlyB_w (h : AH) (x : Int32) : onlyB h (wI h 15 0 10 x) := ⟨rfl, fun a b i _ q => by show uI h.1 15 0 10 x a b i = _; unfold uI; rw [if_neg (fun e => q ⟨e.1, e.2.2⟩)]⟩
theorem onlyB_r {h h1 : AH} {j : Nat} (hj : j ≠ 2) (a : onlyB h h1) : h1.1 16 j = h.1 16 j := funext fun i => a.2 16 j i (fun e => hj e.2) (fun e => by omega)
def S_X11_bestBy (j : Nat) (h : AH) (K : Int32 → AH → Prop) : Prop := ∃ V, RV (h.1 16 j) V ∧ WF V ∧ j ≠ 2 ∧ ∀ h', onlyB h h' → h'.1 15 0 10 = iI (bst V).2 → K (iI (bst V).1) h'
def T_X11_bestBy : List AV → AH → (Int32 → AH → Prop) → Prop := fun as h K => match as with
  | [.inr (.inr (.inl q0)), .inr (.inr (.inl q1))] => tif (Nat.beq q0.1 15 && Nat.beq q0.2 0 && Nat.beq q1.1 16) (S_X11_bestBy q1.2 h K)
  | _ => False

def M_X11_bestBy : MI := (RX11, cX11_bestBy, 6, [(0, .bipush (-4), []), (2, .istore_n 2, []), (3, .aload_n 0, []), (4, .ldc 171, []), (6, .putfield 172, []), (9, .iconst 0, []), (10, .istore_n 3, []), (11, .iload_n 3, []), (12, .aload_n 1, []), (13, .iconst 1, []), (14, .iaload, []), (15, .if_icmp .ge 70, [85]), (18, .iconst 0, []), (19, .istore 4, []), (21, .iload 4, []), (23, .aload_n 1, []), (24, .iload_n 3, []), (25, .invokestatic 135, []), (28, .if_icmp .gt 51, [79]), (31, .aload_n 0, []), (32, .aload_n 1, []), (33, .iload_n 3, []), (34, .iload 4, []), (36, .invokevirtual 168, []), (39, .aload_n 1, []), (40, .iload_n 3, []), (41, .invokestatic 158, []), (44, .isub, []), (45, .istore 5, []), (47, .iload 5, []), (49, .aload_n 0, []), (50, .getfield 172, []), (53, .if_icmp .gt 6, [59]), (56, .goto 17, [73]), (59, .bipush 10, []), (61, .iload_n 3, []), (62, .imul, []), (63, .iload 4, []), (65, .iadd, []), (66, .istore_n 2, []), (67, .aload_n 0, []), (68, .iload 5, []), (70, .putfield 172, []), (73, .iinc 4 1, []), (76, .goto (-55), [21]), (79, .iinc 3 1, []), (82, .goto (-71), [11]), (85, .iload_n 2, []), (86, .ireturn, [])], [(172, (15, 10, 0, 0, 0))], [(171, (-1000000000))], [], [(406, (2, 2, 42, 0, 0, .inl T_X11_flies)), (504, (4, 6, 139, 0, 0, .inl T_X11_broughtBy)), (475, (2, 2, 43, 0, 0, .inl T_X11_price))], 6, 139, 0, 0)
theorem ok_X11_bestBy : MOK M_X11_bestBy := ⟨by decide +kernel, List.forall_mem_cons.mpr ⟨fl_RX11_172, fun _ h => absurd h List.not_mem_nil⟩, List.forall_mem_cons.mpr ⟨(inG (i := 1148) (w := Cond.constant RX11 171 (-1000000000)) (by decide +kernel) rfl), fun _ h => absurd h List.not_mem_nil⟩, fun _ h => absurd h List.not_mem_nil, List.forall_mem_cons.mpr ⟨⟨Nat.le_of_ble_eq_true rfl, Nat.le_of_ble_eq_true rfl, cr_RX11_406⟩, List.forall_mem_cons.mpr ⟨⟨Nat.le_of_ble_eq_true rfl, Nat.le_of_ble_eq_true rfl, cr_RX11_504⟩, List.forall_mem_cons.mpr ⟨⟨Nat.le_of_ble_eq_true rfl, Nat.le_of_ble_eq_true rfl, cr_RX11_475⟩, fun _ h => absurd h List.not_mem_nil⟩⟩⟩⟩
set_option maxRecDepth 100000 in
theorem vc_X11_bestBy {K : Int32 → AH → Prop} {h : AH} (p1 : Nat) (H : AW M_X11_bestBy (.inl K) 11 [some (aR 15 0), some (aR 16 p1), some (aI (iI (-4))), some (aI (nI 0)), none, none] [] (wI h 15 0 10 (-1000000000 : Int32)) 0 0) : AW M_X11_bestBy (.inl K) 0 [some (aR 15 0), some (aR 16 p1), none, none, none, none] [] h 0 0 := AW_go (cuts := [(11, [true, true, true, true, false, false]), (21, [true, true, true, true, true, false])]) ok_X11_bestBy 400 H
set_option maxRecDepth 100000 in
theorem vc_X11_bestBy_11 {K : Int32 → AH → Prop} {h : AH}  (l1 : Nat) (l2 : Int32) (l3 : Int32) (H : inR (nI 1) 62 ∧ (((h.1 16 l1 (nI 1).toNatClampNeg) ≤ l3) → K l2 h) ∧ (¬ ((h.1 16 l1 (nI 1).toNatClampNeg) ≤ l3) → AW M_X11_bestBy (.inl K) 21 [some (aR 15 0), some (aR 16 l1), some (aI l2), some (aI l3), some (aI (nI 0)), none] [] h 0 0)) : AW M_X11_bestBy (.inl K) 11 [some (aR 15 0), some (aR 16 l1), some (aI l2), some (aI l3), none, none] [] h 0 0 := AW_go (cuts := [(11, [true, true, true, true, false, false]), (21, [true, true, true, true, true, false])]) ok_X11_bestBy 400 H
set_option maxRecDepth 100000 in
theorem vc_X11_bestBy_21 {K : Int32 → AH → Prop} {h : AH}  (l1 : Nat) (l2 : Int32) (l3 : Int32) (l4 : Int32) (H : S_X11_flies l1 l3 h (fun x2 h1 => ((x2 < l4) → AW M_X11_bestBy (.inl K) 11 [some (aR 15 0), some (aR 16 l1), some (aI l2), some (aI (l3 + (nI 1))), none, none] [] h1 0 0) ∧ (¬ (x2 < l4) → S_X11_broughtBy l1 l3 l4 h1 (fun x4 h3 => S_X11_price l1 l3 h3 (fun x6 h5 => (((h5.1 15 0 10) < (x4 - x6)) → AW M_X11_bestBy (.inl K) 21 [some (aR 15 0), some (aR 16 l1), some (aI (((nI 10) * l3) + l4)), some (aI l3), some (aI (l4 + (nI 1))), none] [] (wI h5 15 0 10 (x4 - x6)) 0 0) ∧ (¬ ((h5.1 15 0 10) < (x4 - x6)) → AW M_X11_bestBy (.inl K) 21 [some (aR 15 0), some (aR 16 l1), some (aI l2), some (aI l3), some (aI (l4 + (nI 1))), none] [] h5 0 0)))))) : AW M_X11_bestBy (.inl K) 21 [some (aR 15 0), some (aR 16 l1), some (aI l2), some (aI l3), some (aI l4), none] [] h 0 0 := AW_go (cuts := [(11, [true, true, true, true, false, false]), (21, [true, true, true, true, true, false])]) ok_X11_bestBy 400 H

theorem lp_X11_bestBy {j : Nat} {V : Vm} {h0 : AH} {K : Int32 → AH → Prop} (hr : RV (h0.1 16 j) V) (hw : WF V) (hj : j ≠ 2) (k : ∀ h', onlyB h0 h' → h'.1 15 0 10 = iI (bst V).2 → K (iI (bst V).1) h') : ∀ r a h, a + r = V 10 1 → onlyB h0 h → h.1 15 0 10 = iI (amA (gn V) (vFl V) a (-4, -1000000000)).2 → AW M_X11_bestBy (.inl K) 11 [some (aR 15 0), some (aR 16 j), some (aI (iI (amA (gn V) (vFl V) a (-4, -1000000000)).1)), some (aI (nI a)), none, none] [] h 0 0 := by
  have h7 := hw.2.1
  intro r
  induction r with
  | zero =>
    intro a h ha h1 h2
    refine vc_X11_bestBy_11 j _ (nI a) ?_
    obtain ⟨-, -, -, -, -, -, -, -, -, -, -, e1, -, -⟩ := RVs hr
    rw [← onlyB_r hj h1] at e1
    simp (disch := omega) only [n_inT, n_cl, true_and, e1, n_le]
    have : a = V 10 1 := by omega
    subst this
    exact ⟨fun _ => k h h1 h2, fun q => absurd (by omega) q⟩
  | succ r ih =>
    intro a h ha h1 h2
    refine vc_X11_bestBy_11 j _ (nI a) ?_
    have hr' := hr
    rw [← onlyB_r hj h1] at hr'
    obtain ⟨-, -, -, -, -, -, -, -, -, -, -, e1, -, -⟩ := RVs hr'
    simp (disch := omega) only [n_inT, n_cl, true_and, e1, n_le]
    refine ⟨fun q => by omega, fun _ => ?_⟩
    have hf : vFl V a ≤ 7 := fly_le _
    have hpr : vPr V a ≤ 34 := prc_le (hw.2.2.2.2.2.2 a (by omega)).2
    obtain ⟨b1, b2, b3, b4⟩ := bst_b hw a (by omega)
    have bC := amC_b (s := a) (n := vFl V a + 1) (f := gn V a) (p := amA (gn V) (vFl V) a (-4, -1000000000)) (A := -1000000000) (B := 54) (by omega) (by omega) (fun c hc => by have := gn_b hw (show a < V 10 1 by omega) (show c < 8 by omega); omega) b1 b2 b3 b4
    have inner : ∀ r2 c h, c + r2 = vFl V a + 1 → onlyB h0 h → h.1 15 0 10 = iI (amC (gn V a) a c (amA (gn V) (vFl V) a (-4, -1000000000))).2 → AW M_X11_bestBy (.inl K) 21 [some (aR 15 0), some (aR 16 j), some (aI (iI (amC (gn V a) a c (amA (gn V) (vFl V) a (-4, -1000000000))).1)), some (aI (nI a)), some (aI (nI c)), none] [] h 0 0 := by
      intro r2
      induction r2 with
      | zero =>
        intro c h hc h1 h2
        refine vc_X11_bestBy_21 j _ (nI a) (nI c) ?_
        have hr' := hr
        rw [← onlyB_r hj h1] at hr'
        refine ⟨V, a, ⟨hr', hw, by omega, rfl⟩, ?_⟩
        simp (disch := omega) only [n_lt, nI_add]
        refine ⟨fun _ => ?_, fun q => absurd (by omega) q⟩
        have : c = vFl V a + 1 := by omega
        subst this
        exact ih (a + 1) h (by omega) h1 h2
      | succ r2 ih2 =>
        intro c h hc h1 h2
        refine vc_X11_bestBy_21 j _ (nI a) (nI c) ?_
        have hr' := hr
        rw [← onlyB_r hj h1] at hr'
        refine ⟨V, a, ⟨hr', hw, by omega, rfl⟩, ?_⟩
        simp (disch := omega) only [n_lt, nI_add, pk_mul]
        refine ⟨fun q => by omega, fun _ => ⟨V, a, c, ⟨hr', hw, by omega, rfl⟩, by omega, rfl, hj, fun h3 o3 => ?_⟩⟩
        have o3 := onlyB_tr h1 (onlyB_o o3)
        have hr3 := hr
        rw [← onlyB_r hj o3] at hr3
        refine ⟨V, a, ⟨hr3, hw, by omega, rfl⟩, ?_⟩
        have e3 : h3.1 15 0 10 = iI (amC (gn V a) a c (amA (gn V) (vFl V) a (-4, -1000000000))).2 := by
          rw [← h2]
          have : only 16 2 h h3 := by assumption
          rw [this.2 15 0 (by omega)]
        obtain ⟨c1, c2, c3, c4⟩ := bC c (by omega)
        have hg := gn_b hw (show a < V 10 1 by omega) (show c < 8 by omega)
        dsimp only
        rw [e3, n_subI, show (brg V a c : Int) - (vPr V a : Int) = gn V a c from rfl, i_lt (by omega) (by omega) (by omega) (by omega)]
        refine ⟨fun q => ?_, fun q => ?_⟩
        · have e4 : amC (gn V a) a (c + 1) (amA (gn V) (vFl V) a (-4, -1000000000)) = (((10 * a + c : Nat) : Int), gn V a c) := by rw [amC, if_pos q]
          have := ih2 (c + 1) (wI h3 15 0 10 (iI (gn V a c))) (by omega) (onlyB_tr o3 (onlyB_w ..)) (by rw [e4]; exact wI_at ..)
          rw [e4] at this
          rw [nI_iI (10 * a + c)]
          exact this
        · have e4 : amC (gn V a) a (c + 1) (amA (gn V) (vFl V) a (-4, -1000000000)) = amC (gn V a) a c (amA (gn V) (vFl V) a (-4, -1000000000)) := by rw [amC, if_neg q]
          have := ih2 (c + 1) h3 (by omega) o3 (by rw [e4]; exact e3)
          rw [e4] at this
          exact this
    exact inner (vFl V a + 1) 0 h (by omega) h1 h2
theorem snd_X11_bestBy (j : Nat) {h : AH} {K : Int32 → AH → Prop} (k : S_X11_bestBy j h K) : AW M_X11_bestBy (.inl K) 0 [some (aR 15 0), some (aR 16 j), none, none, none, none] [] h 0 0 := by
  obtain ⟨V, hr, hw, hj, k⟩ := k
  refine vc_X11_bestBy j ?_
  rw [i_far]
  exact lp_X11_bestBy (h0 := h) hr hw hj k (V 10 1) 0 _ (by omega) (onlyB_w ..) (show uI h.1 15 0 10 (iI (-1000000000)) 15 0 10 = iI (-1000000000) from uI_at ..)
theorem tr_X11_bestBy : ∀ (as : List AV) (h : AH) (K : Int32 → AH → Prop), T_X11_bestBy as h K → ∃ (q : Nat) (r : List AV), as = aR 15 q :: r := by
  intro as h K hk
  match as, hk with
  | [.inr (.inr (.inl q0)), .inr (.inr (.inl q1))], hk =>
    obtain ⟨hb, hk⟩ := tif_inv hk
    simp only [Bool.and_eq_true] at hb
    obtain ⟨⟨e0, e1⟩, e2⟩ := hb
    obtain ⟨a0, b0⟩ := q0
    obtain ⟨a1, b1⟩ := q1
    have f0 : a0 = 15 := Nat.eq_of_beq_eq_true e0
    subst f0
    have f1 : b0 = 0 := Nat.eq_of_beq_eq_true e1
    subst f1
    have f2 : a1 = 16 := Nat.eq_of_beq_eq_true e2
    subst f2
    exact ⟨_, _, rfl⟩
theorem tw_X11_bestBy : ∀ (as : List AV) (h : AH) (K : Int32 → AH → Prop), T_X11_bestBy as h K → (ini as).length ≤ mNL M_X11_bestBy ∧ AW M_X11_bestBy (.inl K) 0 (initL (mNL M_X11_bestBy) as) [] h 0 0 := by
  intro as h K hk
  match as, hk with
  | [.inr (.inr (.inl q0)), .inr (.inr (.inl q1))], hk =>
    obtain ⟨hb, hk⟩ := tif_inv hk
    simp only [Bool.and_eq_true] at hb
    obtain ⟨⟨e0, e1⟩, e2⟩ := hb
    obtain ⟨a0, b0⟩ := q0
    obtain ⟨a1, b1⟩ := q1
    have f0 : a0 = 15 := Nat.eq_of_beq_eq_true e0
    subst f0
    have f1 : b0 = 0 := Nat.eq_of_beq_eq_true e1
    subst f1
    have f2 : a1 = 16 := Nat.eq_of_beq_eq_true e2
    subst f2
    exact ⟨Nat.le_of_ble_eq_true rfl, snd_X11_bestBy b1 hk⟩
theorem cr_RX11_525 : CR RX11 (kIns 525) (2, 7, 164, 0, 0, .inl T_X11_bestBy) := crV_i (t := 15) (M := M_X11_bestBy) (by decide) rfl (by decide) rfl (inG (i := 1144) (w := Cond.methodLink RX11 175 yX11_bestBy) (by decide +kernel) rfl) (inG (i := 1146) (w := Cond.instanceMethod yX11_bestBy) (by decide +kernel) rfl) (inG (i := 40) (w := Cond.initialized RX11) (by decide +kernel) rfl) (inG (i := 26) (w := Cond.selects RX11 yX11_bestBy yX11_bestBy) (by decide +kernel) rfl) (inG (i := 1147) (w := Cond.code yX11_bestBy cX11_bestBy 6 (some .int)) (by decide +kernel) rfl) ⟨by decide +kernel, by decide +kernel, by decide +kernel⟩ tr_X11_bestBy tw_X11_bestBy

/-! ===== what stays of the reference's state ===== -/
def keepM (h h' : AH) : Prop := h'.2 = h.2 ∧ ∀ a b i, ¬ ((a = 16 ∧ b ≠ 0 ∧ b ≠ 3) ∨ (a = 15 ∧ i ≠ 5) ∨ a = 17 ∨ a = 19 ∨ a = 20) → h'.1 a b i = h.1 a b i
theorem keepM_rfl (h : AH) : keepM h h := ⟨rfl, fun _ _ _ _ => rfl⟩
theorem keepM_tr {h h1 h2 : AH} (a : keepM h h1) (b : keepM h1 h2) : keepM h h2 := ⟨b.1.trans a.1, fun x y i q => (b.2 x y i q).trans (a.2 x y i q)⟩
theorem keepM_o {j : Nat} {h h1 : AH} (h0 : j ≠ 0) (h3 : j ≠ 3) (a : only 16 j h h1) : keepM h h1 := ⟨a.1, fun x y i q => by rw [a.2 x y (fun e => q (Or.inl ⟨e.1, by omega, by omega⟩))]⟩
theorem keepM_B {h h1 : AH} (a : onlyB h h1) : keepM h h1 := ⟨a.1, fun x y i q => a.2 x y i (fun e => q (Or.inl ⟨e.1, by omega, by omega⟩)) (fun e => q (Or.inr (Or.inl ⟨e.1, by omega⟩)))⟩
theorem keepM_r0 {h h1 : AH} (a : keepM h h1) : h1.1 16 0 = h.1 16 0 := funext fun i => a.2 16 0 i (by omega)
theorem keepM_w {h : AH} {t p i : Nat} {x : Int32} (hq : (t = 16 ∧ p ≠ 0 ∧ p ≠ 3) ∨ (t = 15 ∧ i ≠ 5) ∨ t = 17 ∨ t = 19 ∨ t = 20) : keepM h (wI h t p i x) := ⟨rfl, fun a b j q => by
  show uI h.1 t p i x a b j = _
  unfold uI
  rw [if_neg]
  rintro ⟨rfl, rfl, rfl⟩
  exact q hq⟩
def S_X11_bestThrow (h : AH) (K : Int32 → AH → Prop) : Prop := ∃ V, RV (h.1 16 0) V ∧ WF V ∧ ∀ h', keepM h h' → K (iI (bst V).1) h'
def T_X11_bestThrow : List AV → AH → (Int32 → AH → Prop) → Prop := fun as h K => match as with
  | [.inr (.inr (.inl q0))] => tif (Nat.beq q0.1 15 && Nat.beq q0.2 0) (S_X11_bestThrow h K)
  | _ => False

def M_X11_bestThrow : MI := (RX11, cX11_bestThrow, 1, [(0, .aload_n 0, []), (1, .aload_n 0, []), (2, .getfield 9, []), (5, .invokevirtual 175, []), (8, .ireturn, [])], [(9, (15, 0, 1, 16, 0))], [], [], [(525, (2, 7, 164, 0, 0, .inl T_X11_bestBy))], 7, 164, 0, 0)
theorem ok_X11_bestThrow : MOK M_X11_bestThrow := ⟨by decide +kernel, List.forall_mem_cons.mpr ⟨fl_RX11_9, fun _ h => absurd h List.not_mem_nil⟩, fun _ h => absurd h List.not_mem_nil, fun _ h => absurd h List.not_mem_nil, List.forall_mem_cons.mpr ⟨⟨Nat.le_of_ble_eq_true rfl, Nat.le_of_ble_eq_true rfl, cr_RX11_525⟩, fun _ h => absurd h List.not_mem_nil⟩⟩
set_option maxRecDepth 100000 in
theorem vc_X11_bestThrow {K : Int32 → AH → Prop} {h : AH}  (H : S_X11_bestBy 0 h (fun x2 h1 => K x2 h1)) : AW M_X11_bestThrow (.inl K) 0 [some (aR 15 0)] [] h 0 0 := AW_go (cuts := []) ok_X11_bestThrow 400 H

theorem snd_X11_bestThrow {h : AH} {K : Int32 → AH → Prop} (k : S_X11_bestThrow h K) : AW M_X11_bestThrow (.inl K) 0 [some (aR 15 0)] [] h 0 0 := by
  obtain ⟨V, hr, hw, k⟩ := k
  exact vc_X11_bestThrow ⟨V, hr, hw, by decide, fun h' o _ => k h' (keepM_B o)⟩
theorem tr_X11_bestThrow : ∀ (as : List AV) (h : AH) (K : Int32 → AH → Prop), T_X11_bestThrow as h K → ∃ (q : Nat) (r : List AV), as = aR 15 q :: r := by
  intro as h K hk
  match as, hk with
  | [.inr (.inr (.inl q0))], hk =>
    obtain ⟨hb, hk⟩ := tif_inv hk
    simp only [Bool.and_eq_true] at hb
    obtain ⟨e0, e1⟩ := hb
    obtain ⟨a0, b0⟩ := q0
    have f0 : a0 = 15 := Nat.eq_of_beq_eq_true e0
    subst f0
    have f1 : b0 = 0 := Nat.eq_of_beq_eq_true e1
    subst f1
    exact ⟨_, _, rfl⟩
theorem tw_X11_bestThrow : ∀ (as : List AV) (h : AH) (K : Int32 → AH → Prop), T_X11_bestThrow as h K → (ini as).length ≤ mNL M_X11_bestThrow ∧ AW M_X11_bestThrow (.inl K) 0 (initL (mNL M_X11_bestThrow) as) [] h 0 0 := by
  intro as h K hk
  match as, hk with
  | [.inr (.inr (.inl q0))], hk =>
    obtain ⟨hb, hk⟩ := tif_inv hk
    simp only [Bool.and_eq_true] at hb
    obtain ⟨e0, e1⟩ := hb
    obtain ⟨a0, b0⟩ := q0
    have f0 : a0 = 15 := Nat.eq_of_beq_eq_true e0
    subst f0
    have f1 : b0 = 0 := Nat.eq_of_beq_eq_true e1
    subst f1
    exact ⟨Nat.le_of_ble_eq_true rfl, snd_X11_bestThrow  hk⟩

def S_X11_gain (h : AH) (K : Int32 → AH → Prop) : Prop := ∃ V, RV (h.1 16 0) V ∧ WF V ∧ ∀ h', keepM h h' → K (if (bst V).1 < 0 then 1000000004 else iI (bst V).2) h'
def T_X11_gain : List AV → AH → (Int32 → AH → Prop) → Prop := fun as h K => match as with
  | [.inr (.inr (.inl q0))] => tif (Nat.beq q0.1 15 && Nat.beq q0.2 0) (S_X11_gain h K)
  | _ => False

def M_X11_gain : MI := (RX11, cX11_gain, 1, [(0, .aload_n 0, []), (1, .aload_n 0, []), (2, .getfield 9, []), (5, .invokevirtual 175, []), (8, .ifCond .ge 8, [16]), (11, .ldc 179, []), (13, .goto 7, [20]), (16, .aload_n 0, []), (17, .getfield 172, []), (20, .ireturn, [])], [(9, (15, 0, 1, 16, 0)), (172, (15, 10, 0, 0, 0))], [(179, 1000000004)], [], [(525, (2, 7, 164, 0, 0, .inl T_X11_bestBy))], 7, 164, 0, 0)
theorem ok_X11_gain : MOK M_X11_gain := ⟨by decide +kernel, List.forall_mem_cons.mpr ⟨fl_RX11_9, List.forall_mem_cons.mpr ⟨fl_RX11_172, fun _ h => absurd h List.not_mem_nil⟩⟩, List.forall_mem_cons.mpr ⟨(inG (i := 1153) (w := Cond.constant RX11 179 1000000004) (by decide +kernel) rfl), fun _ h => absurd h List.not_mem_nil⟩, fun _ h => absurd h List.not_mem_nil, List.forall_mem_cons.mpr ⟨⟨Nat.le_of_ble_eq_true rfl, Nat.le_of_ble_eq_true rfl, cr_RX11_525⟩, fun _ h => absurd h List.not_mem_nil⟩⟩
set_option maxRecDepth 100000 in
theorem vc_X11_gain {K : Int32 → AH → Prop} {h : AH}  (H : S_X11_bestBy 0 h (fun x2 h1 => ((0 ≤ x2) → K (h1.1 15 0 10) h1) ∧ (¬ (0 ≤ x2) → K (1000000004 : Int32) h1))) : AW M_X11_gain (.inl K) 0 [some (aR 15 0)] [] h 0 0 := AW_go (cuts := []) ok_X11_gain 400 H

theorem snd_X11_gain {h : AH} {K : Int32 → AH → Prop} (k : S_X11_gain h K) : AW M_X11_gain (.inl K) 0 [some (aR 15 0)] [] h 0 0 := by
  obtain ⟨V, hr, hw, k⟩ := k
  refine vc_X11_gain ⟨V, hr, hw, by decide, fun h' o e => ?_⟩
  have := k h' (keepM_B o)
  obtain ⟨b1, b2, b3, b4⟩ := bst_b hw _ (Nat.le_refl _)
  have b3 : -4 ≤ (bst V).1 := b3
  have b4 : (bst V).1 ≤ 67 := b4
  dsimp only
  rw [e, i_0, i_le (by omega) (by omega) (by omega) (by omega)]
  refine ⟨fun q => ?_, fun q => ?_⟩
  · rw [if_neg (by omega)] at this; exact this
  · rw [if_pos (by omega)] at this; exact this
theorem tr_X11_gain : ∀ (as : List AV) (h : AH) (K : Int32 → AH → Prop), T_X11_gain as h K → ∃ (q : Nat) (r : List AV), as = aR 15 q :: r := by
  intro as h K hk
  match as, hk with
  | [.inr (.inr (.inl q0))], hk =>
    obtain ⟨hb, hk⟩ := tif_inv hk
    simp only [Bool.and_eq_true] at hb
    obtain ⟨e0, e1⟩ := hb
    obtain ⟨a0, b0⟩ := q0
    have f0 : a0 = 15 := Nat.eq_of_beq_eq_true e0
    subst f0
    have f1 : b0 = 0 := Nat.eq_of_beq_eq_true e1
    subst f1
    exact ⟨_, _, rfl⟩
theorem tw_X11_gain : ∀ (as : List AV) (h : AH) (K : Int32 → AH → Prop), T_X11_gain as h K → (ini as).length ≤ mNL M_X11_gain ∧ AW M_X11_gain (.inl K) 0 (initL (mNL M_X11_gain) as) [] h 0 0 := by
  intro as h K hk
  match as, hk with
  | [.inr (.inr (.inl q0))], hk =>
    obtain ⟨hb, hk⟩ := tif_inv hk
    simp only [Bool.and_eq_true] at hb
    obtain ⟨e0, e1⟩ := hb
    obtain ⟨a0, b0⟩ := q0
    have f0 : a0 = 15 := Nat.eq_of_beq_eq_true e0
    subst f0
    have f1 : b0 = 0 := Nat.eq_of_beq_eq_true e1
    subst f1
    exact ⟨Nat.le_of_ble_eq_true rfl, snd_X11_gain  hk⟩

def bCell (V : Vm) (n : Nat) : Nat → Nat
  | 0 => 0
  | k + 1 => if brg V n (bCell V n k) < brg V n (k + 1) then k + 1 else bCell V n k
theorem bCell_le (V : Vm) (n : Nat) : ∀ k, bCell V n k ≤ k
  | 0 => Nat.le_refl _
  | k + 1 => by
    have := bCell_le V n k
    unfold bCell
    split <;> omega
def S_X11_bestCell (a : Int32) (h : AH) (K : Int32 → AH → Prop) : Prop := ∃ V, RV (h.1 16 0) V ∧ WF V ∧ (∀ n h', n < V 10 1 → a = nI n → keepM h h' → K (nI (bCell V n (vFl V n))) h') ∧ ((¬ ∃ n, n < V 10 1 ∧ a = nI n) → K (iI (-1)) h)
def T_X11_bestCell : List AV → AH → (Int32 → AH → Prop) → Prop := fun as h K => match as with
  | [.inr (.inr (.inl q0)), .inl q1] => tif (Nat.beq q0.1 15 && Nat.beq q0.2 0) (S_X11_bestCell q1 h K)
  | _ => False

def M_X11_bestCell : MI := (RX11, cX11_bestCell, 4, [(0, .aload_n 0, []), (1, .iload_n 1, []), (2, .invokevirtual 132, []), (5, .ifCond .ne 5, [10]), (8, .iconst (-1), []), (9, .ireturn, []), (10, .iconst 0, []), (11, .istore_n 2, []), (12, .iconst 1, []), (13, .istore_n 3, []), (14, .iload_n 3, []), (15, .aload_n 0, []), (16, .getfield 9, []), (19, .iload_n 1, []), (20, .invokestatic 135, []), (23, .if_icmp .gt 34, [57]), (26, .aload_n 0, []), (27, .aload_n 0, []), (28, .getfield 9, []), (31, .iload_n 1, []), (32, .iload_n 3, []), (33, .invokevirtual 168, []), (36, .aload_n 0, []), (37, .aload_n 0, []), (38, .getfield 9, []), (41, .iload_n 1, []), (42, .iload_n 2, []), (43, .invokevirtual 168, []), (46, .if_icmp .le 5, [51]), (49, .iload_n 3, []), (50, .istore_n 2, []), (51, .iinc 3 1, []), (54, .goto (-40), [14]), (57, .iload_n 2, []), (58, .ireturn, [])], [(9, (15, 0, 1, 16, 0))], [], [], [(396, (2, 2, 43, 0, 0, .inl T_X11_isSheep)), (406, (2, 2, 42, 0, 0, .inl T_X11_flies)), (504, (4, 6, 139, 0, 0, .inl T_X11_broughtBy))], 6, 139, 0, 0)
theorem ok_X11_bestCell : MOK M_X11_bestCell := ⟨by decide +kernel, List.forall_mem_cons.mpr ⟨fl_RX11_9, fun _ h => absurd h List.not_mem_nil⟩, fun _ h => absurd h List.not_mem_nil, fun _ h => absurd h List.not_mem_nil, List.forall_mem_cons.mpr ⟨⟨Nat.le_of_ble_eq_true rfl, Nat.le_of_ble_eq_true rfl, cr_RX11_396⟩, List.forall_mem_cons.mpr ⟨⟨Nat.le_of_ble_eq_true rfl, Nat.le_of_ble_eq_true rfl, cr_RX11_406⟩, List.forall_mem_cons.mpr ⟨⟨Nat.le_of_ble_eq_true rfl, Nat.le_of_ble_eq_true rfl, cr_RX11_504⟩, fun _ h => absurd h List.not_mem_nil⟩⟩⟩⟩
set_option maxRecDepth 100000 in
theorem vc_X11_bestCell {K : Int32 → AH → Prop} {h : AH} (p1 : Int32) (H : S_X11_isSheep p1 h (fun x2 h1 => ((¬ x2 = 0) → AW M_X11_bestCell (.inl K) 14 [some (aR 15 0), some (aI p1), some (aI (nI 0)), some (aI (nI 1))] [] h1 0 0) ∧ (¬ (¬ x2 = 0) → K (iI (-1)) h1))) : AW M_X11_bestCell (.inl K) 0 [some (aR 15 0), some (aI p1), none, none] [] h 0 0 := AW_go (cuts := [(14, [true, true, true, true])]) ok_X11_bestCell 400 H
set_option maxRecDepth 100000 in
theorem vc_X11_bestCell_14 {K : Int32 → AH → Prop} {h : AH}  (l1 : Int32) (l2 : Int32) (l3 : Int32) (H : S_X11_flies 0 l1 h (fun x2 h1 => ((x2 < l3) → K l2 h1) ∧ (¬ (x2 < l3) → S_X11_broughtBy 0 l1 l3 h1 (fun x4 h3 => S_X11_broughtBy 0 l1 l2 h3 (fun x6 h5 => ((x4 ≤ x6) → AW M_X11_bestCell (.inl K) 14 [some (aR 15 0), some (aI l1), some (aI l2), some (aI (l3 + (nI 1)))] [] h5 0 0) ∧ (¬ (x4 ≤ x6) → AW M_X11_bestCell (.inl K) 14 [some (aR 15 0), some (aI l1), some (aI l3), some (aI (l3 + (nI 1)))] [] h5 0 0)))))) : AW M_X11_bestCell (.inl K) 14 [some (aR 15 0), some (aI l1), some (aI l2), some (aI l3)] [] h 0 0 := AW_go (cuts := [(14, [true, true, true, true])]) ok_X11_bestCell 400 H

theorem lp_X11_bestCell {V : Vm} {n : Nat} {h0 : AH} {K : Int32 → AH → Prop} (hr : RV (h0.1 16 0) V) (hw : WF V) (hn : n < V 10 1) (k : ∀ h', keepM h0 h' → K (nI (bCell V n (vFl V n))) h') : ∀ r c h, c + r = vFl V n → keepM h0 h → AW M_X11_bestCell (.inl K) 14 [some (aR 15 0), some (aI (nI n)), some (aI (nI (bCell V n c))), some (aI (nI (c + 1)))] [] h 0 0 := by
  have hf : vFl V n ≤ 7 := fly_le _
  intro r
  induction r with
  | zero =>
    intro c h hc h1
    refine vc_X11_bestCell_14 (nI n) (nI (bCell V n c)) (nI (c + 1)) ?_
    have hr' := hr
    rw [← keepM_r0 h1] at hr'
    refine ⟨V, n, ⟨hr', hw, hn, rfl⟩, ?_⟩
    simp (disch := omega) only [n_lt]
    have : c = vFl V n := by omega
    subst this
    exact ⟨fun _ => k h h1, fun q => absurd (by omega) q⟩
  | succ r ih =>
    intro c h hc h1
    refine vc_X11_bestCell_14 (nI n) (nI (bCell V n c)) (nI (c + 1)) ?_
    have hr' := hr
    rw [← keepM_r0 h1] at hr'
    refine ⟨V, n, ⟨hr', hw, hn, rfl⟩, ?_⟩
    have hb := bCell_le V n c
    simp (disch := omega) only [n_lt, nI_add]
    refine ⟨fun q => by omega, fun _ => ⟨V, n, c + 1, ⟨hr', hw, hn, rfl⟩, by omega, rfl, by decide, fun h3 o3 => ?_⟩⟩
    have k3 := keepM_tr h1 (keepM_o (by decide) (by decide) o3)
    have hr3 := hr
    rw [← keepM_r0 k3] at hr3
    refine ⟨V, n, bCell V n c, ⟨hr3, hw, hn, rfl⟩, by omega, rfl, by decide, fun h5 o5 => ?_⟩
    have k5 := keepM_tr k3 (keepM_o (by decide) (by decide) o5)
    have g1 := brg_le hw hn (show c + 1 < 8 by omega)
    have g2 := brg_le hw hn (show bCell V n c < 8 by omega)
    have := ih (c + 1) h5 (by omega) k5
    rw [bCell] at this
    simp (disch := omega) only [n_le]
    refine ⟨fun q => ?_, fun q => ?_⟩
    · rw [if_neg (by omega)] at this; exact this
    · rw [if_pos (by omega)] at this; exact this
theorem snd_X11_bestCell (a : Int32) {h : AH} {K : Int32 → AH → Prop} (k : S_X11_bestCell a h K) : AW M_X11_bestCell (.inl K) 0 [some (aR 15 0), some (aI a), none, none] [] h 0 0 := by
  obtain ⟨V, hr, hw, k1, k2⟩ := k
  refine vc_X11_bestCell a ?_
  have h7 := hw.2.1
  obtain ⟨-, -, -, -, -, -, -, -, -, -, -, e1, -, -⟩ := RVs hr
  unfold S_X11_isSheep
  rw [e1]
  simp only [if10_eq, in_iff (x := a) (n := V 10 1) (by omega)]
  refine ⟨fun q => ?_, fun q => k2 (fun z => q (fun w => w z))⟩
  obtain ⟨n, hn, rfl⟩ := Decidable.not_not.mp q
  exact lp_X11_bestCell hr hw hn (fun h' q => k1 n h' hn rfl q) (vFl V n) 0 h (by omega) (keepM_rfl h)
theorem tr_X11_bestCell : ∀ (as : List AV) (h : AH) (K : Int32 → AH → Prop), T_X11_bestCell as h K → ∃ (q : Nat) (r : List AV), as = aR 15 q :: r := by
  intro as h K hk
  match as, hk with
  | [.inr (.inr (.inl q0)), .inl q1], hk =>
    obtain ⟨hb, hk⟩ := tif_inv hk
    simp only [Bool.and_eq_true] at hb
    obtain ⟨e0, e1⟩ := hb
    obtain ⟨a0, b0⟩ := q0
    have f0 : a0 = 15 := Nat.eq_of_beq_eq_true e0
    subst f0
    have f1 : b0 = 0 := Nat.eq_of_beq_eq_true e1
    subst f1
    exact ⟨_, _, rfl⟩
theorem tw_X11_bestCell : ∀ (as : List AV) (h : AH) (K : Int32 → AH → Prop), T_X11_bestCell as h K → (ini as).length ≤ mNL M_X11_bestCell ∧ AW M_X11_bestCell (.inl K) 0 (initL (mNL M_X11_bestCell) as) [] h 0 0 := by
  intro as h K hk
  match as, hk with
  | [.inr (.inr (.inl q0)), .inl q1], hk =>
    obtain ⟨hb, hk⟩ := tif_inv hk
    simp only [Bool.and_eq_true] at hb
    obtain ⟨e0, e1⟩ := hb
    obtain ⟨a0, b0⟩ := q0
    have f0 : a0 = 15 := Nat.eq_of_beq_eq_true e0
    subst f0
    have f1 : b0 = 0 := Nat.eq_of_beq_eq_true e1
    subst f1
    exact ⟨Nat.le_of_ble_eq_true rfl, snd_X11_bestCell q1 hk⟩
end
section
/-! ===== what the calls answer, by the valley ===== -/
abbrev nN (x : Int32) : Nat := x.toNatClampNeg
abbrev shp (V : Vm) (a : Int32) : Prop := nI 0 ≤ a ∧ a ≤ nI (V 10 1) - nI 1
abbrev cel (c : Int32) : Prop := nI 0 ≤ c ∧ c ≤ nI 7
abbrev w01 (w : Int32) : Prop := nI 0 ≤ w ∧ w ≤ nI 1
def rfT (V : Vm) (a c : Int32) : Int32 := if shp V a ∧ cel c then (if vFl V (nN a) < nN c then iI (-3) else nI 0) else iI (-1)
theorem rfT_cases {V : Vm} (hw : WF V) (a c : Int32) : (∃ n m, n < V 10 1 ∧ m < 8 ∧ m ≤ vFl V n ∧ a = nI n ∧ c = nI m ∧ rfT V a c = nI 0) ∨ (rfT V a c ≠ nI 0) := by
  have h7 := hw.2.1
  by_cases h : shp V a ∧ cel c
  · obtain ⟨n, hn, rfl⟩ := (in_iff (by omega)).mp h.1
    obtain ⟨m, hm, rfl⟩ := in8_iff.mp h.2
    unfold rfT
    rw [if_pos h]
    unfold nN
    rw [n_cl (by omega), n_cl (by omega)]
    by_cases h2 : vFl V n < m
    · rw [if_pos h2]; exact Or.inr (by decide)
    · rw [if_neg h2]; exact Or.inl ⟨n, m, hn, hm, by omega, rfl, rfl, rfl⟩
  · unfold rfT
    rw [if_neg h]
    exact Or.inr (by decide)
theorem wT_use {V : Vm} {a c : Int32} {h : AH} {K : Int32 → AH → Prop} (hr : RV (h.1 16 0) V) (hw : WF V) (k : K (rfT V a c) h) : S_X11_wrongThrow a c h K := by
  have h7 := hw.2.1
  refine ⟨V, hr, hw, fun n m hn hm e1 e2 => ?_, fun q => ?_⟩
  · subst e1; subst e2
    unfold rfT at k
    rw [if_pos ⟨(in_iff (by omega)).mpr ⟨n, hn, rfl⟩, in8_iff.mpr ⟨m, hm, rfl⟩⟩] at k
    unfold nN at k
    rw [n_cl (by omega), n_cl (by omega)] at k
    exact k
  · unfold rfT at k
    rw [if_neg (fun z => ?_)] at k
    · exact k
    · obtain ⟨n, hn, e1⟩ := (in_iff (by omega)).mp z.1
      obtain ⟨m, hm, e2⟩ := in8_iff.mp z.2
      exact q ⟨n, m, hn, hm, e1, e2⟩
/-- a throw that is told: refused, or the throw -/
def S_X11_throwsOne (a c : Int32) (h : AH) (K : Int32 → AH → Prop) : Prop := ∃ V, RV (h.1 16 0) V ∧ WF V ∧ (rfT V a c ≠ nI 0 → K (rfT V a c) h) ∧ ∀ n m h', n < V 10 1 → m < 8 → a = nI n → c = nI m → rfT V a c = nI 0 → only 16 0 h h' → RV (h'.1 16 0) (thr V n m) → K (nI (brg V n m)) h'
def T_X11_throwsOne : List AV → AH → (Int32 → AH → Prop) → Prop := fun as h K => match as with
  | [.inr (.inr (.inl q0)), .inl q1, .inl q2] => tif (Nat.beq q0.1 15 && Nat.beq q0.2 0) (S_X11_throwsOne q1 q2 h K)
  | _ => False

def M_X11_throwsOne : MI := (RX11, cX11_throwsOne, 4, [(0, .aload_n 0, []), (1, .iload_n 1, []), (2, .iload_n 2, []), (3, .invokevirtual 165, []), (6, .istore_n 3, []), (7, .iload_n 3, []), (8, .ifCond .eq 7, [15]), (11, .iload_n 3, []), (12, .goto 12, [24]), (15, .aload_n 0, []), (16, .getfield 9, []), (19, .iload_n 1, []), (20, .iload_n 2, []), (21, .invokestatic 138, []), (24, .ireturn, [])], [(9, (15, 0, 1, 16, 0))], [], [], [(495, (3, 3, 65, 0, 0, .inl T_X11_wrongThrow)), (415, (3, 5, 116, 0, 0, .inl T_X11_throwIn))], 5, 116, 0, 0)
theorem ok_X11_throwsOne : MOK M_X11_throwsOne := ⟨by decide +kernel, List.forall_mem_cons.mpr ⟨fl_RX11_9, fun _ h => absurd h List.not_mem_nil⟩, fun _ h => absurd h List.not_mem_nil, fun _ h => absurd h List.not_mem_nil, List.forall_mem_cons.mpr ⟨⟨Nat.le_of_ble_eq_true rfl, Nat.le_of_ble_eq_true rfl, cr_RX11_495⟩, List.forall_mem_cons.mpr ⟨⟨Nat.le_of_ble_eq_true rfl, Nat.le_of_ble_eq_true rfl, cr_RX11_415⟩, fun _ h => absurd h List.not_mem_nil⟩⟩⟩
set_option maxRecDepth 100000 in
theorem vc_X11_throwsOne {K : Int32 → AH → Prop} {h : AH} (p1 : Int32) (p2 : Int32) (H : S_X11_wrongThrow p1 p2 h (fun x2 h1 => ((x2 = 0) → S_X11_throwIn 0 p1 p2 h1 (fun x4 h3 => K x4 h3)) ∧ (¬ (x2 = 0) → K x2 h1))) : AW M_X11_throwsOne (.inl K) 0 [some (aR 15 0), some (aI p1), some (aI p2), none] [] h 0 0 := AW_go (cuts := []) ok_X11_throwsOne 400 H

theorem snd_X11_throwsOne (a c : Int32) {h : AH} {K : Int32 → AH → Prop} (k : S_X11_throwsOne a c h K) : AW M_X11_throwsOne (.inl K) 0 [some (aR 15 0), some (aI a), some (aI c), none] [] h 0 0 := by
  obtain ⟨V, hr, hw, k1, k2⟩ := k
  refine vc_X11_throwsOne a c (wT_use hr hw ?_)
  rcases rfT_cases hw a c with ⟨n, m, hn, hm, hf, rfl, rfl, e⟩ | e
  · exact ⟨fun _ => ⟨V, n, m, ⟨hr, hw, hn, rfl⟩, hm, rfl, fun h' o q => k2 n m h' hn hm rfl rfl e o q⟩, fun q => absurd e q⟩
  · exact ⟨fun q => absurd q e, fun _ => k1 e⟩
theorem tr_X11_throwsOne : ∀ (as : List AV) (h : AH) (K : Int32 → AH → Prop), T_X11_throwsOne as h K → ∃ (q : Nat) (r : List AV), as = aR 15 q :: r := by
  intro as h K hk
  match as, hk with
  | [.inr (.inr (.inl q0)), .inl q1, .inl q2], hk =>
    obtain ⟨hb, hk⟩ := tif_inv hk
    simp only [Bool.and_eq_true] at hb
    obtain ⟨e0, e1⟩ := hb
    obtain ⟨a0, b0⟩ := q0
    have f0 : a0 = 15 := Nat.eq_of_beq_eq_true e0
    subst f0
    have f1 : b0 = 0 := Nat.eq_of_beq_eq_true e1
    subst f1
    exact ⟨_, _, rfl⟩
theorem tw_X11_throwsOne : ∀ (as : List AV) (h : AH) (K : Int32 → AH → Prop), T_X11_throwsOne as h K → (ini as).length ≤ mNL M_X11_throwsOne ∧ AW M_X11_throwsOne (.inl K) 0 (initL (mNL M_X11_throwsOne) as) [] h 0 0 := by
  intro as h K hk
  match as, hk with
  | [.inr (.inr (.inl q0)), .inl q1, .inl q2], hk =>
    obtain ⟨hb, hk⟩ := tif_inv hk
    simp only [Bool.and_eq_true] at hb
    obtain ⟨e0, e1⟩ := hb
    obtain ⟨a0, b0⟩ := q0
    have f0 : a0 = 15 := Nat.eq_of_beq_eq_true e0
    subst f0
    have f1 : b0 = 0 := Nat.eq_of_beq_eq_true e1
    subst f1
    exact ⟨Nat.le_of_ble_eq_true rfl, snd_X11_throwsOne q1 q2 hk⟩

def S_X11_waits (x : Int32) (h : AH) (K : Int32 → AH → Prop) : Prop := ∃ V, RV (h.1 16 0) V ∧ WF V ∧ (¬ (nI 1 ≤ x ∧ x ≤ nI 60) → K (iI (-1)) h) ∧ ∀ k h', 1 ≤ k → k ≤ 60 → x = nI k → only 16 0 h h' → RV (h'.1 16 0) (wai V k) → K (nI (wai V k 10 2)) h'
def T_X11_waits : List AV → AH → (Int32 → AH → Prop) → Prop := fun as h K => match as with
  | [.inr (.inr (.inl q0)), .inl q1] => tif (Nat.beq q0.1 15 && Nat.beq q0.2 0) (S_X11_waits q1 h K)
  | _ => False

def M_X11_waits : MI := (RX11, cX11_waits, 2, [(0, .iload_n 1, []), (1, .iconst 1, []), (2, .bipush 60, []), (4, .invokestatic 53, []), (7, .ifCond .ne 5, [12]), (10, .iconst (-1), []), (11, .ireturn, []), (12, .aload_n 0, []), (13, .getfield 9, []), (16, .iload_n 1, []), (17, .invokestatic 128, []), (20, .aload_n 0, []), (21, .getfield 9, []), (24, .iconst 2, []), (25, .iaload, []), (26, .ireturn, [])], [(9, (15, 0, 1, 16, 0))], [], [], [(160, (3, 1, 22, 0, 0, .inl T_X11_isIn)), (385, (2, 3, 65, 0, 0, .inr (.inl T_X11_waitIn)))], 3, 65, 0, 0)
theorem ok_X11_waits : MOK M_X11_waits := ⟨by decide +kernel, List.forall_mem_cons.mpr ⟨fl_RX11_9, fun _ h => absurd h List.not_mem_nil⟩, fun _ h => absurd h List.not_mem_nil, fun _ h => absurd h List.not_mem_nil, List.forall_mem_cons.mpr ⟨⟨Nat.le_of_ble_eq_true rfl, Nat.le_of_ble_eq_true rfl, cr_RX11_160⟩, List.forall_mem_cons.mpr ⟨⟨Nat.le_of_ble_eq_true rfl, Nat.le_of_ble_eq_true rfl, cr_RX11_385⟩, fun _ h => absurd h List.not_mem_nil⟩⟩⟩
set_option maxRecDepth 100000 in
theorem vc_X11_waits {K : Int32 → AH → Prop} {h : AH} (p1 : Int32) (H : S_X11_isIn p1 (nI 1) (nI 60) h (fun x2 h1 => ((¬ x2 = 0) → S_X11_waitIn 0 p1 h1 (fun h3 => inR (nI 2) 62 ∧ K (h3.1 16 0 (nI 2).toNatClampNeg) h3)) ∧ (¬ (¬ x2 = 0) → K (iI (-1)) h1))) : AW M_X11_waits (.inl K) 0 [some (aR 15 0), some (aI p1)] [] h 0 0 := AW_go (cuts := []) ok_X11_waits 400 H

theorem in60 {x : Int32} (h : nI 1 ≤ x ∧ x ≤ nI 60) : ∃ k, 1 ≤ k ∧ k ≤ 60 ∧ x = nI k := by
  have h0 : nI 0 ≤ x := Int32.le_iff_toInt_le.mpr (by have := Int32.le_iff_toInt_le.mp h.1; rw [n_toInt (by omega)] at this ⊢; omega)
  obtain ⟨k, hk, rfl⟩ := n_of (by omega) h0 h.2
  have := (n_le (by omega) (by omega)).mp h.1
  exact ⟨k, this, hk, rfl⟩
theorem snd_X11_waits (x : Int32) {h : AH} {K : Int32 → AH → Prop} (k : S_X11_waits x h K) : AW M_X11_waits (.inl K) 0 [some (aR 15 0), some (aI x)] [] h 0 0 := by
  obtain ⟨V, hr, hw, k1, k2⟩ := k
  refine vc_X11_waits x ?_
  unfold S_X11_isIn
  simp only [if10_eq]
  refine ⟨fun q => ?_, fun q => k1 (fun z => q (fun w => w z))⟩
  obtain ⟨k, h1, h2, rfl⟩ := in60 (Decidable.not_not.mp q)
  refine ⟨V, k, hr, hw, h2, rfl, fun h' o q => ?_⟩
  obtain ⟨-, -, -, -, -, -, -, -, -, -, -, -, e2, -⟩ := RVs q
  simp (disch := omega) only [n_inT, n_cl, true_and, e2]
  exact k2 k h' h1 h2 rfl o q
theorem tr_X11_waits : ∀ (as : List AV) (h : AH) (K : Int32 → AH → Prop), T_X11_waits as h K → ∃ (q : Nat) (r : List AV), as = aR 15 q :: r := by
  intro as h K hk
  match as, hk with
  | [.inr (.inr (.inl q0)), .inl q1], hk =>
    obtain ⟨hb, hk⟩ := tif_inv hk
    simp only [Bool.and_eq_true] at hb
    obtain ⟨e0, e1⟩ := hb
    obtain ⟨a0, b0⟩ := q0
    have f0 : a0 = 15 := Nat.eq_of_beq_eq_true e0
    subst f0
    have f1 : b0 = 0 := Nat.eq_of_beq_eq_true e1
    subst f1
    exact ⟨_, _, rfl⟩
theorem tw_X11_waits : ∀ (as : List AV) (h : AH) (K : Int32 → AH → Prop), T_X11_waits as h K → (ini as).length ≤ mNL M_X11_waits ∧ AW M_X11_waits (.inl K) 0 (initL (mNL M_X11_waits) as) [] h 0 0 := by
  intro as h K hk
  match as, hk with
  | [.inr (.inr (.inl q0)), .inl q1], hk =>
    obtain ⟨hb, hk⟩ := tif_inv hk
    simp only [Bool.and_eq_true] at hb
    obtain ⟨e0, e1⟩ := hb
    obtain ⟨a0, b0⟩ := q0
    have f0 : a0 = 15 := Nat.eq_of_beq_eq_true e0
    subst f0
    have f1 : b0 = 0 := Nat.eq_of_beq_eq_true e1
    subst f1
    exact ⟨Nat.le_of_ble_eq_true rfl, snd_X11_waits q1 hk⟩

def R_brings (V : Vm) (a c w : Int32) : Int32 := if ¬ (nI 0 ≤ w ∧ w ≤ nI 3) then iI (-1) else if rfT V a c ≠ nI 0 then rfT V a c else if w = nI 0 then nI (brg V (nN a) (nN c)) else if w = nI 1 then oI (tak V (nN a) (nN c)) else if w = nI 2 then (match tak V (nN a) (nN c) with
  | none => iI (-4)
  | some e => nI (V 6 e)) else (if eat V (nN a) (nN c) then nI 1 else nI 0)
def S_X11_brings (a c w : Int32) (h : AH) (K : Int32 → AH → Prop) : Prop := ∃ V, RV (h.1 16 0) V ∧ WF V ∧ ∀ h', keepM h h' → K (R_brings V a c w) h'
def T_X11_brings : List AV → AH → (Int32 → AH → Prop) → Prop := fun as h K => match as with
  | [.inr (.inr (.inl q0)), .inl q1, .inl q2, .inl q3] => tif (Nat.beq q0.1 15 && Nat.beq q0.2 0) (S_X11_brings q1 q2 q3 h K)
  | _ => False

def M_X11_brings : MI := (RX11, cX11_brings, 6, [(0, .iload_n 3, []), (1, .iconst 0, []), (2, .iconst 3, []), (3, .invokestatic 53, []), (6, .ifCond .ne 5, [11]), (9, .iconst (-1), []), (10, .ireturn, []), (11, .aload_n 0, []), (12, .iload_n 1, []), (13, .iload_n 2, []), (14, .invokevirtual 165, []), (17, .istore 4, []), (19, .iload 4, []), (21, .ifCond .eq 6, [27]), (24, .iload 4, []), (26, .ireturn, []), (27, .aload_n 0, []), (28, .getfield 9, []), (31, .iload_n 1, []), (32, .iload_n 2, []), (33, .invokestatic 91, []), (36, .istore 5, []), (38, .iload_n 3, []), (39, .tableswitch 61 0 2 #[25, 36, 39], [100, 64, 75, 78]), (64, .aload_n 0, []), (65, .aload_n 0, []), (66, .getfield 9, []), (69, .iload_n 1, []), (70, .iload_n 2, []), (71, .invokevirtual 168, []), (74, .ireturn, []), (75, .iload 5, []), (77, .ireturn, []), (78, .iload 5, []), (80, .ifCond .ge 8, [88]), (83, .bipush (-4), []), (85, .goto 14, [99]), (88, .aload_n 0, []), (89, .getfield 9, []), (92, .iload 5, []), (94, .iconst 2, []), (95, .invokestatic 75, []), (98, .iaload, []), (99, .ireturn, []), (100, .aload_n 0, []), (101, .getfield 9, []), (104, .iload_n 1, []), (105, .iload_n 2, []), (106, .invokestatic 78, []), (109, .ifCond .eq 7, [116]), (112, .iconst 1, []), (113, .goto 4, [117]), (116, .iconst 0, []), (117, .ireturn, [])], [(9, (15, 0, 1, 16, 0))], [], [], [(160, (3, 1, 22, 0, 0, .inl T_X11_isIn)), (495, (3, 3, 65, 0, 0, .inl T_X11_wrongThrow)), (274, (3, 4, 89, 0, 0, .inl T_X11_carrier)), (504, (4, 6, 139, 0, 0, .inl T_X11_broughtBy)), (226, (2, 1, 21, 0, 0, .inl T_X11_atEagle)), (235, (3, 3, 65, 0, 0, .inl T_X11_isEaten))], 6, 139, 0, 0)
theorem ok_X11_brings : MOK M_X11_brings := ⟨by decide +kernel, List.forall_mem_cons.mpr ⟨fl_RX11_9, fun _ h => absurd h List.not_mem_nil⟩, fun _ h => absurd h List.not_mem_nil, fun _ h => absurd h List.not_mem_nil, List.forall_mem_cons.mpr ⟨⟨Nat.le_of_ble_eq_true rfl, Nat.le_of_ble_eq_true rfl, cr_RX11_160⟩, List.forall_mem_cons.mpr ⟨⟨Nat.le_of_ble_eq_true rfl, Nat.le_of_ble_eq_true rfl, cr_RX11_495⟩, List.forall_mem_cons.mpr ⟨⟨Nat.le_of_ble_eq_true rfl, Nat.le_of_ble_eq_true rfl, cr_RX11_274⟩, List.forall_mem_cons.mpr ⟨⟨Nat.le_of_ble_eq_true rfl, Nat.le_of_ble_eq_true rfl, cr_RX11_504⟩, List.forall_mem_cons.mpr ⟨⟨Nat.le_of_ble_eq_true rfl, Nat.le_of_ble_eq_true rfl, cr_RX11_226⟩, List.forall_mem_cons.mpr ⟨⟨Nat.le_of_ble_eq_true rfl, Nat.le_of_ble_eq_true rfl, cr_RX11_235⟩, fun _ h => absurd h List.not_mem_nil⟩⟩⟩⟩⟩⟩⟩
set_option maxRecDepth 100000 in
theorem vc_X11_brings {K : Int32 → AH → Prop} {h : AH} (p1 : Int32) (p2 : Int32) (p3 : Int32) (H : S_X11_isIn p3 (nI 0) (nI 3) h (fun x2 h1 => ((¬ x2 = 0) → S_X11_wrongThrow p1 p2 h1 (fun x4 h3 => ((x4 = 0) → S_X11_carrier 0 p1 p2 h3 (fun x6 h5 => (p3.toInt < 0 ∨ 2 < p3.toInt → S_X11_isEaten 0 p1 p2 h5 (fun x8 h7 => ((x8 = 0) → K (nI 0) h7) ∧ (¬ (x8 = 0) → K (nI 1) h7))) ∧ (p3 = nI 0 → S_X11_broughtBy 0 p1 p2 h5 (fun x10 h9 => K x10 h9)) ∧ (p3 = nI 1 → K x6 h5) ∧ (p3 = nI 2 → ((0 ≤ x6) → S_X11_atEagle x6 (nI 2) h5 (fun x12 h11 => inR x12 62 ∧ K (h11.1 16 0 x12.toNatClampNeg) h11)) ∧ (¬ (0 ≤ x6) → K (iI (-4)) h5)) ∧ True)) ∧ (¬ (x4 = 0) → K x4 h3))) ∧ (¬ (¬ x2 = 0) → K (iI (-1)) h1))) : AW M_X11_brings (.inl K) 0 [some (aR 15 0), some (aI p1), some (aI p2), some (aI p3), none, none] [] h 0 0 := AW_go (cuts := []) ok_X11_brings 400 H

theorem snd_X11_brings (a c w : Int32) {h : AH} {K : Int32 → AH → Prop} (k : S_X11_brings a c w h K) : AW M_X11_brings (.inl K) 0 [some (aR 15 0), some (aI a), some (aI c), some (aI w), none, none] [] h 0 0 := by
  obtain ⟨V, hr, hw, k⟩ := k
  refine vc_X11_brings a c w ?_
  unfold S_X11_isIn
  simp only [if10_eq]
  unfold R_brings at k
  by_cases hq : nI 0 ≤ w ∧ w ≤ nI 3
  case neg =>
    refine ⟨fun q => absurd hq q, fun q => ?_⟩
    have := k h (keepM_rfl h)
    rw [if_pos hq] at this
    exact this
  refine ⟨fun _ => wT_use hr hw ?_, fun q => absurd (fun z => z hq) q⟩
  rw [if_neg (fun z => z hq)] at k
  rcases rfT_cases hw a c with ⟨n, m, hn, hm, hf, rfl, rfl, e⟩ | e
  case inr =>
    rw [if_pos e] at k
    exact ⟨fun q => absurd q e, fun _ => k h (keepM_rfl h)⟩
  rw [if_neg (fun z => z e)] at k
  have h7 := hw.2.1
  unfold nN at k
  rw [n_cl (show n < 2147483648 by omega), n_cl (show m < 2147483648 by omega)] at k
  obtain ⟨i, hi, rfl⟩ := n_of (by omega) hq.1 hq.2
  refine ⟨fun _ => ⟨V, n, m, ⟨hr, hw, hn, rfl⟩, hm, rfl, ?_⟩, fun q => absurd e q⟩
  simp (disch := omega) only [n_toInt, n_eq] at k ⊢
  refine ⟨fun q => ⟨V, n, m, ⟨hr, hw, hn, rfl⟩, hm, rfl, ?_⟩, fun q => ⟨V, n, m, ⟨hr, hw, hn, rfl⟩, hm, rfl, by decide, fun h' o => ?_⟩, fun q => ?_, fun q => ?_, trivial⟩
  · have := k h (keepM_rfl h)
    rw [if_neg (by omega), if_neg (by omega), if_neg (by omega)] at this
    simp only [if10_eq]
    refine ⟨fun q => ?_, fun q => ?_⟩
    · rw [if_neg q] at this; exact this
    · rw [if_pos (Decidable.not_not.mp q)] at this; exact this
  · have := k h' (keepM_o (by decide) (by decide) o)
    rw [if_pos q] at this
    exact this
  · have := k h (keepM_rfl h)
    rw [if_neg (by omega), if_pos q] at this
    exact this
  · have := k h (keepM_rfl h)
    rw [if_neg (by omega), if_neg (by omega), if_pos q] at this
    cases ht : tak V n m with
    | none =>
      rw [ht] at this
      exact ⟨fun z => absurd z (by decide), fun _ => this⟩
    | some e =>
      rw [ht] at this
      have he := tak_lt ht
      have h4 := hw.1
      obtain ⟨-, -, -, -, -, -, e6, -⟩ := RVs hr
      simp only [show oI (some e) = nI e from rfl]
      rw [n_ge0 (by omega)]
      refine ⟨fun _ => ?_, fun z => absurd trivial z⟩
      simp (disch := omega) only [S_X11_atEagle, pk_mul, nI_add, n_inT, n_cl, true_and, e6]
      exact this
theorem tr_X11_brings : ∀ (as : List AV) (h : AH) (K : Int32 → AH → Prop), T_X11_brings as h K → ∃ (q : Nat) (r : List AV), as = aR 15 q :: r := by
  intro as h K hk
  match as, hk with
  | [.inr (.inr (.inl q0)), .inl q1, .inl q2, .inl q3], hk =>
    obtain ⟨hb, hk⟩ := tif_inv hk
    simp only [Bool.and_eq_true] at hb
    obtain ⟨e0, e1⟩ := hb
    obtain ⟨a0, b0⟩ := q0
    have f0 : a0 = 15 := Nat.eq_of_beq_eq_true e0
    subst f0
    have f1 : b0 = 0 := Nat.eq_of_beq_eq_true e1
    subst f1
    exact ⟨_, _, rfl⟩
theorem tw_X11_brings : ∀ (as : List AV) (h : AH) (K : Int32 → AH → Prop), T_X11_brings as h K → (ini as).length ≤ mNL M_X11_brings ∧ AW M_X11_brings (.inl K) 0 (initL (mNL M_X11_brings) as) [] h 0 0 := by
  intro as h K hk
  match as, hk with
  | [.inr (.inr (.inl q0)), .inl q1, .inl q2, .inl q3], hk =>
    obtain ⟨hb, hk⟩ := tif_inv hk
    simp only [Bool.and_eq_true] at hb
    obtain ⟨e0, e1⟩ := hb
    obtain ⟨a0, b0⟩ := q0
    have f0 : a0 = 15 := Nat.eq_of_beq_eq_true e0
    subst f0
    have f1 : b0 = 0 := Nat.eq_of_beq_eq_true e1
    subst f1
    exact ⟨Nat.le_of_ble_eq_true rfl, snd_X11_brings q1 q2 q3 hk⟩

def bHour (V : Vm) (n m : Nat) : Int × Int := am1 (fun k => (brg (wai V k) n m : Int)) 24 (0, -1)
def R_bestHour (V : Vm) (a c w : Int32) : Int32 := if ¬ w01 w then iI (-1) else if rfT V a c ≠ nI 0 then rfT V a c else if w = 0 then iI (bHour V (nN a) (nN c)).1 else iI (bHour V (nN a) (nN c)).2
def S_X11_bestHour (a c w : Int32) (h : AH) (K : Int32 → AH → Prop) : Prop := ∃ V, RV (h.1 16 0) V ∧ WF V ∧ ∀ h', keepM h h' → K (R_bestHour V a c w) h'
def T_X11_bestHour : List AV → AH → (Int32 → AH → Prop) → Prop := fun as h K => match as with
  | [.inr (.inr (.inl q0)), .inl q1, .inl q2, .inl q3] => tif (Nat.beq q0.1 15 && Nat.beq q0.2 0) (S_X11_bestHour q1 q2 q3 h K)
  | _ => False

def M_X11_bestHour : MI := (RX11, cX11_bestHour, 9, [(0, .iload_n 3, []), (1, .iconst 0, []), (2, .iconst 1, []), (3, .invokestatic 53, []), (6, .ifCond .ne 5, [11]), (9, .iconst (-1), []), (10, .ireturn, []), (11, .aload_n 0, []), (12, .iload_n 1, []), (13, .iload_n 2, []), (14, .invokevirtual 165, []), (17, .istore 4, []), (19, .iload 4, []), (21, .ifCond .eq 6, [27]), (24, .iload 4, []), (26, .ireturn, []), (27, .iconst 0, []), (28, .istore 5, []), (30, .iconst (-1), []), (31, .istore 6, []), (33, .iconst 0, []), (34, .istore 7, []), (36, .iload 7, []), (38, .bipush 24, []), (40, .if_icmp .ge 58, [98]), (43, .aload_n 0, []), (44, .getfield 9, []), (47, .aload_n 0, []), (48, .getfield 13, []), (51, .invokestatic 148, []), (54, .aload_n 0, []), (55, .getfield 13, []), (58, .iload 7, []), (60, .invokestatic 128, []), (63, .aload_n 0, []), (64, .getfield 13, []), (67, .iload_n 1, []), (68, .iload_n 2, []), (69, .invokestatic 138, []), (72, .istore 8, []), (74, .iload 8, []), (76, .iload 6, []), (78, .if_icmp .gt 6, [84]), (81, .goto 11, [92]), (84, .iload 7, []), (86, .istore 5, []), (88, .iload 8, []), (90, .istore 6, []), (92, .iinc 7 1, []), (95, .goto (-59), [36]), (98, .iload_n 3, []), (99, .ifCond .ne 8, [107]), (102, .iload 5, []), (104, .goto 5, [109]), (107, .iload 6, []), (109, .ireturn, [])], [(9, (15, 0, 1, 16, 0)), (13, (15, 1, 1, 16, 1))], [], [], [(160, (3, 1, 22, 0, 0, .inl T_X11_isIn)), (495, (3, 3, 65, 0, 0, .inl T_X11_wrongThrow)), (445, (2, 1, 22, 0, 0, .inr (.inl T_X11_copies))), (385, (2, 3, 65, 0, 0, .inr (.inl T_X11_waitIn))), (415, (3, 5, 116, 0, 0, .inl T_X11_throwIn))], 5, 116, 0, 0)
theorem ok_X11_bestHour : MOK M_X11_bestHour := ⟨by decide +kernel, List.forall_mem_cons.mpr ⟨fl_RX11_9, List.forall_mem_cons.mpr ⟨fl_RX11_13, fun _ h => absurd h List.not_mem_nil⟩⟩, fun _ h => absurd h List.not_mem_nil, fun _ h => absurd h List.not_mem_nil, List.forall_mem_cons.mpr ⟨⟨Nat.le_of_ble_eq_true rfl, Nat.le_of_ble_eq_true rfl, cr_RX11_160⟩, List.forall_mem_cons.mpr ⟨⟨Nat.le_of_ble_eq_true rfl, Nat.le_of_ble_eq_true rfl, cr_RX11_495⟩, List.forall_mem_cons.mpr ⟨⟨Nat.le_of_ble_eq_true rfl, Nat.le_of_ble_eq_true rfl, cr_RX11_445⟩, List.forall_mem_cons.mpr ⟨⟨Nat.le_of_ble_eq_true rfl, Nat.le_of_ble_eq_true rfl, cr_RX11_385⟩, List.forall_mem_cons.mpr ⟨⟨Nat.le_of_ble_eq_true rfl, Nat.le_of_ble_eq_true rfl, cr_RX11_415⟩, fun _ h => absurd h List.not_mem_nil⟩⟩⟩⟩⟩⟩
set_option maxRecDepth 100000 in
theorem vc_X11_bestHour {K : Int32 → AH → Prop} {h : AH} (p1 : Int32) (p2 : Int32) (p3 : Int32) (H : S_X11_isIn p3 (nI 0) (nI 1) h (fun x2 h1 => ((¬ x2 = 0) → S_X11_wrongThrow p1 p2 h1 (fun x4 h3 => ((x4 = 0) → AW M_X11_bestHour (.inl K) 36 [some (aR 15 0), some (aI p1), some (aI p2), some (aI p3), none, some (aI (nI 0)), some (aI (iI (-1))), some (aI (nI 0)), none] [] h3 0 0) ∧ (¬ (x4 = 0) → K x4 h3))) ∧ (¬ (¬ x2 = 0) → K (iI (-1)) h1))) : AW M_X11_bestHour (.inl K) 0 [some (aR 15 0), some (aI p1), some (aI p2), some (aI p3), none, none, none, none, none] [] h 0 0 := AW_go (cuts := [(36, [true, true, true, true, false, true, true, true, false])]) ok_X11_bestHour 400 H
set_option maxRecDepth 100000 in
theorem vc_X11_bestHour_36 {K : Int32 → AH → Prop} {h : AH}  (l1 : Int32) (l2 : Int32) (l3 : Int32) (l5 : Int32) (l6 : Int32) (l7 : Int32) (H : (((nI 24) ≤ l7) → ((¬ l3 = 0) → K l6 h) ∧ (¬ (¬ l3 = 0) → K l5 h)) ∧ (¬ ((nI 24) ≤ l7) → S_X11_copies 0 1 h (fun h1 => S_X11_waitIn 1 l7 h1 (fun h2 => S_X11_throwIn 1 l1 l2 h2 (fun x4 h3 => ((l6 < x4) → AW M_X11_bestHour (.inl K) 36 [some (aR 15 0), some (aI l1), some (aI l2), some (aI l3), none, some (aI l7), some (aI x4), some (aI (l7 + (nI 1))), none] [] h3 0 0) ∧ (¬ (l6 < x4) → AW M_X11_bestHour (.inl K) 36 [some (aR 15 0), some (aI l1), some (aI l2), some (aI l3), none, some (aI l5), some (aI l6), some (aI (l7 + (nI 1))), none] [] h3 0 0)))))) : AW M_X11_bestHour (.inl K) 36 [some (aR 15 0), some (aI l1), some (aI l2), some (aI l3), none, some (aI l5), some (aI l6), some (aI l7), none] [] h 0 0 := AW_go (cuts := [(36, [true, true, true, true, false, true, true, true, false])]) ok_X11_bestHour 400 H

theorem wai_10 {V : Vm} {k i : Nat} (h : i ≠ 2) : wai V k 10 i = V 10 i := by unfold wai; rw [if_neg (by decide), if_neg (by omega)]
theorem bHour_b {V : Vm} {n m : Nat} (hw : WF V) (hn : n < V 10 1) (hm : m < 8) : ∀ k, k ≤ 24 → -1 ≤ (am1 (fun k => (brg (wai V k) n m : Int)) k (0, -1)).2 ∧ (am1 (fun k => (brg (wai V k) n m : Int)) k (0, -1)).2 ≤ 54 ∧ 0 ≤ (am1 (fun k => (brg (wai V k) n m : Int)) k (0, -1)).1 ∧ (am1 (fun k => (brg (wai V k) n m : Int)) k (0, -1)).1 ≤ (24 : Nat) :=
  am1_b (n := 24) (fun k _ => by have := brg_le (WF_wai (k := k) hw) (show n < wai V k 10 1 by rw [wai_10 (by omega)]; exact hn) hm; omega) (by simp) (by simp) (by simp) (by simp)
theorem lp_X11_bestHour {V : Vm} {n m : Nat} {w : Int32} {h0 : AH} {K : Int32 → AH → Prop} (hr : RV (h0.1 16 0) V) (hw : WF V) (hn : n < V 10 1) (hm : m < 8) (k : ∀ h', keepM h0 h' → K (if w = 0 then iI (bHour V n m).1 else iI (bHour V n m).2) h') : ∀ r c h, c + r = 24 → keepM h0 h → AW M_X11_bestHour (.inl K) 36 [some (aR 15 0), some (aI (nI n)), some (aI (nI m)), some (aI w), none, some (aI (iI (am1 (fun k => (brg (wai V k) n m : Int)) c (0, -1)).1)), some (aI (iI (am1 (fun k => (brg (wai V k) n m : Int)) c (0, -1)).2)), some (aI (nI c)), none] [] h 0 0 := by
  intro r
  induction r with
  | zero =>
    intro c h hc h1
    refine vc_X11_bestHour_36 (nI n) (nI m) w _ _ (nI c) ?_
    simp (disch := omega) only [n_le]
    have : c = 24 := by omega
    subst this
    have := k h h1
    refine ⟨fun _ => ⟨fun q => ?_, fun q => ?_⟩, fun q => absurd (by omega) q⟩
    · rw [if_neg q] at this; exact this
    · rw [if_pos (Decidable.not_not.mp q)] at this; exact this
  | succ r ih =>
    intro c h hc h1
    refine vc_X11_bestHour_36 (nI n) (nI m) w _ _ (nI c) ?_
    simp (disch := omega) only [n_le, nI_add]
    refine ⟨fun q => by omega, fun _ => ⟨by decide, fun h2 o2 c2 => ?_⟩⟩
    have k2 := keepM_tr h1 (keepM_o (by decide) (by decide) o2)
    have hr2 : RV (h2.1 16 1) V := RV_cp hw hr (fun i hi => by rw [c2 i hi, keepM_r0 h1])
    refine ⟨V, c, hr2, hw, by omega, rfl, fun h3 o3 q3 => ⟨wai V c, n, m, ⟨q3, WF_wai hw, by rw [wai_10 (by omega)]; exact hn, rfl⟩, hm, rfl, fun h4 o4 q4 => ?_⟩⟩
    have k4 := keepM_tr (keepM_tr k2 (keepM_o (by decide) (by decide) o3)) (keepM_o (by decide) (by decide) o4)
    have := ih (c + 1) h4 (by omega) k4
    obtain ⟨b1, b2, b3, b4⟩ := bHour_b hw hn hm c (by omega)
    have g1 := brg_le (WF_wai (k := c) hw) (show n < wai V c 10 1 by rw [wai_10 (by omega)]; exact hn) hm
    rw [am1] at this
    dsimp only
    rw [nI_iI (brg (wai V c) n m), i_lt (by omega) (by omega) (by omega) (by omega)]
    refine ⟨fun q => ?_, fun q => ?_⟩
    · rw [if_pos q, ← nI_iI c] at this; exact this
    · rw [if_neg q] at this; exact this
theorem snd_X11_bestHour (a c w : Int32) {h : AH} {K : Int32 → AH → Prop} (k : S_X11_bestHour a c w h K) : AW M_X11_bestHour (.inl K) 0 [some (aR 15 0), some (aI a), some (aI c), some (aI w), none, none, none, none, none] [] h 0 0 := by
  obtain ⟨V, hr, hw, k⟩ := k
  refine vc_X11_bestHour a c w ?_
  unfold S_X11_isIn
  simp only [if10_eq]
  unfold R_bestHour at k
  by_cases hq : w01 w
  case neg =>
    refine ⟨fun q => absurd hq q, fun q => ?_⟩
    have := k h (keepM_rfl h)
    rw [if_pos hq] at this
    exact this
  refine ⟨fun _ => wT_use hr hw ?_, fun q => absurd (fun z => z hq) q⟩
  rw [if_neg (fun z => z hq)] at k
  rcases rfT_cases hw a c with ⟨n, m, hn, hm, hf, rfl, rfl, e⟩ | e
  case inr =>
    rw [if_pos e] at k
    exact ⟨fun q => absurd q e, fun _ => k h (keepM_rfl h)⟩
  rw [if_neg (fun z => z e)] at k
  have h7 := hw.2.1
  unfold nN at k
  rw [n_cl (show n < 2147483648 by omega), n_cl (show m < 2147483648 by omega)] at k
  exact ⟨fun _ => lp_X11_bestHour hr hw hn hm k 24 0 h (by omega) (keepM_rfl h), fun q => absurd e q⟩
theorem tr_X11_bestHour : ∀ (as : List AV) (h : AH) (K : Int32 → AH → Prop), T_X11_bestHour as h K → ∃ (q : Nat) (r : List AV), as = aR 15 q :: r := by
  intro as h K hk
  match as, hk with
  | [.inr (.inr (.inl q0)), .inl q1, .inl q2, .inl q3], hk =>
    obtain ⟨hb, hk⟩ := tif_inv hk
    simp only [Bool.and_eq_true] at hb
    obtain ⟨e0, e1⟩ := hb
    obtain ⟨a0, b0⟩ := q0
    have f0 : a0 = 15 := Nat.eq_of_beq_eq_true e0
    subst f0
    have f1 : b0 = 0 := Nat.eq_of_beq_eq_true e1
    subst f1
    exact ⟨_, _, rfl⟩
theorem tw_X11_bestHour : ∀ (as : List AV) (h : AH) (K : Int32 → AH → Prop), T_X11_bestHour as h K → (ini as).length ≤ mNL M_X11_bestHour ∧ AW M_X11_bestHour (.inl K) 0 (initL (mNL M_X11_bestHour) as) [] h 0 0 := by
  intro as h K hk
  match as, hk with
  | [.inr (.inr (.inl q0)), .inl q1, .inl q2, .inl q3], hk =>
    obtain ⟨hb, hk⟩ := tif_inv hk
    simp only [Bool.and_eq_true] at hb
    obtain ⟨e0, e1⟩ := hb
    obtain ⟨a0, b0⟩ := q0
    have f0 : a0 = 15 := Nat.eq_of_beq_eq_true e0
    subst f0
    have f1 : b0 = 0 := Nat.eq_of_beq_eq_true e1
    subst f1
    exact ⟨Nat.le_of_ble_eq_true rfl, snd_X11_bestHour q1 q2 q3 hk⟩
end
section
/-! ===== the reference: two throws, greedily, drums ===== -/
theorem amC_at {f : Nat → Int} {s : Nat} {p : Int × Int} : ∀ k, amC f s k p = p ∨ ∃ c, c < k ∧ amC f s k p = (((10 * s + c : Nat) : Int), f c)
  | 0 => Or.inl rfl
  | k + 1 => by
    unfold amC
    split
    · exact Or.inr ⟨k, by omega, rfl⟩
    · rcases amC_at k with h | ⟨c, hc, h⟩
      · exact Or.inl h
      · exact Or.inr ⟨c, by omega, h⟩
theorem amA_at {f : Nat → Nat → Int} {lim : Nat → Nat} {p : Int × Int} : ∀ k, amA f lim k p = p ∨ ∃ a c, a < k ∧ c ≤ lim a ∧ amA f lim k p = (((10 * a + c : Nat) : Int), f a c)
  | 0 => Or.inl rfl
  | k + 1 => by
    unfold amA
    rcases amC_at (f := f k) (s := k) (p := amA f lim k p) (lim k + 1) with h | ⟨c, hc, h⟩
    · rcases amA_at k with h2 | ⟨a, c, ha, hc, h2⟩
      · exact Or.inl (h.trans h2)
      · exact Or.inr ⟨a, c, by omega, hc, h.trans h2⟩
    · exact Or.inr ⟨k, c, by omega, by omega, h⟩
theorem amC_ge {f : Nat → Int} {s : Nat} {p : Int × Int} : ∀ k, p.2 ≤ (amC f s k p).2 ∧ ∀ c, c < k → f c ≤ (amC f s k p).2
  | 0 => ⟨Int.le_refl _, fun c hc => by omega⟩
  | k + 1 => by
    obtain ⟨h1, h2⟩ := amC_ge (f := f) (s := s) (p := p) k
    unfold amC
    split
    · refine ⟨by show p.2 ≤ f k; omega, fun c hc => ?_⟩
      show f c ≤ f k
      rcases Nat.lt_or_ge c k with h | h
      · have := h2 c h; omega
      · rw [show c = k by omega]; exact Int.le_refl _
    · refine ⟨h1, fun c hc => ?_⟩
      rcases Nat.lt_or_ge c k with h | h
      · exact h2 c h
      · rw [show c = k by omega]; omega
theorem bst_at {V : Vm} (hw : WF V) : ((bst V) = (-4, -1000000000) ∧ V 10 1 = 0) ∨ ∃ a c, a < V 10 1 ∧ c ≤ vFl V a ∧ bst V = (((10 * a + c : Nat) : Int), gn V a c) := by
  rcases amA_at (f := gn V) (lim := vFl V) (p := (-4, -1000000000)) (V 10 1) with h | h
  · refine Or.inl ⟨h, ?_⟩
    cases hs : V 10 1 with
    | zero => rfl
    | succ k =>
      exfalso
      have hb : bst V = amC (gn V k) k (vFl V k + 1) (amA (gn V) (vFl V) k (-4, -1000000000)) := by unfold bst; rw [hs, amA]
      have h1 := (amC_ge (f := gn V k) (s := k) (p := amA (gn V) (vFl V) k (-4, -1000000000)) (vFl V k + 1)).2 0 (by omega)
      rw [← hb] at h1
      have h2 : (bst V).2 = -1000000000 := by unfold bst; rw [h]
      have := gn_b hw (show k < V 10 1 by omega) (show 0 < 8 by omega)
      omega
  · exact Or.inr h
theorem thr_10 {V : Vm} {n m i : Nat} (h : i ≠ 2) : thr V n m 10 i = V 10 i := by
  cases ht : tak V n m with
  | none => rw [fin_none ht]; unfold fin; rw [if_neg (by omega), if_neg (by omega)]
  | some e => rw [fin_crd ht]; unfold fin; rw [if_neg (by omega), if_neg (by omega), crd_10]
theorem thr_8 {V : Vm} {n m t i : Nat} (h : t = 8 ∨ t = 9) : thr V n m t i = V t i := by
  cases ht : tak V n m with
  | none => rw [fin_none ht]; unfold fin; rw [if_neg (by omega), if_neg (by omega)]
  | some e => rw [fin_crd ht]; unfold fin crd; rw [if_neg (by omega), if_neg (by omega), uV_ne (by omega), uV_ne (by omega), uV_ne (by omega), uV_ne (by omega), uV_ne (by omega)]
def twoV (V : Vm) (a c : Nat) : Int := gn V a c + (bst (thr V a c)).2
def two (V : Vm) : Int × Int := amA (twoV V) (vFl V) (V 10 1) (0, -1000000000)
theorem twoV_b {V : Vm} {a c : Nat} (hw : WF V) (ha : a < V 10 1) (hc : c < 8) : twoV V a c ≤ 108 ∧ -68 ≤ twoV V a c ∧ -34 ≤ (bst (thr V a c)).2 ∧ (bst (thr V a c)).2 ≤ 54 := by
  have h1 := gn_b hw ha hc
  have h2 : (bst (thr V a c)).2 ≤ 54 ∧ -34 ≤ (bst (thr V a c)).2 := by
    have hw2 := WF_thr (n := a) hw hc
    rcases bst_at hw2 with ⟨_, h⟩ | ⟨a2, c2, h3, h4, h5⟩
    · rw [thr_10 (by omega)] at h; omega
    · rw [h5]
      have hf : vFl (thr V a c) a2 ≤ 7 := fly_le _
      exact gn_b hw2 h3 (by omega)
  unfold twoV
  omega
theorem two_b {V : Vm} (hw : WF V) : ∀ a, a ≤ V 10 1 → -1000000000 ≤ (amA (twoV V) (vFl V) a (0, -1000000000)).2 ∧ (amA (twoV V) (vFl V) a (0, -1000000000)).2 ≤ 108 ∧ -4 ≤ (amA (twoV V) (vFl V) a (0, -1000000000)).1 ∧ (amA (twoV V) (vFl V) a (0, -1000000000)).1 ≤ 67 := by
  have h7 := hw.2.1
  refine amA_b (n := V 10 1) h7 (fun s _ => fly_le _) (fun s k hs hk => ?_) (by simp) (by simp) (by simp) (by simp)
  have hf : vFl V s ≤ 7 := fly_le _
  have := twoV_b hw hs (show k < 8 by omega)
  omega
def R_twoThrows (V : Vm) (w : Int32) : Int32 := if ¬ w01 w then 1000000001 else if V 10 1 = 0 then 1000000004 else if w = 0 then iI (two V).2 else iI (two V).1
def S_X11_twoThrows (w : Int32) (h : AH) (K : Int32 → AH → Prop) : Prop := ∃ V, RV (h.1 16 0) V ∧ WF V ∧ ∀ h', keepM h h' → K (R_twoThrows V w) h'
def T_X11_twoThrows : List AV → AH → (Int32 → AH → Prop) → Prop := fun as h K => match as with
  | [.inr (.inr (.inl q0)), .inl q1] => tif (Nat.beq q0.1 15 && Nat.beq q0.2 0) (S_X11_twoThrows q1 h K)
  | _ => False

def M_X11_twoThrows : MI := (RX11, cX11_twoThrows, 8, [(0, .iload_n 1, []), (1, .iconst 0, []), (2, .iconst 1, []), (3, .invokestatic 53, []), (6, .ifCond .ne 6, [12]), (9, .ldc 180, []), (11, .ireturn, []), (12, .aload_n 0, []), (13, .getfield 9, []), (16, .iconst 1, []), (17, .iaload, []), (18, .ifCond .ne 6, [24]), (21, .ldc 179, []), (23, .ireturn, []), (24, .iconst 0, []), (25, .istore_n 2, []), (26, .ldc 171, []), (28, .istore_n 3, []), (29, .iconst 0, []), (30, .istore 4, []), (32, .iload 4, []), (34, .aload_n 0, []), (35, .getfield 9, []), (38, .iconst 1, []), (39, .iaload, []), (40, .if_icmp .ge 107, [147]), (43, .iconst 0, []), (44, .istore 5, []), (46, .iload 5, []), (48, .aload_n 0, []), (49, .getfield 9, []), (52, .iload 4, []), (54, .invokestatic 135, []), (57, .if_icmp .gt 84, [141]), (60, .aload_n 0, []), (61, .getfield 9, []), (64, .aload_n 0, []), (65, .getfield 13, []), (68, .invokestatic 148, []), (71, .aload_n 0, []), (72, .getfield 13, []), (75, .iload 4, []), (77, .iload 5, []), (79, .invokestatic 138, []), (82, .aload_n 0, []), (83, .getfield 9, []), (86, .iload 4, []), (88, .invokestatic 158, []), (91, .isub, []), (92, .istore 6, []), (94, .aload_n 0, []), (95, .aload_n 0, []), (96, .getfield 13, []), (99, .invokevirtual 175, []), (102, .istore 7, []), (104, .iload 6, []), (106, .aload_n 0, []), (107, .getfield 172, []), (110, .iadd, []), (111, .iload_n 3, []), (112, .if_icmp .gt 6, [118]), (115, .goto 20, [135]), (118, .iload 6, []), (120, .aload_n 0, []), (121, .getfield 172, []), (124, .iadd, []), (125, .istore_n 3, []), (126, .bipush 10, []), (128, .iload 4, []), (130, .imul, []), (131, .iload 5, []), (133, .iadd, []), (134, .istore_n 2, []), (135, .iinc 5 1, []), (138, .goto (-92), [46]), (141, .iinc 4 1, []), (144, .goto (-112), [32]), (147, .iload_n 1, []), (148, .ifCond .ne 7, [155]), (151, .iload_n 3, []), (152, .goto 4, [156]), (155, .iload_n 2, []), (156, .ireturn, [])], [(9, (15, 0, 1, 16, 0)), (13, (15, 1, 1, 16, 1)), (172, (15, 10, 0, 0, 0))], [(180, 1000000001), (179, 1000000004), (171, (-1000000000))], [], [(160, (3, 1, 22, 0, 0, .inl T_X11_isIn)), (406, (2, 2, 42, 0, 0, .inl T_X11_flies)), (445, (2, 1, 22, 0, 0, .inr (.inl T_X11_copies))), (415, (3, 5, 116, 0, 0, .inl T_X11_throwIn)), (475, (2, 2, 43, 0, 0, .inl T_X11_price)), (525, (2, 7, 164, 0, 0, .inl T_X11_bestBy))], 7, 164, 0, 0)
theorem ok_X11_twoThrows : MOK M_X11_twoThrows := ⟨by decide +kernel, List.forall_mem_cons.mpr ⟨fl_RX11_9, List.forall_mem_cons.mpr ⟨fl_RX11_13, List.forall_mem_cons.mpr ⟨fl_RX11_172, fun _ h => absurd h List.not_mem_nil⟩⟩⟩, List.forall_mem_cons.mpr ⟨(inG (i := 1162) (w := Cond.constant RX11 180 1000000001) (by decide +kernel) rfl), List.forall_mem_cons.mpr ⟨(inG (i := 1153) (w := Cond.constant RX11 179 1000000004) (by decide +kernel) rfl), List.forall_mem_cons.mpr ⟨(inG (i := 1148) (w := Cond.constant RX11 171 (-1000000000)) (by decide +kernel) rfl), fun _ h => absurd h List.not_mem_nil⟩⟩⟩, fun _ h => absurd h List.not_mem_nil, List.forall_mem_cons.mpr ⟨⟨Nat.le_of_ble_eq_true rfl, Nat.le_of_ble_eq_true rfl, cr_RX11_160⟩, List.forall_mem_cons.mpr ⟨⟨Nat.le_of_ble_eq_true rfl, Nat.le_of_ble_eq_true rfl, cr_RX11_406⟩, List.forall_mem_cons.mpr ⟨⟨Nat.le_of_ble_eq_true rfl, Nat.le_of_ble_eq_true rfl, cr_RX11_445⟩, List.forall_mem_cons.mpr ⟨⟨Nat.le_of_ble_eq_true rfl, Nat.le_of_ble_eq_true rfl, cr_RX11_415⟩, List.forall_mem_cons.mpr ⟨⟨Nat.le_of_ble_eq_true rfl, Nat.le_of_ble_eq_true rfl, cr_RX11_475⟩, List.forall_mem_cons.mpr ⟨⟨Nat.le_of_ble_eq_true rfl, Nat.le_of_ble_eq_true rfl, cr_RX11_525⟩, fun _ h => absurd h List.not_mem_nil⟩⟩⟩⟩⟩⟩⟩
set_option maxRecDepth 100000 in
theorem vc_X11_twoThrows {K : Int32 → AH → Prop} {h : AH} (p1 : Int32) (H : S_X11_isIn p1 (nI 0) (nI 1) h (fun x2 h1 => ((¬ x2 = 0) → inR (nI 1) 62 ∧ ((¬ (h1.1 16 0 (nI 1).toNatClampNeg) = 0) → AW M_X11_twoThrows (.inl K) 32 [some (aR 15 0), some (aI p1), some (aI (nI 0)), some (aI (-1000000000 : Int32)), some (aI (nI 0)), none, none, none] [] h1 0 0) ∧ (¬ (¬ (h1.1 16 0 (nI 1).toNatClampNeg) = 0) → K (1000000004 : Int32) h1)) ∧ (¬ (¬ x2 = 0) → K (1000000001 : Int32) h1))) : AW M_X11_twoThrows (.inl K) 0 [some (aR 15 0), some (aI p1), none, none, none, none, none, none] [] h 0 0 := AW_go (cuts := [(32, [true, true, true, true, true, false, false, false]), (46, [true, true, true, true, true, true, false, false])]) ok_X11_twoThrows 400 H
set_option maxRecDepth 100000 in
theorem vc_X11_twoThrows_32 {K : Int32 → AH → Prop} {h : AH}  (l1 : Int32) (l2 : Int32) (l3 : Int32) (l4 : Int32) (H : inR (nI 1) 62 ∧ (((h.1 16 0 (nI 1).toNatClampNeg) ≤ l4) → ((¬ l1 = 0) → K l2 h) ∧ (¬ (¬ l1 = 0) → K l3 h)) ∧ (¬ ((h.1 16 0 (nI 1).toNatClampNeg) ≤ l4) → AW M_X11_twoThrows (.inl K) 46 [some (aR 15 0), some (aI l1), some (aI l2), some (aI l3), some (aI l4), some (aI (nI 0)), none, none] [] h 0 0)) : AW M_X11_twoThrows (.inl K) 32 [some (aR 15 0), some (aI l1), some (aI l2), some (aI l3), some (aI l4), none, none, none] [] h 0 0 := AW_go (cuts := [(32, [true, true, true, true, true, false, false, false]), (46, [true, true, true, true, true, true, false, false])]) ok_X11_twoThrows 400 H
set_option maxRecDepth 100000 in
theorem vc_X11_twoThrows_46 {K : Int32 → AH → Prop} {h : AH}  (l1 : Int32) (l2 : Int32) (l3 : Int32) (l4 : Int32) (l5 : Int32) (H : S_X11_flies 0 l4 h (fun x2 h1 => ((x2 < l5) → AW M_X11_twoThrows (.inl K) 32 [some (aR 15 0), some (aI l1), some (aI l2), some (aI l3), some (aI (l4 + (nI 1))), none, none, none] [] h1 0 0) ∧ (¬ (x2 < l5) → S_X11_copies 0 1 h1 (fun h3 => S_X11_throwIn 1 l4 l5 h3 (fun x5 h4 => S_X11_price 0 l4 h4 (fun x7 h6 => S_X11_bestBy 1 h6 (fun x9 h8 => ((l3 < ((x5 - x7) + (h8.1 15 0 10))) → AW M_X11_twoThrows (.inl K) 46 [some (aR 15 0), some (aI l1), some (aI (((nI 10) * l4) + l5)), some (aI ((x5 - x7) + (h8.1 15 0 10))), some (aI l4), some (aI (l5 + (nI 1))), none, none] [] h8 0 0) ∧ (¬ (l3 < ((x5 - x7) + (h8.1 15 0 10))) → AW M_X11_twoThrows (.inl K) 46 [some (aR 15 0), some (aI l1), some (aI l2), some (aI l3), some (aI l4), some (aI (l5 + (nI 1))), none, none] [] h8 0 0)))))))) : AW M_X11_twoThrows (.inl K) 46 [some (aR 15 0), some (aI l1), some (aI l2), some (aI l3), some (aI l4), some (aI l5), none, none] [] h 0 0 := AW_go (cuts := [(32, [true, true, true, true, true, false, false, false]), (46, [true, true, true, true, true, true, false, false])]) ok_X11_twoThrows 400 H

theorem lp_X11_twoThrows {V : Vm} {w : Int32} {h0 : AH} {K : Int32 → AH → Prop} (hr : RV (h0.1 16 0) V) (hw : WF V) (k : ∀ h', keepM h0 h' → K (if w = 0 then iI (two V).2 else iI (two V).1) h') : ∀ r a h, a + r = V 10 1 → keepM h0 h → AW M_X11_twoThrows (.inl K) 32 [some (aR 15 0), some (aI w), some (aI (iI (amA (twoV V) (vFl V) a (0, -1000000000)).1)), some (aI (iI (amA (twoV V) (vFl V) a (0, -1000000000)).2)), some (aI (nI a)), none, none, none] [] h 0 0 := by
  have h7 := hw.2.1
  intro r
  induction r with
  | zero =>
    intro a h ha h1
    refine vc_X11_twoThrows_32 w _ _ (nI a) ?_
    obtain ⟨-, -, -, -, -, -, -, -, -, -, -, e1, -, -⟩ := RVs hr
    rw [← keepM_r0 h1] at e1
    simp (disch := omega) only [n_inT, n_cl, true_and, e1, n_le]
    have : a = V 10 1 := by omega
    subst this
    have := k h h1
    refine ⟨fun _ => ⟨fun q => ?_, fun q => ?_⟩, fun q => absurd (by omega) q⟩
    · rw [if_neg q] at this; exact this
    · rw [if_pos (Decidable.not_not.mp q)] at this; exact this
  | succ r ih =>
    intro a h ha h1
    refine vc_X11_twoThrows_32 w _ _ (nI a) ?_
    obtain ⟨-, -, -, -, -, -, -, -, -, -, -, e1, -, -⟩ := RVs hr
    rw [← keepM_r0 h1] at e1
    simp (disch := omega) only [n_inT, n_cl, true_and, e1, n_le]
    refine ⟨fun q => by omega, fun _ => ?_⟩
    have hf : vFl V a ≤ 7 := fly_le _
    have hpr : vPr V a ≤ 34 := prc_le (hw.2.2.2.2.2.2 a (by omega)).2
    obtain ⟨b1, b2, b3, b4⟩ := two_b hw a (by omega)
    have bC := amC_b (s := a) (n := vFl V a + 1) (f := twoV V a) (p := amA (twoV V) (vFl V) a (0, -1000000000)) (A := -1000000000) (B := 108) (by omega) (by omega) (fun c hc => by have := twoV_b hw (show a < V 10 1 by omega) (show c < 8 by omega); omega) b1 b2 b3 b4
    have inner : ∀ r2 c h, c + r2 = vFl V a + 1 → keepM h0 h → AW M_X11_twoThrows (.inl K) 46 [some (aR 15 0), some (aI w), some (aI (iI (amC (twoV V a) a c (amA (twoV V) (vFl V) a (0, -1000000000))).1)), some (aI (iI (amC (twoV V a) a c (amA (twoV V) (vFl V) a (0, -1000000000))).2)), some (aI (nI a)), some (aI (nI c)), none, none] [] h 0 0 := by
      intro r2
      induction r2 with
      | zero =>
        intro c h hc h1
        refine vc_X11_twoThrows_46 w _ _ (nI a) (nI c) ?_
        have hr' := hr
        rw [← keepM_r0 h1] at hr'
        refine ⟨V, a, ⟨hr', hw, by omega, rfl⟩, ?_⟩
        simp (disch := omega) only [n_lt, nI_add]
        refine ⟨fun _ => ?_, fun q => absurd (by omega) q⟩
        have : c = vFl V a + 1 := by omega
        subst this
        exact ih (a + 1) h (by omega) h1
      | succ r2 ih2 =>
        intro c h hc h1
        refine vc_X11_twoThrows_46 w _ _ (nI a) (nI c) ?_
        have hr' := hr
        rw [← keepM_r0 h1] at hr'
        refine ⟨V, a, ⟨hr', hw, by omega, rfl⟩, ?_⟩
        simp (disch := omega) only [n_lt, nI_add, pk_mul]
        refine ⟨fun q => by omega, fun _ => ⟨by decide, fun h3 o3 c3 => ?_⟩⟩
        have k3 := keepM_tr h1 (keepM_o (by decide) (by decide) o3)
        refine ⟨V, a, c, ⟨RV_cp hw hr' c3, hw, by omega, rfl⟩, by omega, rfl, fun h4 o4 q4 => ?_⟩
        have k4 := keepM_tr k3 (keepM_o (by decide) (by decide) o4)
        have hr4 := hr
        rw [← keepM_r0 k4] at hr4
        have hw4 : WF (thr V a c) := WF_thr hw (by omega)
        refine ⟨V, a, ⟨hr4, hw, by omega, rfl⟩, thr V a c, q4, hw4, by decide, fun h5 o5 e5 => ?_⟩
        have k5 := keepM_tr k4 (keepM_B o5)
        have ht := twoV_b hw (show a < V 10 1 by omega) (show c < 8 by omega)
        have hg := gn_b hw (show a < V 10 1 by omega) (show c < 8 by omega)
        obtain ⟨c1, c2, c3, c4⟩ := bC c (by omega)
        have := ih2 (c + 1) h5 (by omega) k5
        rw [amC] at this
        dsimp only
        rw [e5, n_subI, show (brg V a c : Int) - (vPr V a : Int) = gn V a c from rfl, i_add, show gn V a c + (bst (thr V a c)).2 = twoV V a c from rfl, i_lt (by omega) (by omega) (by omega) (by omega)]
        refine ⟨fun q => ?_, fun q => ?_⟩
        · rw [if_pos q] at this
          rw [nI_iI (10 * a + c)]
          exact this
        · rw [if_neg q] at this
          exact this
    exact inner (vFl V a + 1) 0 h (by omega) h1
theorem snd_X11_twoThrows (w : Int32) {h : AH} {K : Int32 → AH → Prop} (k : S_X11_twoThrows w h K) : AW M_X11_twoThrows (.inl K) 0 [some (aR 15 0), some (aI w), none, none, none, none, none, none] [] h 0 0 := by
  obtain ⟨V, hr, hw, k⟩ := k
  have h7 := hw.2.1
  refine vc_X11_twoThrows w ?_
  unfold S_X11_isIn
  simp only [if10_eq]
  unfold R_twoThrows at k
  obtain ⟨-, -, -, -, -, -, -, -, -, -, -, e1, -, -⟩ := RVs hr
  simp (disch := omega) only [n_inT, n_cl, true_and, e1, n_eq0]
  refine ⟨fun q => ⟨fun q2 => ?_, fun q2 => ?_⟩, fun q => ?_⟩
  · rw [if_neg (fun z => z (Decidable.not_not.mp q)), if_neg q2] at k
    rw [i_far]
    exact lp_X11_twoThrows hr hw k (V 10 1) 0 h (by omega) (keepM_rfl h)
  · rw [if_neg (fun z => z (Decidable.not_not.mp q)), if_pos (Decidable.not_not.mp q2)] at k
    exact k h (keepM_rfl h)
  · rw [if_pos (fun z => q (fun y => y z))] at k
    exact k h (keepM_rfl h)
theorem tr_X11_twoThrows : ∀ (as : List AV) (h : AH) (K : Int32 → AH → Prop), T_X11_twoThrows as h K → ∃ (q : Nat) (r : List AV), as = aR 15 q :: r := by
  intro as h K hk
  match as, hk with
  | [.inr (.inr (.inl q0)), .inl q1], hk =>
    obtain ⟨hb, hk⟩ := tif_inv hk
    simp only [Bool.and_eq_true] at hb
    obtain ⟨e0, e1⟩ := hb
    obtain ⟨a0, b0⟩ := q0
    have f0 : a0 = 15 := Nat.eq_of_beq_eq_true e0
    subst f0
    have f1 : b0 = 0 := Nat.eq_of_beq_eq_true e1
    subst f1
    exact ⟨_, _, rfl⟩
theorem tw_X11_twoThrows : ∀ (as : List AV) (h : AH) (K : Int32 → AH → Prop), T_X11_twoThrows as h K → (ini as).length ≤ mNL M_X11_twoThrows ∧ AW M_X11_twoThrows (.inl K) 0 (initL (mNL M_X11_twoThrows) as) [] h 0 0 := by
  intro as h K hk
  match as, hk with
  | [.inr (.inr (.inl q0)), .inl q1], hk =>
    obtain ⟨hb, hk⟩ := tif_inv hk
    simp only [Bool.and_eq_true] at hb
    obtain ⟨e0, e1⟩ := hb
    obtain ⟨a0, b0⟩ := q0
    have f0 : a0 = 15 := Nat.eq_of_beq_eq_true e0
    subst f0
    have f1 : b0 = 0 := Nat.eq_of_beq_eq_true e1
    subst f1
    exact ⟨Nat.le_of_ble_eq_true rfl, snd_X11_twoThrows q1 hk⟩

def grd : Nat → Vm → Int × Nat
  | 0, _ => (0, 0)
  | n + 1, V => if (bst V).1 < 0 ∨ (bst V).2 ≤ 0 then (0, 0) else ((bst V).2 + (grd n (thr V ((bst V).1.toNat / 10) ((bst V).1.toNat % 10))).1, (grd n (thr V ((bst V).1.toNat / 10) ((bst V).1.toNat % 10))).2 + 1)
def R_greedily (V : Vm) (n w : Int32) : Int32 := if ¬ (nI 0 ≤ n ∧ n ≤ nI 20) ∨ ¬ w01 w then iI (-1) else if w = 0 then iI (grd (nN n) V).1 else nI (grd (nN n) V).2
def S_X11_greedily (n w : Int32) (h : AH) (K : Int32 → AH → Prop) : Prop := ∃ V, RV (h.1 16 0) V ∧ WF V ∧ ∀ h', keepM h h' → K (R_greedily V n w) h'
def T_X11_greedily : List AV → AH → (Int32 → AH → Prop) → Prop := fun as h K => match as with
  | [.inr (.inr (.inl q0)), .inl q1, .inl q2] => tif (Nat.beq q0.1 15 && Nat.beq q0.2 0) (S_X11_greedily q1 q2 h K)
  | _ => False

def M_X11_greedily : MI := (RX11, cX11_greedily, 7, [(0, .iload_n 1, []), (1, .iconst 0, []), (2, .bipush 20, []), (4, .invokestatic 53, []), (7, .ifCond .eq 12, [19]), (10, .iload_n 2, []), (11, .iconst 0, []), (12, .iconst 1, []), (13, .invokestatic 53, []), (16, .ifCond .ne 5, [21]), (19, .iconst (-1), []), (20, .ireturn, []), (21, .aload_n 0, []), (22, .getfield 9, []), (25, .aload_n 0, []), (26, .getfield 13, []), (29, .invokestatic 148, []), (32, .iconst 0, []), (33, .istore_n 3, []), (34, .iconst 0, []), (35, .istore 4, []), (37, .aload_n 0, []), (38, .aload_n 0, []), (39, .getfield 13, []), (42, .invokevirtual 175, []), (45, .istore 5, []), (47, .iload 4, []), (49, .iload_n 1, []), (50, .if_icmp .ge 57, [107]), (53, .iload 5, []), (55, .ifCond .lt 52, [107]), (58, .aload_n 0, []), (59, .getfield 172, []), (62, .ifCond .le 45, [107]), (65, .iload_n 3, []), (66, .aload_n 0, []), (67, .getfield 172, []), (70, .iadd, []), (71, .istore_n 3, []), (72, .iinc 4 1, []), (75, .aload_n 0, []), (76, .getfield 13, []), (79, .iload 5, []), (81, .bipush 10, []), (83, .idiv, []), (84, .iload 5, []), (86, .bipush 10, []), (88, .irem, []), (89, .invokestatic 138, []), (92, .istore 6, []), (94, .aload_n 0, []), (95, .aload_n 0, []), (96, .getfield 13, []), (99, .invokevirtual 175, []), (102, .istore 5, []), (104, .goto (-57), [47]), (107, .iload_n 2, []), (108, .ifCond .ne 7, [115]), (111, .iload_n 3, []), (112, .goto 5, [117]), (115, .iload 4, []), (117, .ireturn, [])], [(9, (15, 0, 1, 16, 0)), (13, (15, 1, 1, 16, 1)), (172, (15, 10, 0, 0, 0))], [], [], [(160, (3, 1, 22, 0, 0, .inl T_X11_isIn)), (445, (2, 1, 22, 0, 0, .inr (.inl T_X11_copies))), (525, (2, 7, 164, 0, 0, .inl T_X11_bestBy)), (415, (3, 5, 116, 0, 0, .inl T_X11_throwIn))], 7, 164, 0, 0)
theorem ok_X11_greedily : MOK M_X11_greedily := ⟨by decide +kernel, List.forall_mem_cons.mpr ⟨fl_RX11_9, List.forall_mem_cons.mpr ⟨fl_RX11_13, List.forall_mem_cons.mpr ⟨fl_RX11_172, fun _ h => absurd h List.not_mem_nil⟩⟩⟩, fun _ h => absurd h List.not_mem_nil, fun _ h => absurd h List.not_mem_nil, List.forall_mem_cons.mpr ⟨⟨Nat.le_of_ble_eq_true rfl, Nat.le_of_ble_eq_true rfl, cr_RX11_160⟩, List.forall_mem_cons.mpr ⟨⟨Nat.le_of_ble_eq_true rfl, Nat.le_of_ble_eq_true rfl, cr_RX11_445⟩, List.forall_mem_cons.mpr ⟨⟨Nat.le_of_ble_eq_true rfl, Nat.le_of_ble_eq_true rfl, cr_RX11_525⟩, List.forall_mem_cons.mpr ⟨⟨Nat.le_of_ble_eq_true rfl, Nat.le_of_ble_eq_true rfl, cr_RX11_415⟩, fun _ h => absurd h List.not_mem_nil⟩⟩⟩⟩⟩
set_option maxRecDepth 100000 in
theorem vc_X11_greedily {K : Int32 → AH → Prop} {h : AH} (p1 : Int32) (p2 : Int32) (H : S_X11_isIn p1 (nI 0) (nI 20) h (fun x2 h1 => ((x2 = 0) → K (iI (-1)) h1) ∧ (¬ (x2 = 0) → S_X11_isIn p2 (nI 0) (nI 1) h1 (fun x4 h3 => ((¬ x4 = 0) → S_X11_copies 0 1 h3 (fun h5 => S_X11_bestBy 1 h5 (fun x7 h6 => AW M_X11_greedily (.inl K) 47 [some (aR 15 0), some (aI p1), some (aI p2), some (aI (nI 0)), some (aI (nI 0)), some (aI x7), none] [] h6 0 0))) ∧ (¬ (¬ x4 = 0) → K (iI (-1)) h3))))) : AW M_X11_greedily (.inl K) 0 [some (aR 15 0), some (aI p1), some (aI p2), none, none, none, none] [] h 0 0 := AW_go (cuts := [(47, [true, true, true, true, true, true, false])]) ok_X11_greedily 400 H
set_option maxRecDepth 100000 in
theorem vc_X11_greedily_47 {K : Int32 → AH → Prop} {h : AH}  (l1 : Int32) (l2 : Int32) (l3 : Int32) (l4 : Int32) (l5 : Int32) (H : ((l1 ≤ l4) → ((¬ l2 = 0) → K l4 h) ∧ (¬ (¬ l2 = 0) → K l3 h)) ∧ (¬ (l1 ≤ l4) → ((l5 < 0) → ((¬ l2 = 0) → K l4 h) ∧ (¬ (¬ l2 = 0) → K l3 h)) ∧ (¬ (l5 < 0) → (((h.1 15 0 10) ≤ 0) → ((¬ l2 = 0) → K l4 h) ∧ (¬ (¬ l2 = 0) → K l3 h)) ∧ (¬ ((h.1 15 0 10) ≤ 0) → (¬ (nI 10) = 0) ∧ (¬ (nI 10) = 0) ∧ S_X11_throwIn 1 (l5 / (nI 10)) (l5 - l5 / (nI 10) * (nI 10)) h (fun x2 h1 => S_X11_bestBy 1 h1 (fun x4 h3 => AW M_X11_greedily (.inl K) 47 [some (aR 15 0), some (aI l1), some (aI l2), some (aI (l3 + (h.1 15 0 10))), some (aI (l4 + (nI 1))), some (aI x4), none] [] h3 0 0)))))) : AW M_X11_greedily (.inl K) 47 [some (aR 15 0), some (aI l1), some (aI l2), some (aI l3), some (aI l4), some (aI l5), none] [] h 0 0 := AW_go (cuts := [(47, [true, true, true, true, true, true, false])]) ok_X11_greedily 400 H

theorem lp_X11_greedily {w : Int32} {h0 : AH} {K : Int32 → AH → Prop} {N : Nat} (hN : N ≤ 20) : ∀ r W A B h, B + r = N → 0 ≤ A → A ≤ 54 * (B : Int) → WF W → RV (h.1 16 1) W → h.1 15 0 10 = iI (bst W).2 → keepM h0 h → (∀ h', keepM h0 h' → K (if w = 0 then iI (A + (grd r W).1) else nI (B + (grd r W).2)) h') → AW M_X11_greedily (.inl K) 47 [some (aR 15 0), some (aI (nI N)), some (aI w), some (aI (iI A)), some (aI (nI B)), some (aI (iI (bst W).1)), none] [] h 0 0 := by
  intro r
  induction r with
  | zero =>
    intro W A B h hB hA hA2 hw hr he hk k
    refine vc_X11_greedily_47 (nI N) w (iI A) (nI B) (iI (bst W).1) ?_
    have := k h hk
    rw [grd] at this
    simp (disch := omega) only [n_le]
    simp only [Int.add_zero, Nat.add_zero] at this
    refine ⟨fun _ => ⟨fun q => ?_, fun q => ?_⟩, fun q => absurd (by omega) q⟩
    · rw [if_neg q] at this; exact this
    · rw [if_pos (Decidable.not_not.mp q)] at this; exact this
  | succ r ih =>
    intro W A B h hB hA hA2 hw hr he hk k
    refine vc_X11_greedily_47 (nI N) w (iI A) (nI B) (iI (bst W).1) ?_
    have h7 := hw.2.1
    obtain ⟨b1, b2, b3, b4⟩ := bst_b hw _ (Nat.le_refl _)
    have b1 : -1000000000 ≤ (bst W).2 := b1
    have b2 : (bst W).2 ≤ 54 := b2
    have b3 : -4 ≤ (bst W).1 := b3
    have b4 : (bst W).1 ≤ 67 := b4
    have stop : ((bst W).1 < 0 ∨ (bst W).2 ≤ 0) → (¬ w = 0 → K (nI B) h) ∧ (¬ ¬ w = 0 → K (iI A) h) := by
      intro hs
      have := k h hk
      rw [grd, if_pos hs] at this
      simp only [Int.add_zero, Nat.add_zero] at this
      refine ⟨fun q => ?_, fun q => ?_⟩
      · rw [if_neg q] at this; exact this
      · rw [if_pos (Decidable.not_not.mp q)] at this; exact this
    rw [he]
    simp (disch := omega) only [n_le, i_0, i_lt, i_le]
    simp only [← i_0]
    refine ⟨fun q => by omega, fun _ => ⟨fun q => stop (Or.inl q), fun q => ⟨fun q2 => stop (Or.inr q2), fun q2 => ⟨by decide, by decide, ?_⟩⟩⟩⟩
    rcases bst_at hw with ⟨h1, _⟩ | ⟨a, c, ha, hc, hb⟩
    · rw [h1] at q; exact absurd (by decide) q
    have hf : vFl W a ≤ 7 := fly_le _
    have e1 : (bst W).1 = ((10 * a + c : Nat) : Int) := by rw [hb]
    have ex : iI (bst W).1 = nI (10 * a + c) := by rw [e1, nI_iI]
    rw [ex]
    rw [n_rem (show 10 * a + c < 2147483648 by omega) (by omega) (by omega), n_div (show 10 * a + c < 2147483648 by omega) (by omega) (by omega)]
    rw [show (10 * a + c) / 10 = a by omega, show (10 * a + c) % 10 = c by omega]
    have et : (bst W).1.toNat = 10 * a + c := by rw [e1]; rfl
    refine ⟨W, a, c, ⟨hr, hw, ha, rfl⟩, by omega, rfl, fun h2 o2 q2' => ⟨thr W a c, q2', WF_thr hw (by omega), by decide, fun h3 o3 e3 => ?_⟩⟩
    have hg := gn_b hw ha (show c < 8 by omega)
    rw [i_add, nI_add]
    refine ih (thr W a c) (A + (bst W).2) (B + 1) h3 (by omega) (by omega) (by omega) (WF_thr hw (by omega)) (by rw [onlyB_r (by decide) o3]; exact q2') e3 (keepM_tr (keepM_tr hk (keepM_o (by decide) (by decide) o2)) (keepM_B o3)) (fun h' q' => ?_)
    have := k h' q'
    have hng : ¬ ((bst W).1 < 0 ∨ (bst W).2 ≤ 0) := by omega
    rw [grd, if_neg hng, et, show (10 * a + c) / 10 = a by omega, show (10 * a + c) % 10 = c by omega] at this
    rw [show A + (bst W).2 + (grd r (thr W a c)).1 = A + ((bst W).2 + (grd r (thr W a c)).1) by omega, show B + 1 + (grd r (thr W a c)).2 = B + ((grd r (thr W a c)).2 + 1) by omega]
    exact this
theorem snd_X11_greedily (n w : Int32) {h : AH} {K : Int32 → AH → Prop} (k : S_X11_greedily n w h K) : AW M_X11_greedily (.inl K) 0 [some (aR 15 0), some (aI n), some (aI w), none, none, none, none] [] h 0 0 := by
  obtain ⟨V, hr, hw, k⟩ := k
  refine vc_X11_greedily n w ?_
  unfold S_X11_isIn
  simp only [if10_eq]
  unfold R_greedily at k
  refine ⟨fun q => ?_, fun q => ⟨fun q2 => ⟨by decide, fun h2 o2 c2 => ?_⟩, fun q2 => ?_⟩⟩
  · rw [if_pos (Or.inl q)] at k
    exact k h (keepM_rfl h)
  · have q := Decidable.not_not.mp q
    rw [if_neg (by rintro (z | z); exact z q; exact q2 z)] at k
    obtain ⟨i, hi, rfl⟩ := n_of (by omega) q.1 q.2
    unfold nN at k
    rw [n_cl (show i < 2147483648 by omega)] at k
    have hr2 := RV_cp hw hr c2
    refine ⟨V, hr2, hw, by decide, fun h3 o3 e3 => ?_⟩
    have := lp_X11_greedily (w := w) (h0 := h) (K := K) hi i V 0 0 h3 (by omega) (by omega) (by omega) hw (by rw [onlyB_r (by decide) o3]; exact hr2) e3 (keepM_tr (keepM_o (by decide) (by decide) o2) (keepM_B o3)) (fun h' q' => by rw [Int.zero_add, Nat.zero_add]; exact k h' q')
    rw [show iI 0 = nI 0 from rfl] at this
    exact this
  · rw [if_pos (Or.inr (fun z => q2 (fun y => y z)))] at k
    exact k h (keepM_rfl h)
theorem tr_X11_greedily : ∀ (as : List AV) (h : AH) (K : Int32 → AH → Prop), T_X11_greedily as h K → ∃ (q : Nat) (r : List AV), as = aR 15 q :: r := by
  intro as h K hk
  match as, hk with
  | [.inr (.inr (.inl q0)), .inl q1, .inl q2], hk =>
    obtain ⟨hb, hk⟩ := tif_inv hk
    simp only [Bool.and_eq_true] at hb
    obtain ⟨e0, e1⟩ := hb
    obtain ⟨a0, b0⟩ := q0
    have f0 : a0 = 15 := Nat.eq_of_beq_eq_true e0
    subst f0
    have f1 : b0 = 0 := Nat.eq_of_beq_eq_true e1
    subst f1
    exact ⟨_, _, rfl⟩
theorem tw_X11_greedily : ∀ (as : List AV) (h : AH) (K : Int32 → AH → Prop), T_X11_greedily as h K → (ini as).length ≤ mNL M_X11_greedily ∧ AW M_X11_greedily (.inl K) 0 (initL (mNL M_X11_greedily) as) [] h 0 0 := by
  intro as h K hk
  match as, hk with
  | [.inr (.inr (.inl q0)), .inl q1, .inl q2], hk =>
    obtain ⟨hb, hk⟩ := tif_inv hk
    simp only [Bool.and_eq_true] at hb
    obtain ⟨e0, e1⟩ := hb
    obtain ⟨a0, b0⟩ := q0
    have f0 : a0 = 15 := Nat.eq_of_beq_eq_true e0
    subst f0
    have f1 : b0 = 0 := Nat.eq_of_beq_eq_true e1
    subst f1
    exact ⟨Nat.le_of_ble_eq_true rfl, snd_X11_greedily q1 q2 hk⟩
end
section
/-! ===== the reference: what is told of the valley ===== -/
theorem in_n {x : Int32} {n : Nat} (hn : n < 2147483648) : (nI 0 ≤ x ∧ x ≤ nI n) ↔ ∃ k, k ≤ n ∧ x = nI k := by
  constructor
  · rintro ⟨h1, h2⟩
    exact n_of hn h1 h2
  · rintro ⟨k, hk, rfl⟩
    rw [n_le (by omega) (by omega), n_le (by omega) (by omega)]
    omega
def R_cellOf (V : Vm) (c w : Int32) : Int32 := if cel c ∧ (nI 0 ≤ w ∧ w ≤ nI 2) then nI (V (nN w) (nN c)) else iI (-1)
def S_X11_cellOf (c w : Int32) (h : AH) (K : Int32 → AH → Prop) : Prop := ∃ V, RV (h.1 16 0) V ∧ WF V ∧ K (R_cellOf V c w) h
def T_X11_cellOf : List AV → AH → (Int32 → AH → Prop) → Prop := fun as h K => match as with
  | [.inr (.inr (.inl q0)), .inl q1, .inl q2] => tif (Nat.beq q0.1 15 && Nat.beq q0.2 0) (S_X11_cellOf q1 q2 h K)
  | _ => False

def M_X11_cellOf : MI := (RX11, cX11_cellOf, 3, [(0, .iload_n 1, []), (1, .invokestatic 120, []), (4, .ifCond .eq 25, [29]), (7, .iload_n 2, []), (8, .iconst 0, []), (9, .iconst 2, []), (10, .invokestatic 53, []), (13, .ifCond .eq 16, [29]), (16, .aload_n 0, []), (17, .getfield 9, []), (20, .iload_n 1, []), (21, .iload_n 2, []), (22, .invokestatic 64, []), (25, .iaload, []), (26, .goto 4, [30]), (29, .iconst (-1), []), (30, .ireturn, [])], [(9, (15, 0, 1, 16, 0))], [], [], [(361, (1, 2, 42, 0, 0, .inl T_X11_isCell)), (160, (3, 1, 22, 0, 0, .inl T_X11_isIn)), (193, (2, 1, 21, 0, 0, .inl T_X11_atCell))], 2, 42, 0, 0)
theorem ok_X11_cellOf : MOK M_X11_cellOf := ⟨by decide +kernel, List.forall_mem_cons.mpr ⟨fl_RX11_9, fun _ h => absurd h List.not_mem_nil⟩, fun _ h => absurd h List.not_mem_nil, fun _ h => absurd h List.not_mem_nil, List.forall_mem_cons.mpr ⟨⟨Nat.le_of_ble_eq_true rfl, Nat.le_of_ble_eq_true rfl, cr_RX11_361⟩, List.forall_mem_cons.mpr ⟨⟨Nat.le_of_ble_eq_true rfl, Nat.le_of_ble_eq_true rfl, cr_RX11_160⟩, List.forall_mem_cons.mpr ⟨⟨Nat.le_of_ble_eq_true rfl, Nat.le_of_ble_eq_true rfl, cr_RX11_193⟩, fun _ h => absurd h List.not_mem_nil⟩⟩⟩⟩
set_option maxRecDepth 100000 in
theorem vc_X11_cellOf {K : Int32 → AH → Prop} {h : AH} (p1 : Int32) (p2 : Int32) (H : S_X11_isCell p1 h (fun x2 h1 => ((x2 = 0) → K (iI (-1)) h1) ∧ (¬ (x2 = 0) → S_X11_isIn p2 (nI 0) (nI 2) h1 (fun x4 h3 => ((x4 = 0) → K (iI (-1)) h3) ∧ (¬ (x4 = 0) → S_X11_atCell p1 p2 h3 (fun x6 h5 => inR x6 62 ∧ K (h5.1 16 0 x6.toNatClampNeg) h5)))))) : AW M_X11_cellOf (.inl K) 0 [some (aR 15 0), some (aI p1), some (aI p2)] [] h 0 0 := AW_go (cuts := []) ok_X11_cellOf 400 H

theorem snd_X11_cellOf (c w : Int32) {h : AH} {K : Int32 → AH → Prop} (k : S_X11_cellOf c w h K) : AW M_X11_cellOf (.inl K) 0 [some (aR 15 0), some (aI c), some (aI w)] [] h 0 0 := by
  obtain ⟨V, hr, hw, k⟩ := k
  refine vc_X11_cellOf c w ?_
  unfold S_X11_isIn S_X11_isCell
  simp only [if10_eq]
  unfold R_cellOf at k
  refine ⟨fun q => ?_, fun q => ⟨fun q2 => ?_, fun q2 => ?_⟩⟩
  · rw [if_neg (fun z => q z.1)] at k; exact k
  · rw [if_neg (fun z => q2 z.2)] at k; exact k
  · have q := Decidable.not_not.mp q
    have q2 := Decidable.not_not.mp q2
    rw [if_pos ⟨q, q2⟩] at k
    obtain ⟨m, hm, rfl⟩ := in8_iff.mp q
    obtain ⟨i, hi, rfl⟩ := (in_n (by omega)).mp q2
    unfold nN at k
    rw [n_cl (by omega), n_cl (by omega)] at k
    simp (disch := omega) only [S_X11_atCell, pk_mul, nI_add, n_inT, n_cl, true_and]
    have hl : m < vLim V i := by rcases (show i = 0 ∨ i = 1 ∨ i = 2 by omega) with rfl | rfl | rfl <;> exact hm
    have := hr i m hl
    rw [show ro i m = 4 + 3 * m + i by rcases (show i = 0 ∨ i = 1 ∨ i = 2 by omega) with rfl | rfl | rfl <;> rfl] at this
    rw [this]
    exact k
theorem tr_X11_cellOf : ∀ (as : List AV) (h : AH) (K : Int32 → AH → Prop), T_X11_cellOf as h K → ∃ (q : Nat) (r : List AV), as = aR 15 q :: r := by
  intro as h K hk
  match as, hk with
  | [.inr (.inr (.inl q0)), .inl q1, .inl q2], hk =>
    obtain ⟨hb, hk⟩ := tif_inv hk
    simp only [Bool.and_eq_true] at hb
    obtain ⟨e0, e1⟩ := hb
    obtain ⟨a0, b0⟩ := q0
    have f0 : a0 = 15 := Nat.eq_of_beq_eq_true e0
    subst f0
    have f1 : b0 = 0 := Nat.eq_of_beq_eq_true e1
    subst f1
    exact ⟨_, _, rfl⟩
theorem tw_X11_cellOf : ∀ (as : List AV) (h : AH) (K : Int32 → AH → Prop), T_X11_cellOf as h K → (ini as).length ≤ mNL M_X11_cellOf ∧ AW M_X11_cellOf (.inl K) 0 (initL (mNL M_X11_cellOf) as) [] h 0 0 := by
  intro as h K hk
  match as, hk with
  | [.inr (.inr (.inl q0)), .inl q1, .inl q2], hk =>
    obtain ⟨hb, hk⟩ := tif_inv hk
    simp only [Bool.and_eq_true] at hb
    obtain ⟨e0, e1⟩ := hb
    obtain ⟨a0, b0⟩ := q0
    have f0 : a0 = 15 := Nat.eq_of_beq_eq_true e0
    subst f0
    have f1 : b0 = 0 := Nat.eq_of_beq_eq_true e1
    subst f1
    exact ⟨Nat.le_of_ble_eq_true rfl, snd_X11_cellOf q1 q2 hk⟩

def R_eagle (V : Vm) (e w : Int32) : Int32 := if (nI 0 ≤ e ∧ e ≤ nI (V 10 0) - nI 1) ∧ (nI 0 ≤ w ∧ w ≤ nI 3) then nI (V (4 + nN w) (nN e)) else iI (-1)
def S_X11_eagle (c w : Int32) (h : AH) (K : Int32 → AH → Prop) : Prop := ∃ V, RV (h.1 16 0) V ∧ WF V ∧ K (R_eagle V c w) h
def T_X11_eagle : List AV → AH → (Int32 → AH → Prop) → Prop := fun as h K => match as with
  | [.inr (.inr (.inl q0)), .inl q1, .inl q2] => tif (Nat.beq q0.1 15 && Nat.beq q0.2 0) (S_X11_eagle q1 q2 h K)
  | _ => False

def M_X11_eagle : MI := (RX11, cX11_eagle, 3, [(0, .aload_n 0, []), (1, .iload_n 1, []), (2, .invokevirtual 155, []), (5, .ifCond .eq 25, [30]), (8, .iload_n 2, []), (9, .iconst 0, []), (10, .iconst 3, []), (11, .invokestatic 53, []), (14, .ifCond .eq 16, [30]), (17, .aload_n 0, []), (18, .getfield 9, []), (21, .iload_n 1, []), (22, .iload_n 2, []), (23, .invokestatic 75, []), (26, .iaload, []), (27, .goto 4, [31]), (30, .iconst (-1), []), (31, .ireturn, [])], [(9, (15, 0, 1, 16, 0))], [], [], [(465, (2, 2, 43, 0, 0, .inl T_X11_isEagle)), (160, (3, 1, 22, 0, 0, .inl T_X11_isIn)), (226, (2, 1, 21, 0, 0, .inl T_X11_atEagle))], 2, 43, 0, 0)
theorem ok_X11_eagle : MOK M_X11_eagle := ⟨by decide +kernel, List.forall_mem_cons.mpr ⟨fl_RX11_9, fun _ h => absurd h List.not_mem_nil⟩, fun _ h => absurd h List.not_mem_nil, fun _ h => absurd h List.not_mem_nil, List.forall_mem_cons.mpr ⟨⟨Nat.le_of_ble_eq_true rfl, Nat.le_of_ble_eq_true rfl, cr_RX11_465⟩, List.forall_mem_cons.mpr ⟨⟨Nat.le_of_ble_eq_true rfl, Nat.le_of_ble_eq_true rfl, cr_RX11_160⟩, List.forall_mem_cons.mpr ⟨⟨Nat.le_of_ble_eq_true rfl, Nat.le_of_ble_eq_true rfl, cr_RX11_226⟩, fun _ h => absurd h List.not_mem_nil⟩⟩⟩⟩
set_option maxRecDepth 100000 in
theorem vc_X11_eagle {K : Int32 → AH → Prop} {h : AH} (p1 : Int32) (p2 : Int32) (H : S_X11_isEagle p1 h (fun x2 h1 => ((x2 = 0) → K (iI (-1)) h1) ∧ (¬ (x2 = 0) → S_X11_isIn p2 (nI 0) (nI 3) h1 (fun x4 h3 => ((x4 = 0) → K (iI (-1)) h3) ∧ (¬ (x4 = 0) → S_X11_atEagle p1 p2 h3 (fun x6 h5 => inR x6 62 ∧ K (h5.1 16 0 x6.toNatClampNeg) h5)))))) : AW M_X11_eagle (.inl K) 0 [some (aR 15 0), some (aI p1), some (aI p2)] [] h 0 0 := AW_go (cuts := []) ok_X11_eagle 400 H

theorem snd_X11_eagle (c w : Int32) {h : AH} {K : Int32 → AH → Prop} (k : S_X11_eagle c w h K) : AW M_X11_eagle (.inl K) 0 [some (aR 15 0), some (aI c), some (aI w)] [] h 0 0 := by
  obtain ⟨V, hr, hw, k⟩ := k
  have h4 := hw.1
  refine vc_X11_eagle c w ?_
  obtain ⟨-, -, -, -, -, -, -, -, -, -, e0, -⟩ := RVs hr
  unfold S_X11_isIn S_X11_isEagle
  rw [e0]
  simp only [if10_eq]
  unfold R_eagle at k
  refine ⟨fun q => ?_, fun q => ⟨fun q2 => ?_, fun q2 => ?_⟩⟩
  · rw [if_neg (fun z => q z.1)] at k; exact k
  · rw [if_neg (fun z => q2 z.2)] at k; exact k
  · have q := Decidable.not_not.mp q
    have q2 := Decidable.not_not.mp q2
    rw [if_pos ⟨q, q2⟩] at k
    obtain ⟨m, hm, rfl⟩ := (in_iff (by omega)).mp q
    obtain ⟨i, hi, rfl⟩ := (in_n (by omega)).mp q2
    unfold nN at k
    rw [n_cl (by omega), n_cl (by omega)] at k
    simp (disch := omega) only [S_X11_atEagle, pk_mul, nI_add, n_inT, n_cl, true_and]
    have hl : m < vLim V (4 + i) := by rcases (show i = 0 ∨ i = 1 ∨ i = 2 ∨ i = 3 by omega) with rfl | rfl | rfl | rfl <;> exact hm
    have := hr (4 + i) m hl
    rw [show ro (4 + i) m = 28 + 4 * m + i by rcases (show i = 0 ∨ i = 1 ∨ i = 2 ∨ i = 3 by omega) with rfl | rfl | rfl | rfl <;> rfl] at this
    rw [this]
    exact k
theorem tr_X11_eagle : ∀ (as : List AV) (h : AH) (K : Int32 → AH → Prop), T_X11_eagle as h K → ∃ (q : Nat) (r : List AV), as = aR 15 q :: r := by
  intro as h K hk
  match as, hk with
  | [.inr (.inr (.inl q0)), .inl q1, .inl q2], hk =>
    obtain ⟨hb, hk⟩ := tif_inv hk
    simp only [Bool.and_eq_true] at hb
    obtain ⟨e0, e1⟩ := hb
    obtain ⟨a0, b0⟩ := q0
    have f0 : a0 = 15 := Nat.eq_of_beq_eq_true e0
    subst f0
    have f1 : b0 = 0 := Nat.eq_of_beq_eq_true e1
    subst f1
    exact ⟨_, _, rfl⟩
theorem tw_X11_eagle : ∀ (as : List AV) (h : AH) (K : Int32 → AH → Prop), T_X11_eagle as h K → (ini as).length ≤ mNL M_X11_eagle ∧ AW M_X11_eagle (.inl K) 0 (initL (mNL M_X11_eagle) as) [] h 0 0 := by
  intro as h K hk
  match as, hk with
  | [.inr (.inr (.inl q0)), .inl q1, .inl q2], hk =>
    obtain ⟨hb, hk⟩ := tif_inv hk
    simp only [Bool.and_eq_true] at hb
    obtain ⟨e0, e1⟩ := hb
    obtain ⟨a0, b0⟩ := q0
    have f0 : a0 = 15 := Nat.eq_of_beq_eq_true e0
    subst f0
    have f1 : b0 = 0 := Nat.eq_of_beq_eq_true e1
    subst f1
    exact ⟨Nat.le_of_ble_eq_true rfl, snd_X11_eagle q1 q2 hk⟩

def R_sheep (V : Vm) (s w : Int32) : Int32 := if shp V s then (if w = nI 0 then nI (V 8 (nN s)) else if w = nI 1 then nI (V 9 (nN s)) else if w = nI 2 then nI (vWt V (nN s)) else if w = nI 3 then nI (vSt V (nN s)) else if w = nI 4 then nI (vFl V (nN s)) else if w = nI 5 then nI (vPr V (nN s)) else iI (-1)) else iI (-1)
def S_X11_sheep (c w : Int32) (h : AH) (K : Int32 → AH → Prop) : Prop := ∃ V, RV (h.1 16 0) V ∧ WF V ∧ K (R_sheep V c w) h
def T_X11_sheep : List AV → AH → (Int32 → AH → Prop) → Prop := fun as h K => match as with
  | [.inr (.inr (.inl q0)), .inl q1, .inl q2] => tif (Nat.beq q0.1 15 && Nat.beq q0.2 0) (S_X11_sheep q1 q2 h K)
  | _ => False

def M_X11_sheep : MI := (RX11, cX11_sheep, 3, [(0, .aload_n 0, []), (1, .iload_n 1, []), (2, .invokevirtual 132, []), (5, .ifCond .ne 5, [10]), (8, .iconst (-1), []), (9, .ireturn, []), (10, .iload_n 2, []), (11, .tableswitch 91 0 5 #[37, 46, 55, 64, 73, 82], [102, 48, 57, 66, 75, 84, 93]), (48, .aload_n 0, []), (49, .getfield 9, []), (52, .iload_n 1, []), (53, .invokestatic 61, []), (56, .ireturn, []), (57, .aload_n 0, []), (58, .getfield 9, []), (61, .iload_n 1, []), (62, .invokestatic 57, []), (65, .ireturn, []), (66, .aload_n 0, []), (67, .getfield 9, []), (70, .iload_n 1, []), (71, .invokestatic 68, []), (74, .ireturn, []), (75, .aload_n 0, []), (76, .getfield 9, []), (79, .iload_n 1, []), (80, .invokestatic 95, []), (83, .ireturn, []), (84, .aload_n 0, []), (85, .getfield 9, []), (88, .iload_n 1, []), (89, .invokestatic 135, []), (92, .ireturn, []), (93, .aload_n 0, []), (94, .getfield 9, []), (97, .iload_n 1, []), (98, .invokestatic 158, []), (101, .ireturn, []), (102, .iconst (-1), []), (103, .ireturn, [])], [(9, (15, 0, 1, 16, 0))], [], [], [(396, (2, 2, 43, 0, 0, .inl T_X11_isSheep)), (184, (2, 1, 21, 0, 0, .inl T_X11_kind)), (172, (2, 1, 21, 0, 0, .inl T_X11_figure)), (205, (2, 2, 43, 0, 0, .inl T_X11_weight)), (286, (2, 2, 43, 0, 0, .inl T_X11_sticks)), (406, (2, 2, 42, 0, 0, .inl T_X11_flies)), (475, (2, 2, 43, 0, 0, .inl T_X11_price))], 2, 43, 0, 0)
theorem ok_X11_sheep : MOK M_X11_sheep := ⟨by decide +kernel, List.forall_mem_cons.mpr ⟨fl_RX11_9, fun _ h => absurd h List.not_mem_nil⟩, fun _ h => absurd h List.not_mem_nil, fun _ h => absurd h List.not_mem_nil, List.forall_mem_cons.mpr ⟨⟨Nat.le_of_ble_eq_true rfl, Nat.le_of_ble_eq_true rfl, cr_RX11_396⟩, List.forall_mem_cons.mpr ⟨⟨Nat.le_of_ble_eq_true rfl, Nat.le_of_ble_eq_true rfl, cr_RX11_184⟩, List.forall_mem_cons.mpr ⟨⟨Nat.le_of_ble_eq_true rfl, Nat.le_of_ble_eq_true rfl, cr_RX11_172⟩, List.forall_mem_cons.mpr ⟨⟨Nat.le_of_ble_eq_true rfl, Nat.le_of_ble_eq_true rfl, cr_RX11_205⟩, List.forall_mem_cons.mpr ⟨⟨Nat.le_of_ble_eq_true rfl, Nat.le_of_ble_eq_true rfl, cr_RX11_286⟩, List.forall_mem_cons.mpr ⟨⟨Nat.le_of_ble_eq_true rfl, Nat.le_of_ble_eq_true rfl, cr_RX11_406⟩, List.forall_mem_cons.mpr ⟨⟨Nat.le_of_ble_eq_true rfl, Nat.le_of_ble_eq_true rfl, cr_RX11_475⟩, fun _ h => absurd h List.not_mem_nil⟩⟩⟩⟩⟩⟩⟩⟩
set_option maxRecDepth 100000 in
theorem vc_X11_sheep {K : Int32 → AH → Prop} {h : AH} (p1 : Int32) (p2 : Int32) (H : S_X11_isSheep p1 h (fun x2 h1 => ((¬ x2 = 0) → (p2.toInt < 0 ∨ 5 < p2.toInt → K (iI (-1)) h1) ∧ (p2 = nI 0 → S_X11_kind 0 p1 h1 (fun x4 h3 => K x4 h3)) ∧ (p2 = nI 1 → S_X11_figure 0 p1 h1 (fun x6 h5 => K x6 h5)) ∧ (p2 = nI 2 → S_X11_weight 0 p1 h1 (fun x8 h7 => K x8 h7)) ∧ (p2 = nI 3 → S_X11_sticks 0 p1 h1 (fun x10 h9 => K x10 h9)) ∧ (p2 = nI 4 → S_X11_flies 0 p1 h1 (fun x12 h11 => K x12 h11)) ∧ (p2 = nI 5 → S_X11_price 0 p1 h1 (fun x14 h13 => K x14 h13)) ∧ True) ∧ (¬ (¬ x2 = 0) → K (iI (-1)) h1))) : AW M_X11_sheep (.inl K) 0 [some (aR 15 0), some (aI p1), some (aI p2)] [] h 0 0 := AW_go (cuts := []) ok_X11_sheep 400 H

theorem sw_out {x : Int32} {k : Nat} {lo hi : Int} (h : x.toInt < lo ∨ hi < x.toInt) (hk : k < 2147483648) (h1 : lo ≤ k) (h2 : (k : Int) ≤ hi) : x ≠ nI k := by
  intro e
  rw [e, n_toInt hk] at h
  omega
theorem snd_X11_sheep (c w : Int32) {h : AH} {K : Int32 → AH → Prop} (k : S_X11_sheep c w h K) : AW M_X11_sheep (.inl K) 0 [some (aR 15 0), some (aI c), some (aI w)] [] h 0 0 := by
  obtain ⟨V, hr, hw, k⟩ := k
  have h7 := hw.2.1
  refine vc_X11_sheep c w ?_
  obtain ⟨-, -, -, -, -, -, -, -, e8, e9, -, e1, -⟩ := RVs hr
  unfold S_X11_isSheep
  rw [e1]
  simp only [if10_eq]
  unfold R_sheep at k
  refine ⟨fun q => ?_, fun q => ?_⟩
  · have q := Decidable.not_not.mp q
    rw [if_pos q] at k
    obtain ⟨n, hn, rfl⟩ := (in_iff (by omega)).mp q
    unfold nN at k
    rw [n_cl (by omega)] at k
    have hp : rPre 0 (nI n) h V n := ⟨hr, hw, hn, rfl⟩
    refine ⟨fun z => ?_, fun z => ⟨n, by omega, rfl, ?_⟩, fun z => ⟨n, by omega, rfl, ?_⟩, fun z => ⟨V, n, hp, ?_⟩, fun z => ⟨V, n, hp, ?_⟩, fun z => ⟨V, n, hp, ?_⟩, fun z => ⟨V, n, hp, ?_⟩, trivial⟩
    · rw [if_neg (sw_out z (by omega) (by omega) (by omega)), if_neg (sw_out z (by omega) (by omega) (by omega)), if_neg (sw_out z (by omega) (by omega) (by omega)), if_neg (sw_out z (by omega) (by omega) (by omega)), if_neg (sw_out z (by omega) (by omega) (by omega)), if_neg (sw_out z (by omega) (by omega) (by omega))] at k
      exact k
    all_goals subst z
    all_goals simp (disch := omega) only [n_eq, e8, e9] at k ⊢
    all_goals simpa using k
  · rw [if_neg (fun z => q (fun y => y z))] at k; exact k
theorem tr_X11_sheep : ∀ (as : List AV) (h : AH) (K : Int32 → AH → Prop), T_X11_sheep as h K → ∃ (q : Nat) (r : List AV), as = aR 15 q :: r := by
  intro as h K hk
  match as, hk with
  | [.inr (.inr (.inl q0)), .inl q1, .inl q2], hk =>
    obtain ⟨hb, hk⟩ := tif_inv hk
    simp only [Bool.and_eq_true] at hb
    obtain ⟨e0, e1⟩ := hb
    obtain ⟨a0, b0⟩ := q0
    have f0 : a0 = 15 := Nat.eq_of_beq_eq_true e0
    subst f0
    have f1 : b0 = 0 := Nat.eq_of_beq_eq_true e1
    subst f1
    exact ⟨_, _, rfl⟩
theorem tw_X11_sheep : ∀ (as : List AV) (h : AH) (K : Int32 → AH → Prop), T_X11_sheep as h K → (ini as).length ≤ mNL M_X11_sheep ∧ AW M_X11_sheep (.inl K) 0 (initL (mNL M_X11_sheep) as) [] h 0 0 := by
  intro as h K hk
  match as, hk with
  | [.inr (.inr (.inl q0)), .inl q1, .inl q2], hk =>
    obtain ⟨hb, hk⟩ := tif_inv hk
    simp only [Bool.and_eq_true] at hb
    obtain ⟨e0, e1⟩ := hb
    obtain ⟨a0, b0⟩ := q0
    have f0 : a0 = 15 := Nat.eq_of_beq_eq_true e0
    subst f0
    have f1 : b0 = 0 := Nat.eq_of_beq_eq_true e1
    subst f1
    exact ⟨Nat.le_of_ble_eq_true rfl, snd_X11_sheep q1 q2 hk⟩

def R_nest (V : Vm) (n : Int32) : Int32 := if nI 0 ≤ n ∧ n ≤ nI 3 then nI (V 3 (nN n)) else iI (-1)
def S_X11_nest (n : Int32) (h : AH) (K : Int32 → AH → Prop) : Prop := ∃ V, RV (h.1 16 0) V ∧ WF V ∧ K (R_nest V n) h
def T_X11_nest : List AV → AH → (Int32 → AH → Prop) → Prop := fun as h K => match as with
  | [.inr (.inr (.inl q0)), .inl q1] => tif (Nat.beq q0.1 15 && Nat.beq q0.2 0) (S_X11_nest q1 h K)
  | _ => False

def M_X11_nest : MI := (RX11, cX11_nest, 2, [(0, .iload_n 1, []), (1, .iconst 0, []), (2, .iconst 3, []), (3, .invokestatic 53, []), (6, .ifCond .eq 15, [21]), (9, .aload_n 0, []), (10, .getfield 9, []), (13, .bipush 44, []), (15, .iload_n 1, []), (16, .iadd, []), (17, .iaload, []), (18, .goto 4, [22]), (21, .iconst (-1), []), (22, .ireturn, [])], [(9, (15, 0, 1, 16, 0))], [], [], [(160, (3, 1, 22, 0, 0, .inl T_X11_isIn))], 1, 22, 0, 0)
theorem ok_X11_nest : MOK M_X11_nest := ⟨by decide +kernel, List.forall_mem_cons.mpr ⟨fl_RX11_9, fun _ h => absurd h List.not_mem_nil⟩, fun _ h => absurd h List.not_mem_nil, fun _ h => absurd h List.not_mem_nil, List.forall_mem_cons.mpr ⟨⟨Nat.le_of_ble_eq_true rfl, Nat.le_of_ble_eq_true rfl, cr_RX11_160⟩, fun _ h => absurd h List.not_mem_nil⟩⟩
set_option maxRecDepth 100000 in
theorem vc_X11_nest {K : Int32 → AH → Prop} {h : AH} (p1 : Int32) (H : S_X11_isIn p1 (nI 0) (nI 3) h (fun x2 h1 => ((x2 = 0) → K (iI (-1)) h1) ∧ (¬ (x2 = 0) → inR ((nI 44) + p1) 62 ∧ K (h1.1 16 0 ((nI 44) + p1).toNatClampNeg) h1))) : AW M_X11_nest (.inl K) 0 [some (aR 15 0), some (aI p1)] [] h 0 0 := AW_go (cuts := []) ok_X11_nest 400 H

theorem snd_X11_nest (c : Int32) {h : AH} {K : Int32 → AH → Prop} (k : S_X11_nest c h K) : AW M_X11_nest (.inl K) 0 [some (aR 15 0), some (aI c)] [] h 0 0 := by
  obtain ⟨V, hr, hw, k⟩ := k
  refine vc_X11_nest c ?_
  obtain ⟨-, -, -, e3, -⟩ := RVs hr
  unfold S_X11_isIn
  simp only [if10_eq]
  unfold R_nest at k
  refine ⟨fun q => ?_, fun q => ?_⟩
  · rw [if_neg q] at k; exact k
  · have q := Decidable.not_not.mp q
    rw [if_pos q] at k
    obtain ⟨i, hi, rfl⟩ := (in_n (by omega)).mp q
    unfold nN at k
    rw [n_cl (by omega)] at k
    simp (disch := omega) only [nI_add, n_inT, n_cl, true_and, e3]
    exact k
theorem tr_X11_nest : ∀ (as : List AV) (h : AH) (K : Int32 → AH → Prop), T_X11_nest as h K → ∃ (q : Nat) (r : List AV), as = aR 15 q :: r := by
  intro as h K hk
  match as, hk with
  | [.inr (.inr (.inl q0)), .inl q1], hk =>
    obtain ⟨hb, hk⟩ := tif_inv hk
    simp only [Bool.and_eq_true] at hb
    obtain ⟨e0, e1⟩ := hb
    obtain ⟨a0, b0⟩ := q0
    have f0 : a0 = 15 := Nat.eq_of_beq_eq_true e0
    subst f0
    have f1 : b0 = 0 := Nat.eq_of_beq_eq_true e1
    subst f1
    exact ⟨_, _, rfl⟩
theorem tw_X11_nest : ∀ (as : List AV) (h : AH) (K : Int32 → AH → Prop), T_X11_nest as h K → (ini as).length ≤ mNL M_X11_nest ∧ AW M_X11_nest (.inl K) 0 (initL (mNL M_X11_nest) as) [] h 0 0 := by
  intro as h K hk
  match as, hk with
  | [.inr (.inr (.inl q0)), .inl q1], hk =>
    obtain ⟨hb, hk⟩ := tif_inv hk
    simp only [Bool.and_eq_true] at hb
    obtain ⟨e0, e1⟩ := hb
    obtain ⟨a0, b0⟩ := q0
    have f0 : a0 = 15 := Nat.eq_of_beq_eq_true e0
    subst f0
    have f1 : b0 = 0 := Nat.eq_of_beq_eq_true e1
    subst f1
    exact ⟨Nat.le_of_ble_eq_true rfl, snd_X11_nest q1 hk⟩

def R_noon (V : Vm) : Int32 := if noonV V then nI 0 else nI ((35 - V 10 2) % 24)
def S_X11_noon (h : AH) (K : Int32 → AH → Prop) : Prop := ∃ V, RV (h.1 16 0) V ∧ WF V ∧ K (R_noon V) h
def T_X11_noon : List AV → AH → (Int32 → AH → Prop) → Prop := fun as h K => match as with
  | [.inr (.inr (.inl q0))] => tif (Nat.beq q0.1 15 && Nat.beq q0.2 0) (S_X11_noon h K)
  | _ => False

def M_X11_noon : MI := (RX11, cX11_noon, 1, [(0, .aload_n 0, []), (1, .getfield 9, []), (4, .invokestatic 71, []), (7, .ifCond .eq 7, [14]), (10, .iconst 0, []), (11, .goto 15, [26]), (14, .bipush 35, []), (16, .aload_n 0, []), (17, .getfield 9, []), (20, .iconst 2, []), (21, .iaload, []), (22, .isub, []), (23, .bipush 24, []), (25, .irem, []), (26, .ireturn, [])], [(9, (15, 0, 1, 16, 0))], [], [], [(214, (1, 2, 42, 0, 0, .inl T_X11_isNoon))], 2, 42, 0, 0)
theorem ok_X11_noon : MOK M_X11_noon := ⟨by decide +kernel, List.forall_mem_cons.mpr ⟨fl_RX11_9, fun _ h => absurd h List.not_mem_nil⟩, fun _ h => absurd h List.not_mem_nil, fun _ h => absurd h List.not_mem_nil, List.forall_mem_cons.mpr ⟨⟨Nat.le_of_ble_eq_true rfl, Nat.le_of_ble_eq_true rfl, cr_RX11_214⟩, fun _ h => absurd h List.not_mem_nil⟩⟩
set_option maxRecDepth 100000 in
theorem vc_X11_noon {K : Int32 → AH → Prop} {h : AH}  (H : S_X11_isNoon 0 h (fun x2 h1 => ((x2 = 0) → inR (nI 2) 62 ∧ (¬ (nI 24) = 0) ∧ K (((nI 35) - (h1.1 16 0 (nI 2).toNatClampNeg)) - ((nI 35) - (h1.1 16 0 (nI 2).toNatClampNeg)) / (nI 24) * (nI 24)) h1) ∧ (¬ (x2 = 0) → K (nI 0) h1))) : AW M_X11_noon (.inl K) 0 [some (aR 15 0)] [] h 0 0 := AW_go (cuts := []) ok_X11_noon 400 H

theorem snd_X11_noon {h : AH} {K : Int32 → AH → Prop} (k : S_X11_noon h K) : AW M_X11_noon (.inl K) 0 [some (aR 15 0)] [] h 0 0 := by
  obtain ⟨V, hr, hw, k⟩ := k
  have hh := hw.2.2.1
  refine vc_X11_noon ⟨V, hr, hw, ?_⟩
  obtain ⟨-, -, -, -, -, -, -, -, -, -, -, -, e2, -⟩ := RVs hr
  unfold R_noon at k
  simp only [if10_eq]
  simp (disch := omega) only [n_inT, n_cl, true_and, e2, n_sub, n_rem]
  refine ⟨fun q => ⟨by decide, ?_⟩, fun q => ?_⟩
  · rw [if_neg q] at k; exact k
  · rw [if_pos (Decidable.not_not.mp q)] at k; exact k
theorem tr_X11_noon : ∀ (as : List AV) (h : AH) (K : Int32 → AH → Prop), T_X11_noon as h K → ∃ (q : Nat) (r : List AV), as = aR 15 q :: r := by
  intro as h K hk
  match as, hk with
  | [.inr (.inr (.inl q0))], hk =>
    obtain ⟨hb, hk⟩ := tif_inv hk
    simp only [Bool.and_eq_true] at hb
    obtain ⟨e0, e1⟩ := hb
    obtain ⟨a0, b0⟩ := q0
    have f0 : a0 = 15 := Nat.eq_of_beq_eq_true e0
    subst f0
    have f1 : b0 = 0 := Nat.eq_of_beq_eq_true e1
    subst f1
    exact ⟨_, _, rfl⟩
theorem tw_X11_noon : ∀ (as : List AV) (h : AH) (K : Int32 → AH → Prop), T_X11_noon as h K → (ini as).length ≤ mNL M_X11_noon ∧ AW M_X11_noon (.inl K) 0 (initL (mNL M_X11_noon) as) [] h 0 0 := by
  intro as h K hk
  match as, hk with
  | [.inr (.inr (.inl q0))], hk =>
    obtain ⟨hb, hk⟩ := tif_inv hk
    simp only [Bool.and_eq_true] at hb
    obtain ⟨e0, e1⟩ := hb
    obtain ⟨a0, b0⟩ := q0
    have f0 : a0 = 15 := Nat.eq_of_beq_eq_true e0
    subst f0
    have f1 : b0 = 0 := Nat.eq_of_beq_eq_true e1
    subst f1
    exact ⟨Nat.le_of_ble_eq_true rfl, snd_X11_noon  hk⟩

def S_X11_worthOf (j : Nat) (c : Int32) (h : AH) (K : Int32 → AH → Prop) : Prop := ∃ V m, RV (h.1 16 j) V ∧ WF V ∧ m < 8 ∧ c = nI m ∧ K (nI (5 * V 0 m + V 1 m)) h
def T_X11_worthOf : List AV → AH → (Int32 → AH → Prop) → Prop := fun as h K => match as with
  | [.inr (.inr (.inl q0)), .inl q1] => tif (Nat.beq q0.1 16) (S_X11_worthOf q0.2 q1 h K)
  | _ => False

def M_X11_worthOf : MI := (RX11, cX11_worthOf, 2, [(0, .iconst 5, []), (1, .aload_n 0, []), (2, .iload_n 1, []), (3, .iconst 0, []), (4, .invokestatic 64, []), (7, .iaload, []), (8, .imul, []), (9, .aload_n 0, []), (10, .iload_n 1, []), (11, .iconst 1, []), (12, .invokestatic 64, []), (15, .iaload, []), (16, .iadd, []), (17, .ireturn, [])], [], [], [], [(193, (2, 1, 21, 0, 0, .inl T_X11_atCell))], 1, 21, 0, 0)
theorem ok_X11_worthOf : MOK M_X11_worthOf := ⟨by decide +kernel, fun _ h => absurd h List.not_mem_nil, fun _ h => absurd h List.not_mem_nil, fun _ h => absurd h List.not_mem_nil, List.forall_mem_cons.mpr ⟨⟨Nat.le_of_ble_eq_true rfl, Nat.le_of_ble_eq_true rfl, cr_RX11_193⟩, fun _ h => absurd h List.not_mem_nil⟩⟩
set_option maxRecDepth 100000 in
theorem vc_X11_worthOf {K : Int32 → AH → Prop} {h : AH} (p0 : Nat) (p1 : Int32) (H : S_X11_atCell p1 (nI 0) h (fun x2 h1 => inR x2 62 ∧ S_X11_atCell p1 (nI 1) h1 (fun x4 h3 => inR x4 62 ∧ K (((nI 5) * (h1.1 16 p0 x2.toNatClampNeg)) + (h3.1 16 p0 x4.toNatClampNeg)) h3))) : AW M_X11_worthOf (.inl K) 0 [some (aR 16 p0), some (aI p1)] [] h 0 0 := AW_go (cuts := []) ok_X11_worthOf 400 H

theorem snd_X11_worthOf (j : Nat) (c : Int32) {h : AH} {K : Int32 → AH → Prop} (k : S_X11_worthOf j c h K) : AW M_X11_worthOf (.inl K) 0 [some (aR 16 j), some (aI c)] [] h 0 0 := by
  obtain ⟨V, m, hr, hw, hm, rfl, k⟩ := k
  refine vc_X11_worthOf j (nI m) ?_
  obtain ⟨e0, e1, -⟩ := RVs hr
  simp (disch := omega) only [S_X11_atCell, pk_mul, nI_add, n_inT, n_cl, true_and, e0, e1]
  exact k
theorem tw_X11_worthOf : ∀ (as : List AV) (h : AH) (K : Int32 → AH → Prop), T_X11_worthOf as h K → (ini as).length ≤ mNL M_X11_worthOf ∧ AW M_X11_worthOf (.inl K) 0 (initL (mNL M_X11_worthOf) as) [] h 0 0 := by
  intro as h K hk
  match as, hk with
  | [.inr (.inr (.inl q0)), .inl q1], hk =>
    obtain ⟨hb, hk⟩ := tif_inv hk
    have e0 := hb
    obtain ⟨a0, b0⟩ := q0
    have f0 : a0 = 16 := Nat.eq_of_beq_eq_true e0
    subst f0
    exact ⟨Nat.le_of_ble_eq_true rfl, snd_X11_worthOf b0 q1 hk⟩
theorem cr_RX11_544 : CR RX11 (kIns 544) (2, 2, 42, 0, 0, .inl T_X11_worthOf) := crS_i (M := M_X11_worthOf) (by decide) rfl (inG (i := 1191) (w := Cond.methodLink RX11 181 yX11_worthOf) (by decide +kernel) rfl) (inG (i := 1192) (w := Cond.static yX11_worthOf) (by decide +kernel) rfl) (inG (i := 40) (w := Cond.initialized RX11) (by decide +kernel) rfl) (inG (i := 1193) (w := Cond.code yX11_worthOf cX11_worthOf 2 (some .int)) (by decide +kernel) rfl) ⟨by decide +kernel, by decide +kernel, by decide +kernel⟩ tw_X11_worthOf

def lftA (V : Vm) : Nat → Nat
  | 0 => 0
  | k + 1 => lftA V k + (5 * V 0 k + V 1 k)
def lftC (V : Vm) : Nat → Nat
  | 0 => 0
  | k + 1 => if 5 * V 0 (lftC V k) + V 1 (lftC V k) < 5 * V 0 k + V 1 k then k else lftC V k
theorem lftC_le (V : Vm) : ∀ k, lftC V k ≤ k ∧ (0 < k → lftC V k < k)
  | 0 => ⟨Nat.le_refl _, fun h => by omega⟩
  | k + 1 => by
    have := lftC_le V k
    unfold lftC
    split <;> omega
def R_left (V : Vm) (w : Int32) : Int32 := if ¬ w01 w then iI (-1) else if w = 0 then nI (lftA V 8) else nI (lftC V 8)
def S_X11_left (w : Int32) (h : AH) (K : Int32 → AH → Prop) : Prop := ∃ V, RV (h.1 16 0) V ∧ WF V ∧ K (R_left V w) h
def T_X11_left : List AV → AH → (Int32 → AH → Prop) → Prop := fun as h K => match as with
  | [.inr (.inr (.inl q0)), .inl q1] => tif (Nat.beq q0.1 15 && Nat.beq q0.2 0) (S_X11_left q1 h K)
  | _ => False

def M_X11_left : MI := (RX11, cX11_left, 5, [(0, .iload_n 1, []), (1, .iconst 0, []), (2, .iconst 1, []), (3, .invokestatic 53, []), (6, .ifCond .ne 5, [11]), (9, .iconst (-1), []), (10, .ireturn, []), (11, .iconst 0, []), (12, .istore_n 2, []), (13, .iconst 0, []), (14, .istore_n 3, []), (15, .iconst 0, []), (16, .istore 4, []), (18, .iload 4, []), (20, .bipush 8, []), (22, .if_icmp .ge 44, [66]), (25, .iload_n 2, []), (26, .aload_n 0, []), (27, .getfield 9, []), (30, .iload 4, []), (32, .invokestatic 181, []), (35, .iadd, []), (36, .istore_n 2, []), (37, .aload_n 0, []), (38, .getfield 9, []), (41, .iload 4, []), (43, .invokestatic 181, []), (46, .aload_n 0, []), (47, .getfield 9, []), (50, .iload_n 3, []), (51, .invokestatic 181, []), (54, .if_icmp .le 6, [60]), (57, .iload 4, []), (59, .istore_n 3, []), (60, .iinc 4 1, []), (63, .goto (-45), [18]), (66, .iload_n 1, []), (67, .ifCond .ne 7, [74]), (70, .iload_n 2, []), (71, .goto 4, [75]), (74, .iload_n 3, []), (75, .ireturn, [])], [(9, (15, 0, 1, 16, 0))], [], [], [(160, (3, 1, 22, 0, 0, .inl T_X11_isIn)), (544, (2, 2, 42, 0, 0, .inl T_X11_worthOf))], 2, 42, 0, 0)
theorem ok_X11_left : MOK M_X11_left := ⟨by decide +kernel, List.forall_mem_cons.mpr ⟨fl_RX11_9, fun _ h => absurd h List.not_mem_nil⟩, fun _ h => absurd h List.not_mem_nil, fun _ h => absurd h List.not_mem_nil, List.forall_mem_cons.mpr ⟨⟨Nat.le_of_ble_eq_true rfl, Nat.le_of_ble_eq_true rfl, cr_RX11_160⟩, List.forall_mem_cons.mpr ⟨⟨Nat.le_of_ble_eq_true rfl, Nat.le_of_ble_eq_true rfl, cr_RX11_544⟩, fun _ h => absurd h List.not_mem_nil⟩⟩⟩
set_option maxRecDepth 100000 in
theorem vc_X11_left {K : Int32 → AH → Prop} {h : AH} (p1 : Int32) (H : S_X11_isIn p1 (nI 0) (nI 1) h (fun x2 h1 => ((¬ x2 = 0) → AW M_X11_left (.inl K) 18 [some (aR 15 0), some (aI p1), some (aI (nI 0)), some (aI (nI 0)), some (aI (nI 0))] [] h1 0 0) ∧ (¬ (¬ x2 = 0) → K (iI (-1)) h1))) : AW M_X11_left (.inl K) 0 [some (aR 15 0), some (aI p1), none, none, none] [] h 0 0 := AW_go (cuts := [(18, [true, true, true, true, true])]) ok_X11_left 400 H
set_option maxRecDepth 100000 in
theorem vc_X11_left_18 {K : Int32 → AH → Prop} {h : AH}  (l1 : Int32) (l2 : Int32) (l3 : Int32) (l4 : Int32) (H : (((nI 8) ≤ l4) → ((¬ l1 = 0) → K l3 h) ∧ (¬ (¬ l1 = 0) → K l2 h)) ∧ (¬ ((nI 8) ≤ l4) → S_X11_worthOf 0 l4 h (fun x2 h1 => S_X11_worthOf 0 l4 h1 (fun x4 h3 => S_X11_worthOf 0 l3 h3 (fun x6 h5 => ((x4 ≤ x6) → AW M_X11_left (.inl K) 18 [some (aR 15 0), some (aI l1), some (aI (l2 + x2)), some (aI l3), some (aI (l4 + (nI 1)))] [] h5 0 0) ∧ (¬ (x4 ≤ x6) → AW M_X11_left (.inl K) 18 [some (aR 15 0), some (aI l1), some (aI (l2 + x2)), some (aI l4), some (aI (l4 + (nI 1)))] [] h5 0 0)))))) : AW M_X11_left (.inl K) 18 [some (aR 15 0), some (aI l1), some (aI l2), some (aI l3), some (aI l4)] [] h 0 0 := AW_go (cuts := [(18, [true, true, true, true, true])]) ok_X11_left 400 H

theorem lp_X11_left {V : Vm} {w : Int32} {h : AH} {K : Int32 → AH → Prop} (hr : RV (h.1 16 0) V) (hw : WF V) (k : K (if w = 0 then nI (lftA V 8) else nI (lftC V 8)) h) : ∀ r c, c + r = 8 → AW M_X11_left (.inl K) 18 [some (aR 15 0), some (aI w), some (aI (nI (lftA V c))), some (aI (nI (lftC V c))), some (aI (nI c))] [] h 0 0 := by
  intro r
  induction r with
  | zero =>
    intro c hc
    refine vc_X11_left_18 w _ _ (nI c) ?_
    have : c = 8 := by omega
    subst this
    simp (disch := omega) only [n_le]
    refine ⟨fun _ => ⟨fun q => ?_, fun q => ?_⟩, fun q => absurd (by omega) q⟩
    · rw [if_neg q] at k; exact k
    · rw [if_pos (Decidable.not_not.mp q)] at k; exact k
  | succ r ih =>
    intro c hc
    refine vc_X11_left_18 w _ _ (nI c) ?_
    simp (disch := omega) only [n_le, nI_add]
    have hl := lftC_le V c
    have hb1 := hw.2.2.2.2.1 c (by omega)
    have hb2 := hw.2.2.2.2.1 (lftC V c) (by omega)
    refine ⟨fun q => by omega, fun _ => ⟨V, c, hr, hw, by omega, rfl, V, c, hr, hw, by omega, rfl, V, lftC V c, hr, hw, by omega, rfl, ?_⟩⟩
    have := ih (c + 1) (by omega)
    rw [lftA, lftC] at this
    simp (disch := omega) only [n_le, nI_add]
    refine ⟨fun q => ?_, fun q => ?_⟩
    · rw [if_neg (by omega)] at this; exact this
    · rw [if_pos (by omega)] at this; exact this
theorem snd_X11_left (w : Int32) {h : AH} {K : Int32 → AH → Prop} (k : S_X11_left w h K) : AW M_X11_left (.inl K) 0 [some (aR 15 0), some (aI w), none, none, none] [] h 0 0 := by
  obtain ⟨V, hr, hw, k⟩ := k
  refine vc_X11_left w ?_
  unfold S_X11_isIn
  simp only [if10_eq]
  unfold R_left at k
  refine ⟨fun q => ?_, fun q => ?_⟩
  · rw [if_neg q] at k; exact lp_X11_left hr hw k 8 0 (by omega)
  · rw [if_pos (fun z => q (fun y => y z))] at k; exact k
theorem tr_X11_left : ∀ (as : List AV) (h : AH) (K : Int32 → AH → Prop), T_X11_left as h K → ∃ (q : Nat) (r : List AV), as = aR 15 q :: r := by
  intro as h K hk
  match as, hk with
  | [.inr (.inr (.inl q0)), .inl q1], hk =>
    obtain ⟨hb, hk⟩ := tif_inv hk
    simp only [Bool.and_eq_true] at hb
    obtain ⟨e0, e1⟩ := hb
    obtain ⟨a0, b0⟩ := q0
    have f0 : a0 = 15 := Nat.eq_of_beq_eq_true e0
    subst f0
    have f1 : b0 = 0 := Nat.eq_of_beq_eq_true e1
    subst f1
    exact ⟨_, _, rfl⟩
theorem tw_X11_left : ∀ (as : List AV) (h : AH) (K : Int32 → AH → Prop), T_X11_left as h K → (ini as).length ≤ mNL M_X11_left ∧ AW M_X11_left (.inl K) 0 (initL (mNL M_X11_left) as) [] h 0 0 := by
  intro as h K hk
  match as, hk with
  | [.inr (.inr (.inl q0)), .inl q1], hk =>
    obtain ⟨hb, hk⟩ := tif_inv hk
    simp only [Bool.and_eq_true] at hb
    obtain ⟨e0, e1⟩ := hb
    obtain ⟨a0, b0⟩ := q0
    have f0 : a0 = 15 := Nat.eq_of_beq_eq_true e0
    subst f0
    have f1 : b0 = 0 := Nat.eq_of_beq_eq_true e1
    subst f1
    exact ⟨Nat.le_of_ble_eq_true rfl, snd_X11_left q1 hk⟩

def lft1 (V : Vm) (e : Nat) : Nat → Nat
  | 0 => 0
  | k + 1 => lft1 V e k + (if vWt V k ≤ V 4 e + V 5 e then 1 else 0)
theorem lft1_le (V : Vm) (e : Nat) : ∀ k, lft1 V e k ≤ k
  | 0 => Nat.le_refl _
  | k + 1 => by have := lft1_le V e k; unfold lft1; split <;> omega
def R_lifts (V : Vm) (e w : Int32) : Int32 := if ¬ (nI 0 ≤ e ∧ e ≤ nI (V 10 0) - nI 1) ∨ ¬ w01 w then iI (-1) else if w = 0 then nI (V 4 (nN e) + V 5 (nN e)) else nI (lft1 V (nN e) (V 10 1))
def S_X11_lifts (e w : Int32) (h : AH) (K : Int32 → AH → Prop) : Prop := ∃ V, RV (h.1 16 0) V ∧ WF V ∧ K (R_lifts V e w) h
def T_X11_lifts : List AV → AH → (Int32 → AH → Prop) → Prop := fun as h K => match as with
  | [.inr (.inr (.inl q0)), .inl q1, .inl q2] => tif (Nat.beq q0.1 15 && Nat.beq q0.2 0) (S_X11_lifts q1 q2 h K)
  | _ => False

def M_X11_lifts : MI := (RX11, cX11_lifts, 5, [(0, .aload_n 0, []), (1, .iload_n 1, []), (2, .invokevirtual 155, []), (5, .ifCond .eq 12, [17]), (8, .iload_n 2, []), (9, .iconst 0, []), (10, .iconst 1, []), (11, .invokestatic 53, []), (14, .ifCond .ne 5, [19]), (17, .iconst (-1), []), (18, .ireturn, []), (19, .iload_n 2, []), (20, .ifCond .ne 12, [32]), (23, .aload_n 0, []), (24, .getfield 9, []), (27, .iload_n 1, []), (28, .invokestatic 82, []), (31, .ireturn, []), (32, .iconst 0, []), (33, .istore_n 3, []), (34, .iconst 0, []), (35, .istore 4, []), (37, .iload 4, []), (39, .aload_n 0, []), (40, .getfield 9, []), (43, .iconst 1, []), (44, .iaload, []), (45, .if_icmp .ge 37, [82]), (48, .iload_n 3, []), (49, .aload_n 0, []), (50, .getfield 9, []), (53, .iload 4, []), (55, .invokestatic 68, []), (58, .aload_n 0, []), (59, .getfield 9, []), (62, .iload_n 1, []), (63, .invokestatic 82, []), (66, .if_icmp .gt 7, [73]), (69, .iconst 1, []), (70, .goto 4, [74]), (73, .iconst 0, []), (74, .iadd, []), (75, .istore_n 3, []), (76, .iinc 4 1, []), (79, .goto (-42), [37]), (82, .iload_n 3, []), (83, .ireturn, [])], [(9, (15, 0, 1, 16, 0))], [], [], [(465, (2, 2, 43, 0, 0, .inl T_X11_isEagle)), (160, (3, 1, 22, 0, 0, .inl T_X11_isIn)), (247, (2, 2, 42, 0, 0, .inl T_X11_power)), (205, (2, 2, 43, 0, 0, .inl T_X11_weight))], 2, 43, 0, 0)
theorem ok_X11_lifts : MOK M_X11_lifts := ⟨by decide +kernel, List.forall_mem_cons.mpr ⟨fl_RX11_9, fun _ h => absurd h List.not_mem_nil⟩, fun _ h => absurd h List.not_mem_nil, fun _ h => absurd h List.not_mem_nil, List.forall_mem_cons.mpr ⟨⟨Nat.le_of_ble_eq_true rfl, Nat.le_of_ble_eq_true rfl, cr_RX11_465⟩, List.forall_mem_cons.mpr ⟨⟨Nat.le_of_ble_eq_true rfl, Nat.le_of_ble_eq_true rfl, cr_RX11_160⟩, List.forall_mem_cons.mpr ⟨⟨Nat.le_of_ble_eq_true rfl, Nat.le_of_ble_eq_true rfl, cr_RX11_247⟩, List.forall_mem_cons.mpr ⟨⟨Nat.le_of_ble_eq_true rfl, Nat.le_of_ble_eq_true rfl, cr_RX11_205⟩, fun _ h => absurd h List.not_mem_nil⟩⟩⟩⟩⟩
set_option maxRecDepth 100000 in
theorem vc_X11_lifts {K : Int32 → AH → Prop} {h : AH} (p1 : Int32) (p2 : Int32) (H : S_X11_isEagle p1 h (fun x2 h1 => ((x2 = 0) → K (iI (-1)) h1) ∧ (¬ (x2 = 0) → S_X11_isIn p2 (nI 0) (nI 1) h1 (fun x4 h3 => ((¬ x4 = 0) → ((¬ p2 = 0) → AW M_X11_lifts (.inl K) 37 [some (aR 15 0), some (aI p1), none, some (aI (nI 0)), some (aI (nI 0))] [] h3 0 0) ∧ (¬ (¬ p2 = 0) → S_X11_power 0 p1 h3 (fun x6 h5 => K x6 h5))) ∧ (¬ (¬ x4 = 0) → K (iI (-1)) h3))))) : AW M_X11_lifts (.inl K) 0 [some (aR 15 0), some (aI p1), some (aI p2), none, none] [] h 0 0 := AW_go (cuts := [(37, [true, true, false, true, true])]) ok_X11_lifts 400 H
set_option maxRecDepth 100000 in
theorem vc_X11_lifts_37 {K : Int32 → AH → Prop} {h : AH}  (l1 : Int32) (l3 : Int32) (l4 : Int32) (H : inR (nI 1) 62 ∧ (((h.1 16 0 (nI 1).toNatClampNeg) ≤ l4) → K l3 h) ∧ (¬ ((h.1 16 0 (nI 1).toNatClampNeg) ≤ l4) → S_X11_weight 0 l4 h (fun x2 h1 => S_X11_power 0 l1 h1 (fun x4 h3 => ((x4 < x2) → AW M_X11_lifts (.inl K) 37 [some (aR 15 0), some (aI l1), none, some (aI (l3 + (nI 0))), some (aI (l4 + (nI 1)))] [] h3 0 0) ∧ (¬ (x4 < x2) → AW M_X11_lifts (.inl K) 37 [some (aR 15 0), some (aI l1), none, some (aI (l3 + (nI 1))), some (aI (l4 + (nI 1)))] [] h3 0 0))))) : AW M_X11_lifts (.inl K) 37 [some (aR 15 0), some (aI l1), none, some (aI l3), some (aI l4)] [] h 0 0 := AW_go (cuts := [(37, [true, true, false, true, true])]) ok_X11_lifts 400 H

theorem lp_X11_lifts {V : Vm} {e : Nat} {h : AH} {K : Int32 → AH → Prop} (hr : RV (h.1 16 0) V) (hw : WF V) (he : e < V 10 0) (k : K (nI (lft1 V e (V 10 1))) h) : ∀ r c, c + r = V 10 1 → AW M_X11_lifts (.inl K) 37 [some (aR 15 0), some (aI (nI e)), none, some (aI (nI (lft1 V e c))), some (aI (nI c))] [] h 0 0 := by
  have h7 := hw.2.1
  obtain ⟨-, -, -, -, -, -, -, -, -, -, -, e1, -⟩ := RVs hr
  intro r
  induction r with
  | zero =>
    intro c hc
    refine vc_X11_lifts_37 (nI e) _ (nI c) ?_
    have : c = V 10 1 := by omega
    subst this
    simp (disch := omega) only [n_inT, n_cl, true_and, e1, n_le]
    exact ⟨fun _ => k, fun q => absurd (by omega) q⟩
  | succ r ih =>
    intro c hc
    refine vc_X11_lifts_37 (nI e) _ (nI c) ?_
    have hbe := hw.2.2.2.2.2.1 e he
    have hwt : vWt V c ≤ 38 := wt_le (hw.2.2.2.2.2.2 c (by omega)).2
    simp (disch := omega) only [n_inT, n_cl, true_and, e1, n_le, nI_add]
    refine ⟨fun q => by omega, fun _ => ⟨V, c, ⟨hr, hw, by omega, rfl⟩, V, e, hr, hw, he, rfl, ?_⟩⟩
    have := ih (c + 1) (by omega)
    rw [lft1] at this
    simp (disch := omega) only [n_lt]
    refine ⟨fun q => ?_, fun q => ?_⟩
    · rw [if_neg (by omega)] at this; exact this
    · rw [if_pos (by omega)] at this; exact this
theorem snd_X11_lifts (e w : Int32) {h : AH} {K : Int32 → AH → Prop} (k : S_X11_lifts e w h K) : AW M_X11_lifts (.inl K) 0 [some (aR 15 0), some (aI e), some (aI w), none, none] [] h 0 0 := by
  obtain ⟨V, hr, hw, k⟩ := k
  have h4 := hw.1
  refine vc_X11_lifts e w ?_
  obtain ⟨-, -, -, -, -, -, -, -, -, -, e0, -⟩ := RVs hr
  unfold S_X11_isIn S_X11_isEagle
  rw [e0]
  simp only [if10_eq]
  unfold R_lifts at k
  refine ⟨fun q => ?_, fun q => ⟨fun q2 => ?_, fun q2 => ?_⟩⟩
  · rw [if_pos (Or.inl q)] at k; exact k
  · have q := Decidable.not_not.mp q
    rw [if_neg (by rintro (z | z); exact z q; exact q2 z)] at k
    obtain ⟨i, hi, rfl⟩ := (in_iff (by omega)).mp q
    unfold nN at k
    rw [n_cl (by omega)] at k
    refine ⟨fun q3 => ?_, fun q3 => ⟨V, i, hr, hw, hi, rfl, ?_⟩⟩
    · rw [if_neg q3] at k; exact lp_X11_lifts hr hw hi k (V 10 1) 0 (by omega)
    · rw [if_pos (Decidable.not_not.mp q3)] at k; exact k
  · rw [if_pos (Or.inr (fun z => q2 (fun y => y z)))] at k; exact k
theorem tr_X11_lifts : ∀ (as : List AV) (h : AH) (K : Int32 → AH → Prop), T_X11_lifts as h K → ∃ (q : Nat) (r : List AV), as = aR 15 q :: r := by
  intro as h K hk
  match as, hk with
  | [.inr (.inr (.inl q0)), .inl q1, .inl q2], hk =>
    obtain ⟨hb, hk⟩ := tif_inv hk
    simp only [Bool.and_eq_true] at hb
    obtain ⟨e0, e1⟩ := hb
    obtain ⟨a0, b0⟩ := q0
    have f0 : a0 = 15 := Nat.eq_of_beq_eq_true e0
    subst f0
    have f1 : b0 = 0 := Nat.eq_of_beq_eq_true e1
    subst f1
    exact ⟨_, _, rfl⟩
theorem tw_X11_lifts : ∀ (as : List AV) (h : AH) (K : Int32 → AH → Prop), T_X11_lifts as h K → (ini as).length ≤ mNL M_X11_lifts ∧ AW M_X11_lifts (.inl K) 0 (initL (mNL M_X11_lifts) as) [] h 0 0 := by
  intro as h K hk
  match as, hk with
  | [.inr (.inr (.inl q0)), .inl q1, .inl q2], hk =>
    obtain ⟨hb, hk⟩ := tif_inv hk
    simp only [Bool.and_eq_true] at hb
    obtain ⟨e0, e1⟩ := hb
    obtain ⟨a0, b0⟩ := q0
    have f0 : a0 = 15 := Nat.eq_of_beq_eq_true e0
    subst f0
    have f1 : b0 = 0 := Nat.eq_of_beq_eq_true e1
    subst f1
    exact ⟨Nat.le_of_ble_eq_true rfl, snd_X11_lifts q1 q2 hk⟩
end
section
/-! ===== the reference: a man below, safe cells, whose throw, drums ===== -/
theorem car_some {V : Vm} {w : Nat} : ∀ {n : Nat}, car V w n ≠ none ↔ ∃ e, e < n ∧ cap V w e
  | 0 => ⟨fun h => absurd rfl h, fun ⟨e, h, _⟩ => by omega⟩
  | n + 1 => by
    by_cases hc : cap V w n
    · refine ⟨fun _ => ⟨n, by omega, hc⟩, fun _ => ?_⟩
      cases h : car V w n with
      | none => rw [car_new hc h]; exact fun z => by cases z
      | some p =>
        by_cases hg : V 5 p < V 5 n
        · rw [car_gt hc h hg]; exact fun z => by cases z
        · rw [car_le h (by omega)]; exact fun z => by cases z
    · rw [car_no hc, car_some]
      exact ⟨fun ⟨e, h1, h2⟩ => ⟨e, by omega, h2⟩, fun ⟨e, h1, h2⟩ => ⟨e, by rcases Nat.lt_or_ge e n with h | h; exact h; exact absurd (by rw [show n = e by omega]; exact h2) hc, h2⟩⟩
def mn (V : Vm) (w : Nat) : Nat → Nat → Option Nat
  | 0, _ => none
  | r + 1, h => if car (wai V h) w (V 10 0) ≠ none then some h else mn V w r (h + 1)
def R_man (V : Vm) (w : Int32) : Int32 := if ¬ (nI 1 ≤ w ∧ w ≤ nI 60) then iI (-1) else oI (mn V (nN w) 61 0)
def S_X11_man (w : Int32) (h : AH) (K : Int32 → AH → Prop) : Prop := ∃ V, RV (h.1 16 0) V ∧ WF V ∧ ∀ h', keepM h h' → K (R_man V w) h'
def T_X11_man : List AV → AH → (Int32 → AH → Prop) → Prop := fun as h K => match as with
  | [.inr (.inr (.inl q0)), .inl q1] => tif (Nat.beq q0.1 15 && Nat.beq q0.2 0) (S_X11_man q1 h K)
  | _ => False

def M_X11_man : MI := (RX11, cX11_man, 4, [(0, .iload_n 1, []), (1, .iconst 1, []), (2, .bipush 60, []), (4, .invokestatic 53, []), (7, .ifCond .ne 5, [12]), (10, .iconst (-1), []), (11, .ireturn, []), (12, .iconst 0, []), (13, .istore_n 2, []), (14, .iload_n 2, []), (15, .bipush 60, []), (17, .if_icmp .gt 74, [91]), (20, .aload_n 0, []), (21, .getfield 9, []), (24, .aload_n 0, []), (25, .getfield 13, []), (28, .invokestatic 148, []), (31, .aload_n 0, []), (32, .getfield 13, []), (35, .iload_n 2, []), (36, .invokestatic 128, []), (39, .iconst 0, []), (40, .istore_n 3, []), (41, .iload_n 3, []), (42, .aload_n 0, []), (43, .getfield 9, []), (46, .iconst 0, []), (47, .iaload, []), (48, .if_icmp .ge 37, [85]), (51, .aload_n 0, []), (52, .getfield 13, []), (55, .iload_n 3, []), (56, .invokestatic 82, []), (59, .iload_n 1, []), (60, .if_icmp .lt 19, [79]), (63, .aload_n 0, []), (64, .getfield 13, []), (67, .iload_n 3, []), (68, .iconst 3, []), (69, .invokestatic 75, []), (72, .iaload, []), (73, .iconst 5, []), (74, .if_icmp .ge 5, [79]), (77, .iload_n 2, []), (78, .ireturn, []), (79, .iinc 3 1, []), (82, .goto (-41), [41]), (85, .iinc 2 1, []), (88, .goto (-74), [14]), (91, .bipush (-4), []), (93, .ireturn, [])], [(9, (15, 0, 1, 16, 0)), (13, (15, 1, 1, 16, 1))], [], [], [(160, (3, 1, 22, 0, 0, .inl T_X11_isIn)), (445, (2, 1, 22, 0, 0, .inr (.inl T_X11_copies))), (385, (2, 3, 65, 0, 0, .inr (.inl T_X11_waitIn))), (247, (2, 2, 42, 0, 0, .inl T_X11_power)), (226, (2, 1, 21, 0, 0, .inl T_X11_atEagle))], 3, 65, 0, 0)
theorem ok_X11_man : MOK M_X11_man := ⟨by decide +kernel, List.forall_mem_cons.mpr ⟨fl_RX11_9, List.forall_mem_cons.mpr ⟨fl_RX11_13, fun _ h => absurd h List.not_mem_nil⟩⟩, fun _ h => absurd h List.not_mem_nil, fun _ h => absurd h List.not_mem_nil, List.forall_mem_cons.mpr ⟨⟨Nat.le_of_ble_eq_true rfl, Nat.le_of_ble_eq_true rfl, cr_RX11_160⟩, List.forall_mem_cons.mpr ⟨⟨Nat.le_of_ble_eq_true rfl, Nat.le_of_ble_eq_true rfl, cr_RX11_445⟩, List.forall_mem_cons.mpr ⟨⟨Nat.le_of_ble_eq_true rfl, Nat.le_of_ble_eq_true rfl, cr_RX11_385⟩, List.forall_mem_cons.mpr ⟨⟨Nat.le_of_ble_eq_true rfl, Nat.le_of_ble_eq_true rfl, cr_RX11_247⟩, List.forall_mem_cons.mpr ⟨⟨Nat.le_of_ble_eq_true rfl, Nat.le_of_ble_eq_true rfl, cr_RX11_226⟩, fun _ h => absurd h List.not_mem_nil⟩⟩⟩⟩⟩⟩
set_option maxRecDepth 100000 in
theorem vc_X11_man {K : Int32 → AH → Prop} {h : AH} (p1 : Int32) (H : S_X11_isIn p1 (nI 1) (nI 60) h (fun x2 h1 => ((¬ x2 = 0) → AW M_X11_man (.inl K) 14 [some (aR 15 0), some (aI p1), some (aI (nI 0)), none] [] h1 0 0) ∧ (¬ (¬ x2 = 0) → K (iI (-1)) h1))) : AW M_X11_man (.inl K) 0 [some (aR 15 0), some (aI p1), none, none] [] h 0 0 := AW_go (cuts := [(14, [true, true, true, false]), (41, [true, true, true, true])]) ok_X11_man 400 H
set_option maxRecDepth 100000 in
theorem vc_X11_man_14 {K : Int32 → AH → Prop} {h : AH}  (l1 : Int32) (l2 : Int32) (H : (((nI 60) < l2) → K (iI (-4)) h) ∧ (¬ ((nI 60) < l2) → S_X11_copies 0 1 h (fun h1 => S_X11_waitIn 1 l2 h1 (fun h2 => AW M_X11_man (.inl K) 41 [some (aR 15 0), some (aI l1), some (aI l2), some (aI (nI 0))] [] h2 0 0)))) : AW M_X11_man (.inl K) 14 [some (aR 15 0), some (aI l1), some (aI l2), none] [] h 0 0 := AW_go (cuts := [(14, [true, true, true, false]), (41, [true, true, true, true])]) ok_X11_man 400 H
set_option maxRecDepth 100000 in
theorem vc_X11_man_41 {K : Int32 → AH → Prop} {h : AH}  (l1 : Int32) (l2 : Int32) (l3 : Int32) (H : inR (nI 0) 62 ∧ (((h.1 16 0 (nI 0).toNatClampNeg) ≤ l3) → AW M_X11_man (.inl K) 14 [some (aR 15 0), some (aI l1), some (aI (l2 + (nI 1))), none] [] h 0 0) ∧ (¬ ((h.1 16 0 (nI 0).toNatClampNeg) ≤ l3) → S_X11_power 1 l3 h (fun x2 h1 => ((x2 < l1) → AW M_X11_man (.inl K) 41 [some (aR 15 0), some (aI l1), some (aI l2), some (aI (l3 + (nI 1)))] [] h1 0 0) ∧ (¬ (x2 < l1) → S_X11_atEagle l3 (nI 3) h1 (fun x4 h3 => inR x4 62 ∧ (((nI 5) ≤ (h3.1 16 1 x4.toNatClampNeg)) → AW M_X11_man (.inl K) 41 [some (aR 15 0), some (aI l1), some (aI l2), some (aI (l3 + (nI 1)))] [] h3 0 0) ∧ (¬ ((nI 5) ≤ (h3.1 16 1 x4.toNatClampNeg)) → K l2 h3)))))) : AW M_X11_man (.inl K) 41 [some (aR 15 0), some (aI l1), some (aI l2), some (aI l3)] [] h 0 0 := AW_go (cuts := [(14, [true, true, true, false]), (41, [true, true, true, true])]) ok_X11_man 400 H

theorem lp_X11_man {V : Vm} {w : Nat} {h0 : AH} {K : Int32 → AH → Prop} (hr : RV (h0.1 16 0) V) (hw : WF V) (hw1 : w ≤ 60) (k : ∀ h', keepM h0 h' → K (oI (mn V w 61 0)) h') : ∀ r t h, t + r = 61 → mn V w 61 0 = mn V w r t → keepM h0 h → AW M_X11_man (.inl K) 14 [some (aR 15 0), some (aI (nI w)), some (aI (nI t)), none] [] h 0 0 := by
  have h4 := hw.1
  intro r
  induction r with
  | zero =>
    intro t h ht hm h1
    refine vc_X11_man_14 (nI w) (nI t) ?_
    simp (disch := omega) only [n_lt]
    refine ⟨fun _ => ?_, fun q => absurd (by omega) q⟩
    have := k h h1
    rw [hm] at this
    exact this
  | succ r ih =>
    intro t h ht hm h1
    refine vc_X11_man_14 (nI w) (nI t) ?_
    simp (disch := omega) only [n_lt]
    refine ⟨fun q => by omega, fun _ => ⟨by decide, fun h2 o2 c2 => ?_⟩⟩
    have hr2 : RV (h2.1 16 1) V := RV_cp hw hr (fun i hi => by rw [c2 i hi, keepM_r0 h1])
    refine ⟨V, t, hr2, hw, by omega, rfl, fun h3 o3 q3 => ?_⟩
    have k3 := keepM_tr (keepM_tr h1 (keepM_o (by decide) (by decide) o2)) (keepM_o (by decide) (by decide) o3)
    have hw3 : WF (wai V t) := WF_wai hw
    have e10 : wai V t 10 0 = V 10 0 := wai_10 (by omega)
    obtain ⟨-, -, -, -, -, -, -, e7, -, -, -⟩ := RVs q3
    rw [e10] at e7
    have e0 : h3.1 16 0 0 = nI (V 10 0) := by
      have := (RVs hr).2.2.2.2.2.2.2.2.2.2.1
      rw [← keepM_r0 k3] at this
      exact this
    have inner : ∀ r2 e, e + r2 = V 10 0 → (∀ i, i < e → ¬ cap (wai V t) w i) → AW M_X11_man (.inl K) 41 [some (aR 15 0), some (aI (nI w)), some (aI (nI t)), some (aI (nI e))] [] h3 0 0 := by
      intro r2
      induction r2 with
      | zero =>
        intro e he hno
        refine vc_X11_man_41 (nI w) (nI t) (nI e) ?_
        simp (disch := omega) only [n_inT, n_cl, true_and, e0, n_le, nI_add]
        refine ⟨fun _ => ih (t + 1) h3 (by omega) ?_ k3, fun q => absurd (by omega) q⟩
        rw [hm, mn, if_neg]
        intro z
        obtain ⟨i, hi, hc⟩ := car_some.mp z
        exact hno i (by omega) hc
      | succ r2 ih2 =>
        intro e he hno
        refine vc_X11_man_41 (nI w) (nI t) (nI e) ?_
        have hbe := hw3.2.2.2.2.2.1 e (by rw [e10]; omega)
        simp (disch := omega) only [n_inT, n_cl, true_and, e0, n_le, nI_add]
        refine ⟨fun q => by omega, fun _ => ⟨wai V t, e, q3, hw3, by rw [e10]; omega, rfl, ?_⟩⟩
        have next : ¬ cap (wai V t) w e → AW M_X11_man (.inl K) 41 [some (aR 15 0), some (aI (nI w)), some (aI (nI t)), some (aI (nI (e + 1)))] [] h3 0 0 := fun hc => ih2 (e + 1) (by omega) (fun i hi => by
          rcases Nat.lt_or_ge i e with h | h
          · exact hno i h
          · rw [show i = e by omega]; exact hc)
        simp (disch := omega) only [n_lt, S_X11_atEagle, pk_mul, nI_add, n_inT, n_cl, true_and, e7, n_le]
        refine ⟨fun q => next (fun z => by have := z.1; omega), fun q => ⟨fun q2 => next (fun z => by have := z.2; omega), fun q2 => ?_⟩⟩
        have := k h3 k3
        rw [hm, mn, if_pos (car_some.mpr ⟨e, by omega, by omega, by omega⟩)] at this
        exact this
    exact inner (V 10 0) 0 (by omega) (fun i hi => by omega)
theorem snd_X11_man (w : Int32) {h : AH} {K : Int32 → AH → Prop} (k : S_X11_man w h K) : AW M_X11_man (.inl K) 0 [some (aR 15 0), some (aI w), none, none] [] h 0 0 := by
  obtain ⟨V, hr, hw, k⟩ := k
  refine vc_X11_man w ?_
  unfold S_X11_isIn
  simp only [if10_eq]
  unfold R_man at k
  refine ⟨fun q => ?_, fun q => ?_⟩
  · have q := Decidable.not_not.mp q
    rw [if_neg (fun z => z q)] at k
    obtain ⟨i, h1, h2, rfl⟩ := in60 q
    unfold nN at k
    rw [n_cl (by omega)] at k
    exact lp_X11_man hr hw h2 k 61 0 h (by omega) rfl (keepM_rfl h)
  · rw [if_pos (fun z => q (fun y => y z))] at k
    exact k h (keepM_rfl h)
theorem tr_X11_man : ∀ (as : List AV) (h : AH) (K : Int32 → AH → Prop), T_X11_man as h K → ∃ (q : Nat) (r : List AV), as = aR 15 q :: r := by
  intro as h K hk
  match as, hk with
  | [.inr (.inr (.inl q0)), .inl q1], hk =>
    obtain ⟨hb, hk⟩ := tif_inv hk
    simp only [Bool.and_eq_true] at hb
    obtain ⟨e0, e1⟩ := hb
    obtain ⟨a0, b0⟩ := q0
    have f0 : a0 = 15 := Nat.eq_of_beq_eq_true e0
    subst f0
    have f1 : b0 = 0 := Nat.eq_of_beq_eq_true e1
    subst f1
    exact ⟨_, _, rfl⟩
theorem tw_X11_man : ∀ (as : List AV) (h : AH) (K : Int32 → AH → Prop), T_X11_man as h K → (ini as).length ≤ mNL M_X11_man ∧ AW M_X11_man (.inl K) 0 (initL (mNL M_X11_man) as) [] h 0 0 := by
  intro as h K hk
  match as, hk with
  | [.inr (.inr (.inl q0)), .inl q1], hk =>
    obtain ⟨hb, hk⟩ := tif_inv hk
    simp only [Bool.and_eq_true] at hb
    obtain ⟨e0, e1⟩ := hb
    obtain ⟨a0, b0⟩ := q0
    have f0 : a0 = 15 := Nat.eq_of_beq_eq_true e0
    subst f0
    have f1 : b0 = 0 := Nat.eq_of_beq_eq_true e1
    subst f1
    exact ⟨Nat.le_of_ble_eq_true rfl, snd_X11_man q1 hk⟩

def sfe (V : Vm) (n : Nat) : Nat → Int32
  | 0 => nI 0
  | k + 1 => if eat V n k then sfe V n k else sfe V n k ||| (nI 1 <<< (nI k &&& 31))
def R_safe (V : Vm) (s : Int32) : Int32 := if shp V s then sfe V (nN s) 8 else iI (-1)
theorem or_n0 (x : Int32) : x ||| nI 0 = x := Int32.or_zero
def S_X11_safe (s : Int32) (h : AH) (K : Int32 → AH → Prop) : Prop := ∃ V, RV (h.1 16 0) V ∧ WF V ∧ K (R_safe V s) h
def T_X11_safe : List AV → AH → (Int32 → AH → Prop) → Prop := fun as h K => match as with
  | [.inr (.inr (.inl q0)), .inl q1] => tif (Nat.beq q0.1 15 && Nat.beq q0.2 0) (S_X11_safe q1 h K)
  | _ => False

def M_X11_safe : MI := (RX11, cX11_safe, 4, [(0, .aload_n 0, []), (1, .iload_n 1, []), (2, .invokevirtual 132, []), (5, .ifCond .ne 5, [10]), (8, .iconst (-1), []), (9, .ireturn, []), (10, .iconst 0, []), (11, .istore_n 2, []), (12, .iconst 0, []), (13, .istore_n 3, []), (14, .iload_n 3, []), (15, .bipush 8, []), (17, .if_icmp .ge 31, [48]), (20, .iload_n 2, []), (21, .aload_n 0, []), (22, .getfield 9, []), (25, .iload_n 1, []), (26, .iload_n 3, []), (27, .invokestatic 78, []), (30, .ifCond .eq 7, [37]), (33, .iconst 0, []), (34, .goto 6, [40]), (37, .iconst 1, []), (38, .iload_n 3, []), (39, .ishl, []), (40, .ior, []), (41, .istore_n 2, []), (42, .iinc 3 1, []), (45, .goto (-31), [14]), (48, .iload_n 2, []), (49, .ireturn, [])], [(9, (15, 0, 1, 16, 0))], [], [], [(396, (2, 2, 43, 0, 0, .inl T_X11_isSheep)), (235, (3, 3, 65, 0, 0, .inl T_X11_isEaten))], 3, 65, 0, 0)
theorem ok_X11_safe : MOK M_X11_safe := ⟨by decide +kernel, List.forall_mem_cons.mpr ⟨fl_RX11_9, fun _ h => absurd h List.not_mem_nil⟩, fun _ h => absurd h List.not_mem_nil, fun _ h => absurd h List.not_mem_nil, List.forall_mem_cons.mpr ⟨⟨Nat.le_of_ble_eq_true rfl, Nat.le_of_ble_eq_true rfl, cr_RX11_396⟩, List.forall_mem_cons.mpr ⟨⟨Nat.le_of_ble_eq_true rfl, Nat.le_of_ble_eq_true rfl, cr_RX11_235⟩, fun _ h => absurd h List.not_mem_nil⟩⟩⟩
set_option maxRecDepth 100000 in
theorem vc_X11_safe {K : Int32 → AH → Prop} {h : AH} (p1 : Int32) (H : S_X11_isSheep p1 h (fun x2 h1 => ((¬ x2 = 0) → AW M_X11_safe (.inl K) 14 [some (aR 15 0), some (aI p1), some (aI (nI 0)), some (aI (nI 0))] [] h1 0 0) ∧ (¬ (¬ x2 = 0) → K (iI (-1)) h1))) : AW M_X11_safe (.inl K) 0 [some (aR 15 0), some (aI p1), none, none] [] h 0 0 := AW_go (cuts := [(14, [true, true, true, true])]) ok_X11_safe 400 H
set_option maxRecDepth 100000 in
theorem vc_X11_safe_14 {K : Int32 → AH → Prop} {h : AH}  (l1 : Int32) (l2 : Int32) (l3 : Int32) (H : (((nI 8) ≤ l3) → K l2 h) ∧ (¬ ((nI 8) ≤ l3) → S_X11_isEaten 0 l1 l3 h (fun x2 h1 => ((x2 = 0) → AW M_X11_safe (.inl K) 14 [some (aR 15 0), some (aI l1), some (aI (l2 ||| ((nI 1) <<< (l3 &&& 31)))), some (aI (l3 + (nI 1)))] [] h1 0 0) ∧ (¬ (x2 = 0) → AW M_X11_safe (.inl K) 14 [some (aR 15 0), some (aI l1), some (aI (l2 ||| (nI 0))), some (aI (l3 + (nI 1)))] [] h1 0 0)))) : AW M_X11_safe (.inl K) 14 [some (aR 15 0), some (aI l1), some (aI l2), some (aI l3)] [] h 0 0 := AW_go (cuts := [(14, [true, true, true, true])]) ok_X11_safe 400 H

theorem lp_X11_safe {V : Vm} {n : Nat} {h : AH} {K : Int32 → AH → Prop} (hr : RV (h.1 16 0) V) (hw : WF V) (hn : n < V 10 1) (k : K (sfe V n 8) h) : ∀ r c, c + r = 8 → AW M_X11_safe (.inl K) 14 [some (aR 15 0), some (aI (nI n)), some (aI (sfe V n c)), some (aI (nI c))] [] h 0 0 := by
  intro r
  induction r with
  | zero =>
    intro c hc
    refine vc_X11_safe_14 (nI n) _ (nI c) ?_
    have : c = 8 := by omega
    subst this
    simp (disch := omega) only [n_le]
    exact ⟨fun _ => k, fun q => absurd (by omega) q⟩
  | succ r ih =>
    intro c hc
    refine vc_X11_safe_14 (nI n) _ (nI c) ?_
    simp (disch := omega) only [n_le, nI_add, or_n0]
    refine ⟨fun q => by omega, fun _ => ⟨V, n, c, ⟨hr, hw, hn, rfl⟩, by omega, rfl, ?_⟩⟩
    have := ih (c + 1) (by omega)
    rw [sfe] at this
    simp only [if10_eq]
    refine ⟨fun q => ?_, fun q => ?_⟩
    · rw [if_neg q] at this; exact this
    · rw [if_pos (Decidable.not_not.mp q)] at this; exact this
theorem snd_X11_safe (s : Int32) {h : AH} {K : Int32 → AH → Prop} (k : S_X11_safe s h K) : AW M_X11_safe (.inl K) 0 [some (aR 15 0), some (aI s), none, none] [] h 0 0 := by
  obtain ⟨V, hr, hw, k⟩ := k
  have h7 := hw.2.1
  refine vc_X11_safe s ?_
  obtain ⟨-, -, -, -, -, -, -, -, -, -, -, e1, -⟩ := RVs hr
  unfold S_X11_isSheep
  rw [e1]
  simp only [if10_eq]
  unfold R_safe at k
  refine ⟨fun q => ?_, fun q => ?_⟩
  · have q := Decidable.not_not.mp q
    rw [if_pos q] at k
    obtain ⟨n, hn, rfl⟩ := (in_iff (by omega)).mp q
    unfold nN at k
    rw [n_cl (by omega)] at k
    exact lp_X11_safe hr hw hn k 8 0 (by omega)
  · rw [if_neg (fun z => q (fun y => y z))] at k; exact k
theorem tr_X11_safe : ∀ (as : List AV) (h : AH) (K : Int32 → AH → Prop), T_X11_safe as h K → ∃ (q : Nat) (r : List AV), as = aR 15 q :: r := by
  intro as h K hk
  match as, hk with
  | [.inr (.inr (.inl q0)), .inl q1], hk =>
    obtain ⟨hb, hk⟩ := tif_inv hk
    simp only [Bool.and_eq_true] at hb
    obtain ⟨e0, e1⟩ := hb
    obtain ⟨a0, b0⟩ := q0
    have f0 : a0 = 15 := Nat.eq_of_beq_eq_true e0
    subst f0
    have f1 : b0 = 0 := Nat.eq_of_beq_eq_true e1
    subst f1
    exact ⟨_, _, rfl⟩
theorem tw_X11_safe : ∀ (as : List AV) (h : AH) (K : Int32 → AH → Prop), T_X11_safe as h K → (ini as).length ≤ mNL M_X11_safe ∧ AW M_X11_safe (.inl K) 0 (initL (mNL M_X11_safe) as) [] h 0 0 := by
  intro as h K hk
  match as, hk with
  | [.inr (.inr (.inl q0)), .inl q1], hk =>
    obtain ⟨hb, hk⟩ := tif_inv hk
    simp only [Bool.and_eq_true] at hb
    obtain ⟨e0, e1⟩ := hb
    obtain ⟨a0, b0⟩ := q0
    have f0 : a0 = 15 := Nat.eq_of_beq_eq_true e0
    subst f0
    have f1 : b0 = 0 := Nat.eq_of_beq_eq_true e1
    subst f1
    exact ⟨Nat.le_of_ble_eq_true rfl, snd_X11_safe q1 hk⟩

def who (V : Vm) (c : Nat) (v : Int32) : Nat → Int32
  | 0 => nI 0
  | k + 1 => if c ≤ vFl V k ∧ nI (brg V k c) = v then who V c v k ||| (nI 1 <<< (nI k &&& 31)) else who V c v k
def R_whose (V : Vm) (c v : Int32) : Int32 := if cel c ∧ 0 ≤ v then who V (nN c) v (V 10 1) else iI (-1)
def S_X11_whose (c v : Int32) (h : AH) (K : Int32 → AH → Prop) : Prop := ∃ V, RV (h.1 16 0) V ∧ WF V ∧ ∀ h', keepM h h' → K (R_whose V c v) h'
def T_X11_whose : List AV → AH → (Int32 → AH → Prop) → Prop := fun as h K => match as with
  | [.inr (.inr (.inl q0)), .inl q1, .inl q2] => tif (Nat.beq q0.1 15 && Nat.beq q0.2 0) (S_X11_whose q1 q2 h K)
  | _ => False

def M_X11_whose : MI := (RX11, cX11_whose, 5, [(0, .iload_n 1, []), (1, .invokestatic 120, []), (4, .ifCond .eq 7, [11]), (7, .iload_n 2, []), (8, .ifCond .ge 5, [13]), (11, .iconst (-1), []), (12, .ireturn, []), (13, .iconst 0, []), (14, .istore_n 3, []), (15, .iconst 0, []), (16, .istore 4, []), (18, .iload 4, []), (20, .aload_n 0, []), (21, .getfield 9, []), (24, .iconst 1, []), (25, .iaload, []), (26, .if_icmp .ge 48, [74]), (29, .iload_n 3, []), (30, .iload_n 1, []), (31, .aload_n 0, []), (32, .getfield 9, []), (35, .iload 4, []), (37, .invokestatic 135, []), (40, .if_icmp .gt 25, [65]), (43, .aload_n 0, []), (44, .aload_n 0, []), (45, .getfield 9, []), (48, .iload 4, []), (50, .iload_n 1, []), (51, .invokevirtual 168, []), (54, .iload_n 2, []), (55, .if_icmp .ne 10, [65]), (58, .iconst 1, []), (59, .iload 4, []), (61, .ishl, []), (62, .goto 4, [66]), (65, .iconst 0, []), (66, .ior, []), (67, .istore_n 3, []), (68, .iinc 4 1, []), (71, .goto (-53), [18]), (74, .iload_n 3, []), (75, .ireturn, [])], [(9, (15, 0, 1, 16, 0))], [], [], [(361, (1, 2, 42, 0, 0, .inl T_X11_isCell)), (406, (2, 2, 42, 0, 0, .inl T_X11_flies)), (504, (4, 6, 139, 0, 0, .inl T_X11_broughtBy))], 6, 139, 0, 0)
theorem ok_X11_whose : MOK M_X11_whose := ⟨by decide +kernel, List.forall_mem_cons.mpr ⟨fl_RX11_9, fun _ h => absurd h List.not_mem_nil⟩, fun _ h => absurd h List.not_mem_nil, fun _ h => absurd h List.not_mem_nil, List.forall_mem_cons.mpr ⟨⟨Nat.le_of_ble_eq_true rfl, Nat.le_of_ble_eq_true rfl, cr_RX11_361⟩, List.forall_mem_cons.mpr ⟨⟨Nat.le_of_ble_eq_true rfl, Nat.le_of_ble_eq_true rfl, cr_RX11_406⟩, List.forall_mem_cons.mpr ⟨⟨Nat.le_of_ble_eq_true rfl, Nat.le_of_ble_eq_true rfl, cr_RX11_504⟩, fun _ h => absurd h List.not_mem_nil⟩⟩⟩⟩
set_option maxRecDepth 100000 in
theorem vc_X11_whose {K : Int32 → AH → Prop} {h : AH} (p1 : Int32) (p2 : Int32) (H : S_X11_isCell p1 h (fun x2 h1 => ((x2 = 0) → K (iI (-1)) h1) ∧ (¬ (x2 = 0) → ((0 ≤ p2) → AW M_X11_whose (.inl K) 18 [some (aR 15 0), some (aI p1), some (aI p2), some (aI (nI 0)), some (aI (nI 0))] [] h1 0 0) ∧ (¬ (0 ≤ p2) → K (iI (-1)) h1)))) : AW M_X11_whose (.inl K) 0 [some (aR 15 0), some (aI p1), some (aI p2), none, none] [] h 0 0 := AW_go (cuts := [(18, [true, true, true, true, true])]) ok_X11_whose 400 H
set_option maxRecDepth 100000 in
theorem vc_X11_whose_18 {K : Int32 → AH → Prop} {h : AH}  (l1 : Int32) (l2 : Int32) (l3 : Int32) (l4 : Int32) (H : inR (nI 1) 62 ∧ (((h.1 16 0 (nI 1).toNatClampNeg) ≤ l4) → K l3 h) ∧ (¬ ((h.1 16 0 (nI 1).toNatClampNeg) ≤ l4) → S_X11_flies 0 l4 h (fun x2 h1 => ((x2 < l1) → AW M_X11_whose (.inl K) 18 [some (aR 15 0), some (aI l1), some (aI l2), some (aI (l3 ||| (nI 0))), some (aI (l4 + (nI 1)))] [] h1 0 0) ∧ (¬ (x2 < l1) → S_X11_broughtBy 0 l4 l1 h1 (fun x4 h3 => ((¬ x4 = l2) → AW M_X11_whose (.inl K) 18 [some (aR 15 0), some (aI l1), some (aI l2), some (aI (l3 ||| (nI 0))), some (aI (l4 + (nI 1)))] [] h3 0 0) ∧ (¬ (¬ x4 = l2) → AW M_X11_whose (.inl K) 18 [some (aR 15 0), some (aI l1), some (aI l2), some (aI (l3 ||| ((nI 1) <<< (l4 &&& 31)))), some (aI (l4 + (nI 1)))] [] h3 0 0)))))) : AW M_X11_whose (.inl K) 18 [some (aR 15 0), some (aI l1), some (aI l2), some (aI l3), some (aI l4)] [] h 0 0 := AW_go (cuts := [(18, [true, true, true, true, true])]) ok_X11_whose 400 H

theorem lp_X11_whose {V : Vm} {m : Nat} {v : Int32} {h0 : AH} {K : Int32 → AH → Prop} (hr : RV (h0.1 16 0) V) (hw : WF V) (hm : m < 8) (k : ∀ h', keepM h0 h' → K (who V m v (V 10 1)) h') : ∀ r c h, c + r = V 10 1 → keepM h0 h → AW M_X11_whose (.inl K) 18 [some (aR 15 0), some (aI (nI m)), some (aI v), some (aI (who V m v c)), some (aI (nI c))] [] h 0 0 := by
  have h7 := hw.2.1
  intro r
  induction r with
  | zero =>
    intro c h hc h1
    refine vc_X11_whose_18 (nI m) v _ (nI c) ?_
    have e1 := (RVs hr).2.2.2.2.2.2.2.2.2.2.2.1
    rw [← keepM_r0 h1] at e1
    have : c = V 10 1 := by omega
    subst this
    simp (disch := omega) only [n_inT, n_cl, true_and, e1, n_le]
    exact ⟨fun _ => k h h1, fun q => absurd (by omega) q⟩
  | succ r ih =>
    intro c h hc h1
    refine vc_X11_whose_18 (nI m) v _ (nI c) ?_
    have hr' := hr
    rw [← keepM_r0 h1] at hr'
    have e1 := (RVs hr').2.2.2.2.2.2.2.2.2.2.2.1
    have hf : vFl V c ≤ 7 := fly_le _
    simp (disch := omega) only [n_inT, n_cl, true_and, e1, n_le, nI_add, or_n0]
    refine ⟨fun q => by omega, fun _ => ⟨V, c, ⟨hr', hw, by omega, rfl⟩, ?_⟩⟩
    simp (disch := omega) only [n_lt]
    refine ⟨fun q => ?_, fun q => ⟨V, c, m, ⟨hr', hw, by omega, rfl⟩, hm, rfl, by decide, fun h3 o3 => ⟨fun q2 => ?_, fun q2 => ?_⟩⟩⟩
    · have := ih (c + 1) h (by omega) h1
      rw [who, if_neg (fun z => by have := z.1; omega)] at this
      exact this
    · have := ih (c + 1) h3 (by omega) (keepM_tr h1 (keepM_o (by decide) (by decide) o3))
      rw [who, if_neg (fun z => q2 z.2)] at this
      exact this
    · have := ih (c + 1) h3 (by omega) (keepM_tr h1 (keepM_o (by decide) (by decide) o3))
      rw [who, if_pos ⟨by omega, Decidable.not_not.mp q2⟩] at this
      exact this
theorem snd_X11_whose (c v : Int32) {h : AH} {K : Int32 → AH → Prop} (k : S_X11_whose c v h K) : AW M_X11_whose (.inl K) 0 [some (aR 15 0), some (aI c), some (aI v), none, none] [] h 0 0 := by
  obtain ⟨V, hr, hw, k⟩ := k
  refine vc_X11_whose c v ?_
  unfold S_X11_isCell
  simp only [if10_eq]
  unfold R_whose at k
  refine ⟨fun q => ?_, fun q => ⟨fun q2 => ?_, fun q2 => ?_⟩⟩
  · rw [if_neg (fun z => q z.1)] at k; exact k h (keepM_rfl h)
  · have q := Decidable.not_not.mp q
    rw [if_pos ⟨q, q2⟩] at k
    obtain ⟨m, hm, rfl⟩ := in8_iff.mp q
    unfold nN at k
    rw [n_cl (by omega)] at k
    exact lp_X11_whose hr hw hm k (V 10 1) 0 h (by omega) (keepM_rfl h)
  · rw [if_neg (fun z => q2 z.2)] at k; exact k h (keepM_rfl h)
theorem tr_X11_whose : ∀ (as : List AV) (h : AH) (K : Int32 → AH → Prop), T_X11_whose as h K → ∃ (q : Nat) (r : List AV), as = aR 15 q :: r := by
  intro as h K hk
  match as, hk with
  | [.inr (.inr (.inl q0)), .inl q1, .inl q2], hk =>
    obtain ⟨hb, hk⟩ := tif_inv hk
    simp only [Bool.and_eq_true] at hb
    obtain ⟨e0, e1⟩ := hb
    obtain ⟨a0, b0⟩ := q0
    have f0 : a0 = 15 := Nat.eq_of_beq_eq_true e0
    subst f0
    have f1 : b0 = 0 := Nat.eq_of_beq_eq_true e1
    subst f1
    exact ⟨_, _, rfl⟩
theorem tw_X11_whose : ∀ (as : List AV) (h : AH) (K : Int32 → AH → Prop), T_X11_whose as h K → (ini as).length ≤ mNL M_X11_whose ∧ AW M_X11_whose (.inl K) 0 (initL (mNL M_X11_whose) as) [] h 0 0 := by
  intro as h K hk
  match as, hk with
  | [.inr (.inr (.inl q0)), .inl q1, .inl q2], hk =>
    obtain ⟨hb, hk⟩ := tif_inv hk
    simp only [Bool.and_eq_true] at hb
    obtain ⟨e0, e1⟩ := hb
    obtain ⟨a0, b0⟩ := q0
    have f0 : a0 = 15 := Nat.eq_of_beq_eq_true e0
    subst f0
    have f1 : b0 = 0 := Nat.eq_of_beq_eq_true e1
    subst f1
    exact ⟨Nat.le_of_ble_eq_true rfl, snd_X11_whose q1 q2 hk⟩

/-- k throws with drums by the bits of a set: what they bring, the valley then -/
def drm (V : Vm) (s c z : Nat) : Nat → Nat × Vm
  | 0 => (0, V)
  | k + 1 => ((drm V s c z k).1 + brg (uV (drm V s c z k).2 10 3 ((z >>> k) % 2)) s c, thr (uV (drm V s c z k).2 10 3 ((z >>> k) % 2)) s c)
theorem WF_dr {V : Vm} {x : Nat} (hw : WF V) (hx : x ≤ 1) : WF (uV V 10 3 x) := by
  obtain ⟨a, b, c, d, e, f, g⟩ := hw
  unfold WF
  rw [uV_ne (by omega), uV_ne (by omega), uV_ne (by omega), uV_at]
  refine ⟨a, b, c, hx, fun i hi => ?_, fun i hi => ?_, fun i hi => ?_⟩
  · rw [uV_ne (by omega), uV_ne (by omega), uV_ne (by omega)]; exact e i hi
  · rw [uV_ne (by omega), uV_ne (by omega), uV_ne (by omega), uV_ne (by omega)]; exact f i hi
  · rw [uV_ne (by omega), uV_ne (by omega)]; exact g i hi
theorem drm_ok {V : Vm} {s c z : Nat} (hw : WF V) (hs : s < V 10 1) (hc : c < 8) : ∀ k, WF (drm V s c z k).2 ∧ (drm V s c z k).2 10 1 = V 10 1 ∧ (drm V s c z k).1 ≤ 54 * k
  | 0 => ⟨hw, rfl, by show 0 ≤ _; omega⟩
  | k + 1 => by
    obtain ⟨h1, h2, h3⟩ := drm_ok (z := z) hw hs hc k
    have hw2 := WF_dr (x := (z >>> k) % 2) h1 (by omega)
    have hs2 : s < uV (drm V s c z k).2 10 3 ((z >>> k) % 2) 10 1 := by rw [uV_ne (by omega), h2]; exact hs
    have := brg_le hw2 hs2 hc
    refine ⟨WF_thr hw2 hc, ?_, ?_⟩
    · show thr _ s c 10 1 = _
      rw [thr_10 (by omega), uV_ne (by omega), h2]
    · show (drm V s c z k).1 + _ ≤ _
      omega
def drB (V : Vm) (s c n : Nat) : Int × Int := am1 (fun z => ((drm V s c z n).1 : Int)) (2 ^ n) (0, -1)
def R_drum (V : Vm) (a c n w : Int32) : Int32 := if ¬ (nI 0 ≤ n ∧ n ≤ nI 8) ∨ ¬ w01 w then iI (-1) else if rfT V a c ≠ nI 0 then rfT V a c else if w = 0 then iI (drB V (nN a) (nN c) (nN n)).1 else iI (drB V (nN a) (nN c) (nN n)).2
theorem sh2 : ∀ k, k < 9 → nI 1 <<< (nI k &&& 31) = nI (2 ^ k) := by decide +kernel
theorem bit2 : ∀ z, z < 256 → ∀ k, k < 8 → (nI z >>> (nI k &&& 31)) &&& nI 1 = nI ((z >>> k) % 2) := by decide +kernel
theorem pow8 {n : Nat} (h : n ≤ 8) : 2 ^ n ≤ 256 := Nat.pow_le_pow_right (n := 2) (by omega) h
def S_X11_drum (a c n w : Int32) (h : AH) (K : Int32 → AH → Prop) : Prop := ∃ V, RV (h.1 16 0) V ∧ WF V ∧ ∀ h', keepM h h' → K (R_drum V a c n w) h'
def T_X11_drum : List AV → AH → (Int32 → AH → Prop) → Prop := fun as h K => match as with
  | [.inr (.inr (.inl q0)), .inl q1, .inl q2, .inl q3, .inl q4] => tif (Nat.beq q0.1 15 && Nat.beq q0.2 0) (S_X11_drum q1 q2 q3 q4 h K)
  | _ => False

def M_X11_drum : MI := (RX11, cX11_drum, 11, [(0, .iload_n 3, []), (1, .iconst 0, []), (2, .bipush 8, []), (4, .invokestatic 53, []), (7, .ifCond .eq 13, [20]), (10, .iload 4, []), (12, .iconst 0, []), (13, .iconst 1, []), (14, .invokestatic 53, []), (17, .ifCond .ne 5, [22]), (20, .iconst (-1), []), (21, .ireturn, []), (22, .aload_n 0, []), (23, .iload_n 1, []), (24, .iload_n 2, []), (25, .invokevirtual 165, []), (28, .istore 5, []), (30, .iload 5, []), (32, .ifCond .eq 6, [38]), (35, .iload 5, []), (37, .ireturn, []), (38, .iconst 0, []), (39, .istore 6, []), (41, .iconst (-1), []), (42, .istore 7, []), (44, .iconst 0, []), (45, .istore 8, []), (47, .iload 8, []), (49, .iconst 1, []), (50, .iload_n 3, []), (51, .ishl, []), (52, .if_icmp .ge 83, [135]), (55, .aload_n 0, []), (56, .getfield 9, []), (59, .aload_n 0, []), (60, .getfield 13, []), (63, .invokestatic 148, []), (66, .iconst 0, []), (67, .istore 9, []), (69, .iconst 0, []), (70, .istore 10, []), (72, .iload 10, []), (74, .iload_n 3, []), (75, .if_icmp .ge 36, [111]), (78, .aload_n 0, []), (79, .getfield 13, []), (82, .iconst 3, []), (83, .iload 8, []), (85, .iload 10, []), (87, .ishr, []), (88, .iconst 1, []), (89, .iand, []), (90, .iastore, []), (91, .iload 9, []), (93, .aload_n 0, []), (94, .getfield 13, []), (97, .iload_n 1, []), (98, .iload_n 2, []), (99, .invokestatic 138, []), (102, .iadd, []), (103, .istore 9, []), (105, .iinc 10 1, []), (108, .goto (-36), [72]), (111, .iload 9, []), (113, .iload 7, []), (115, .if_icmp .gt 6, [121]), (118, .goto 11, [129]), (121, .iload 8, []), (123, .istore 6, []), (125, .iload 9, []), (127, .istore 7, []), (129, .iinc 8 1, []), (132, .goto (-85), [47]), (135, .iload 4, []), (137, .ifCond .ne 8, [145]), (140, .iload 6, []), (142, .goto 5, [147]), (145, .iload 7, []), (147, .ireturn, [])], [(9, (15, 0, 1, 16, 0)), (13, (15, 1, 1, 16, 1))], [], [], [(160, (3, 1, 22, 0, 0, .inl T_X11_isIn)), (495, (3, 3, 65, 0, 0, .inl T_X11_wrongThrow)), (445, (2, 1, 22, 0, 0, .inr (.inl T_X11_copies))), (415, (3, 5, 116, 0, 0, .inl T_X11_throwIn))], 5, 116, 0, 0)
theorem ok_X11_drum : MOK M_X11_drum := ⟨by decide +kernel, List.forall_mem_cons.mpr ⟨fl_RX11_9, List.forall_mem_cons.mpr ⟨fl_RX11_13, fun _ h => absurd h List.not_mem_nil⟩⟩, fun _ h => absurd h List.not_mem_nil, fun _ h => absurd h List.not_mem_nil, List.forall_mem_cons.mpr ⟨⟨Nat.le_of_ble_eq_true rfl, Nat.le_of_ble_eq_true rfl, cr_RX11_160⟩, List.forall_mem_cons.mpr ⟨⟨Nat.le_of_ble_eq_true rfl, Nat.le_of_ble_eq_true rfl, cr_RX11_495⟩, List.forall_mem_cons.mpr ⟨⟨Nat.le_of_ble_eq_true rfl, Nat.le_of_ble_eq_true rfl, cr_RX11_445⟩, List.forall_mem_cons.mpr ⟨⟨Nat.le_of_ble_eq_true rfl, Nat.le_of_ble_eq_true rfl, cr_RX11_415⟩, fun _ h => absurd h List.not_mem_nil⟩⟩⟩⟩⟩
set_option maxRecDepth 100000 in
theorem vc_X11_drum {K : Int32 → AH → Prop} {h : AH} (p1 : Int32) (p2 : Int32) (p3 : Int32) (p4 : Int32) (H : S_X11_isIn p3 (nI 0) (nI 8) h (fun x2 h1 => ((x2 = 0) → K (iI (-1)) h1) ∧ (¬ (x2 = 0) → S_X11_isIn p4 (nI 0) (nI 1) h1 (fun x4 h3 => ((¬ x4 = 0) → S_X11_wrongThrow p1 p2 h3 (fun x6 h5 => ((x6 = 0) → AW M_X11_drum (.inl K) 47 [some (aR 15 0), some (aI p1), some (aI p2), some (aI p3), some (aI p4), none, some (aI (nI 0)), some (aI (iI (-1))), some (aI (nI 0)), none, none] [] h5 0 0) ∧ (¬ (x6 = 0) → K x6 h5))) ∧ (¬ (¬ x4 = 0) → K (iI (-1)) h3))))) : AW M_X11_drum (.inl K) 0 [some (aR 15 0), some (aI p1), some (aI p2), some (aI p3), some (aI p4), none, none, none, none, none, none] [] h 0 0 := AW_go (cuts := [(47, [true, true, true, true, true, false, true, true, true, false, false]), (72, [true, true, true, true, true, false, true, true, true, true, true])]) ok_X11_drum 400 H
set_option maxRecDepth 100000 in
theorem vc_X11_drum_47 {K : Int32 → AH → Prop} {h : AH}  (l1 : Int32) (l2 : Int32) (l3 : Int32) (l4 : Int32) (l6 : Int32) (l7 : Int32) (l8 : Int32) (H : ((((nI 1) <<< (l3 &&& 31)) ≤ l8) → ((¬ l4 = 0) → K l7 h) ∧ (¬ (¬ l4 = 0) → K l6 h)) ∧ (¬ (((nI 1) <<< (l3 &&& 31)) ≤ l8) → S_X11_copies 0 1 h (fun h1 => AW M_X11_drum (.inl K) 72 [some (aR 15 0), some (aI l1), some (aI l2), some (aI l3), some (aI l4), none, some (aI l6), some (aI l7), some (aI l8), some (aI (nI 0)), some (aI (nI 0))] [] h1 0 0))) : AW M_X11_drum (.inl K) 47 [some (aR 15 0), some (aI l1), some (aI l2), some (aI l3), some (aI l4), none, some (aI l6), some (aI l7), some (aI l8), none, none] [] h 0 0 := AW_go (cuts := [(47, [true, true, true, true, true, false, true, true, true, false, false]), (72, [true, true, true, true, true, false, true, true, true, true, true])]) ok_X11_drum 400 H
set_option maxRecDepth 100000 in
theorem vc_X11_drum_72 {K : Int32 → AH → Prop} {h : AH}  (l1 : Int32) (l2 : Int32) (l3 : Int32) (l4 : Int32) (l6 : Int32) (l7 : Int32) (l8 : Int32) (l9 : Int32) (l10 : Int32) (H : ((l3 ≤ l10) → ((l7 < l9) → AW M_X11_drum (.inl K) 47 [some (aR 15 0), some (aI l1), some (aI l2), some (aI l3), some (aI l4), none, some (aI l8), some (aI l9), some (aI (l8 + (nI 1))), none, none] [] h 0 0) ∧ (¬ (l7 < l9) → AW M_X11_drum (.inl K) 47 [some (aR 15 0), some (aI l1), some (aI l2), some (aI l3), some (aI l4), none, some (aI l6), some (aI l7), some (aI (l8 + (nI 1))), none, none] [] h 0 0)) ∧ (¬ (l3 ≤ l10) → inR (nI 3) 62 ∧ S_X11_throwIn 1 l1 l2 (wI h 16 1 (nI 3).toNatClampNeg ((l8 >>> (l10 &&& 31)) &&& (nI 1))) (fun x2 h1 => AW M_X11_drum (.inl K) 72 [some (aR 15 0), some (aI l1), some (aI l2), some (aI l3), some (aI l4), none, some (aI l6), some (aI l7), some (aI l8), some (aI (l9 + x2)), some (aI (l10 + (nI 1)))] [] h1 0 0))) : AW M_X11_drum (.inl K) 72 [some (aR 15 0), some (aI l1), some (aI l2), some (aI l3), some (aI l4), none, some (aI l6), some (aI l7), some (aI l8), some (aI l9), some (aI l10)] [] h 0 0 := AW_go (cuts := [(47, [true, true, true, true, true, false, true, true, true, false, false]), (72, [true, true, true, true, true, false, true, true, true, true, true])]) ok_X11_drum 400 H

theorem lp_X11_drum {V : Vm} {s m n : Nat} {w : Int32} {h0 : AH} {K : Int32 → AH → Prop} (hr : RV (h0.1 16 0) V) (hw : WF V) (hs : s < V 10 1) (hm : m < 8) (hn : n ≤ 8) (k : ∀ h', keepM h0 h' → K (if w = 0 then iI (drB V s m n).1 else iI (drB V s m n).2) h') : ∀ r z h, z + r = 2 ^ n → keepM h0 h → AW M_X11_drum (.inl K) 47 [some (aR 15 0), some (aI (nI s)), some (aI (nI m)), some (aI (nI n)), some (aI w), none, some (aI (iI (am1 (fun z => ((drm V s m z n).1 : Int)) z (0, -1)).1)), some (aI (iI (am1 (fun z => ((drm V s m z n).1 : Int)) z (0, -1)).2)), some (aI (nI z)), none, none] [] h 0 0 := by
  have hp := pow8 hn
  have bb := am1_b (f := fun z => ((drm V s m z n).1 : Int)) (n := 2 ^ n) (p := (0, -1)) (A := -1) (B := 432) (fun z _ => by have := (drm_ok (z := z) hw hs hm n).2.2; omega) (by simp) (by simp) (by simp) (Int.natCast_nonneg _)
  intro r
  induction r with
  | zero =>
    intro z h hz h1
    refine vc_X11_drum_47 (nI s) (nI m) (nI n) w _ _ (nI z) ?_
    rw [sh2 n (by omega)]
    simp (disch := omega) only [n_le]
    have : z = 2 ^ n := by omega
    subst this
    have := k h h1
    refine ⟨fun _ => ⟨fun q => ?_, fun q => ?_⟩, fun q => absurd (by omega) q⟩
    · rw [if_neg q] at this; exact this
    · rw [if_pos (Decidable.not_not.mp q)] at this; exact this
  | succ r ih =>
    intro z h hz h1
    refine vc_X11_drum_47 (nI s) (nI m) (nI n) w _ _ (nI z) ?_
    rw [sh2 n (by omega)]
    simp (disch := omega) only [n_le]
    refine ⟨fun q => by omega, fun _ => ⟨by decide, fun h2 o2 c2 => ?_⟩⟩
    have hr2 : RV (h2.1 16 1) V := RV_cp hw hr (fun i hi => by rw [c2 i hi, keepM_r0 h1])
    have k2 := keepM_tr h1 (keepM_o (by decide) (by decide) o2)
    obtain ⟨b1, b2, b3, b4⟩ := bb z (by omega)
    have inner : ∀ r2 e h, e + r2 = n → keepM h0 h → RV (h.1 16 1) (drm V s m z e).2 → AW M_X11_drum (.inl K) 72 [some (aR 15 0), some (aI (nI s)), some (aI (nI m)), some (aI (nI n)), some (aI w), none, some (aI (iI (am1 (fun z => ((drm V s m z n).1 : Int)) z (0, -1)).1)), some (aI (iI (am1 (fun z => ((drm V s m z n).1 : Int)) z (0, -1)).2)), some (aI (nI z)), some (aI (nI (drm V s m z e).1)), some (aI (nI e))] [] h 0 0 := by
      intro r2
      induction r2 with
      | zero =>
        intro e h he h1 h2
        refine vc_X11_drum_72 (nI s) (nI m) (nI n) w _ _ (nI z) _ (nI e) ?_
        have : e = n := by omega
        subst this
        have hd := (drm_ok (z := z) hw hs hm e).2.2
        have := ih (z + 1) h (by omega) h1
        rw [am1] at this
        rw [nI_iI (drm V s m z e).1, i_lt (by omega) (by omega) (by omega) (by omega)]
        simp (disch := omega) only [n_le, nI_add]
        refine ⟨fun _ => ⟨fun q => ?_, fun q => ?_⟩, fun q => absurd (by omega) q⟩
        · rw [if_pos q, ← nI_iI z] at this; exact this
        · rw [if_neg q] at this; exact this
      | succ r2 ih2 =>
        intro e h he h1 h2
        refine vc_X11_drum_72 (nI s) (nI m) (nI n) w _ _ (nI z) _ (nI e) ?_
        rw [bit2 z (by omega) e (by omega)]
        obtain ⟨d1, d2, d3⟩ := drm_ok (z := z) hw hs hm e
        have hw2 := WF_dr (x := (z >>> e) % 2) d1 (by omega)
        simp (disch := omega) only [n_le, n_inT, n_cl, true_and, nI_add]
        have h3 := RV_set d1 h2 (t := 10) (i := 3) (x := (z >>> e) % 2) (by omega) (show 3 < 4 by decide)
        refine ⟨fun q => by omega, fun _ => ⟨uV (drm V s m z e).2 10 3 ((z >>> e) % 2), s, m, ⟨h3, hw2, by rw [uV_ne (by omega), d2]; exact hs, rfl⟩, hm, rfl, fun h4 o4 q4 => ?_⟩⟩
        dsimp only
        rw [nI_add]
        exact ih2 (e + 1) h4 (by omega) (keepM_tr (keepM_tr h1 (keepM_w (by omega))) (keepM_o (by decide) (by decide) o4)) q4
    exact inner n 0 h2 (by omega) k2 hr2
theorem snd_X11_drum (a c n w : Int32) {h : AH} {K : Int32 → AH → Prop} (k : S_X11_drum a c n w h K) : AW M_X11_drum (.inl K) 0 [some (aR 15 0), some (aI a), some (aI c), some (aI n), some (aI w), none, none, none, none, none, none] [] h 0 0 := by
  obtain ⟨V, hr, hw, k⟩ := k
  refine vc_X11_drum a c n w ?_
  unfold S_X11_isIn
  simp only [if10_eq]
  unfold R_drum at k
  refine ⟨fun q => ?_, fun q => ⟨fun q2 => wT_use hr hw ?_, fun q2 => ?_⟩⟩
  · rw [if_pos (Or.inl q)] at k
    exact k h (keepM_rfl h)
  · have q := Decidable.not_not.mp q
    rw [if_neg (by rintro (z | z); exact z q; exact q2 z)] at k
    rcases rfT_cases hw a c with ⟨s, m, hs, hm, hf, rfl, rfl, e⟩ | e
    case inr =>
      rw [if_pos e] at k
      exact ⟨fun q => absurd q e, fun _ => k h (keepM_rfl h)⟩
    rw [if_neg (fun z => z e)] at k
    have h7 := hw.2.1
    obtain ⟨i, hi, rfl⟩ := (in_n (by omega)).mp q
    unfold nN at k
    rw [n_cl (show s < 2147483648 by omega), n_cl (show m < 2147483648 by omega), n_cl (show i < 2147483648 by omega)] at k
    exact ⟨fun _ => lp_X11_drum hr hw hs hm hi k (2 ^ i) 0 h (by omega) (keepM_rfl h), fun q => absurd e q⟩
  · rw [if_pos (Or.inr (fun z => q2 (fun y => y z)))] at k
    exact k h (keepM_rfl h)
theorem tr_X11_drum : ∀ (as : List AV) (h : AH) (K : Int32 → AH → Prop), T_X11_drum as h K → ∃ (q : Nat) (r : List AV), as = aR 15 q :: r := by
  intro as h K hk
  match as, hk with
  | [.inr (.inr (.inl q0)), .inl q1, .inl q2, .inl q3, .inl q4], hk =>
    obtain ⟨hb, hk⟩ := tif_inv hk
    simp only [Bool.and_eq_true] at hb
    obtain ⟨e0, e1⟩ := hb
    obtain ⟨a0, b0⟩ := q0
    have f0 : a0 = 15 := Nat.eq_of_beq_eq_true e0
    subst f0
    have f1 : b0 = 0 := Nat.eq_of_beq_eq_true e1
    subst f1
    exact ⟨_, _, rfl⟩
theorem tw_X11_drum : ∀ (as : List AV) (h : AH) (K : Int32 → AH → Prop), T_X11_drum as h K → (ini as).length ≤ mNL M_X11_drum ∧ AW M_X11_drum (.inl K) 0 (initL (mNL M_X11_drum) as) [] h 0 0 := by
  intro as h K hk
  match as, hk with
  | [.inr (.inr (.inl q0)), .inl q1, .inl q2, .inl q3, .inl q4], hk =>
    obtain ⟨hb, hk⟩ := tif_inv hk
    simp only [Bool.and_eq_true] at hb
    obtain ⟨e0, e1⟩ := hb
    obtain ⟨a0, b0⟩ := q0
    have f0 : a0 = 15 := Nat.eq_of_beq_eq_true e0
    subst f0
    have f1 : b0 = 0 := Nat.eq_of_beq_eq_true e1
    subst f1
    exact ⟨Nat.le_of_ble_eq_true rfl, snd_X11_drum q1 q2 q3 q4 hk⟩
end
section
/-! ===== the reference: what is set, laid, counted; the image ===== -/
def M_set (V : Vm) (w v : Int32) : Int32 × Vm := if w = nI 0 ∧ (nI 0 ≤ v ∧ v ≤ nI 1) then (nI (V 10 3), uV V 10 3 (nN v)) else if w = nI 1 ∧ (nI 0 ≤ v ∧ v ≤ nI 23) then (nI (V 10 2), uV V 10 2 (nN v)) else (iI (-1), V)
def S_X11_set (w v : Int32) (h : AH) (K : Int32 → AH → Prop) : Prop := ∃ V, RV (h.1 16 0) V ∧ WF V ∧ ∀ h', only 16 0 h h' → RV (h'.1 16 0) (M_set V w v).2 → K (M_set V w v).1 h'
def T_X11_set : List AV → AH → (Int32 → AH → Prop) → Prop := fun as h K => match as with
  | [.inr (.inr (.inl q0)), .inl q1, .inl q2] => tif (Nat.beq q0.1 15 && Nat.beq q0.2 0) (S_X11_set q1 q2 h K)
  | _ => False

def M_X11_set : MI := (RX11, cX11_set, 5, [(0, .iload_n 1, []), (1, .iconst 0, []), (2, .iconst 1, []), (3, .invokestatic 53, []), (6, .ifCond .eq 21, [27]), (9, .iload_n 2, []), (10, .iconst 0, []), (11, .iload_n 1, []), (12, .ifCond .ne 7, [19]), (15, .iconst 1, []), (16, .goto 5, [21]), (19, .bipush 23, []), (21, .invokestatic 53, []), (24, .ifCond .ne 5, [29]), (27, .iconst (-1), []), (28, .ireturn, []), (29, .iload_n 1, []), (30, .ifCond .ne 7, [37]), (33, .iconst 3, []), (34, .goto 4, [38]), (37, .iconst 2, []), (38, .istore_n 3, []), (39, .aload_n 0, []), (40, .getfield 9, []), (43, .iload_n 3, []), (44, .iaload, []), (45, .istore 4, []), (47, .aload_n 0, []), (48, .getfield 9, []), (51, .iload_n 3, []), (52, .iload_n 2, []), (53, .iastore, []), (54, .iload 4, []), (56, .ireturn, [])], [(9, (15, 0, 1, 16, 0))], [], [], [(160, (3, 1, 22, 0, 0, .inl T_X11_isIn))], 1, 22, 0, 0)
theorem ok_X11_set : MOK M_X11_set := ⟨by decide +kernel, List.forall_mem_cons.mpr ⟨fl_RX11_9, fun _ h => absurd h List.not_mem_nil⟩, fun _ h => absurd h List.not_mem_nil, fun _ h => absurd h List.not_mem_nil, List.forall_mem_cons.mpr ⟨⟨Nat.le_of_ble_eq_true rfl, Nat.le_of_ble_eq_true rfl, cr_RX11_160⟩, fun _ h => absurd h List.not_mem_nil⟩⟩
set_option maxRecDepth 100000 in
theorem vc_X11_set {K : Int32 → AH → Prop} {h : AH} (p1 : Int32) (p2 : Int32) (H : S_X11_isIn p1 (nI 0) (nI 1) h (fun x2 h1 => ((x2 = 0) → K (iI (-1)) h1) ∧ (¬ (x2 = 0) → ((¬ p1 = 0) → S_X11_isIn p2 (nI 0) (nI 23) h1 (fun x4 h3 => ((¬ x4 = 0) → ((¬ p1 = 0) → inR (nI 2) 62 ∧ inR (nI 2) 62 ∧ K (h3.1 16 0 (nI 2).toNatClampNeg) (wI h3 16 0 (nI 2).toNatClampNeg p2)) ∧ (¬ (¬ p1 = 0) → inR (nI 3) 62 ∧ inR (nI 3) 62 ∧ K (h3.1 16 0 (nI 3).toNatClampNeg) (wI h3 16 0 (nI 3).toNatClampNeg p2))) ∧ (¬ (¬ x4 = 0) → K (iI (-1)) h3))) ∧ (¬ (¬ p1 = 0) → S_X11_isIn p2 (nI 0) (nI 1) h1 (fun x6 h5 => ((¬ x6 = 0) → ((¬ p1 = 0) → inR (nI 2) 62 ∧ inR (nI 2) 62 ∧ K (h5.1 16 0 (nI 2).toNatClampNeg) (wI h5 16 0 (nI 2).toNatClampNeg p2)) ∧ (¬ (¬ p1 = 0) → inR (nI 3) 62 ∧ inR (nI 3) 62 ∧ K (h5.1 16 0 (nI 3).toNatClampNeg) (wI h5 16 0 (nI 3).toNatClampNeg p2))) ∧ (¬ (¬ x6 = 0) → K (iI (-1)) h5)))))) : AW M_X11_set (.inl K) 0 [some (aR 15 0), some (aI p1), some (aI p2), none, none] [] h 0 0 := AW_go (cuts := []) ok_X11_set 400 H

theorem snd_X11_set (w v : Int32) {h : AH} {K : Int32 → AH → Prop} (k : S_X11_set w v h K) : AW M_X11_set (.inl K) 0 [some (aR 15 0), some (aI w), some (aI v), none, none] [] h 0 0 := by
  obtain ⟨V, hr, hw, k⟩ := k
  refine vc_X11_set w v ?_
  obtain ⟨-, -, -, -, -, -, -, -, -, -, -, -, e2, e3⟩ := RVs hr
  unfold S_X11_isIn
  simp only [if10_eq]
  simp (disch := omega) only [n_inT, n_cl, true_and, e2, e3]
  unfold M_set at k
  by_cases hw0 : w = nI 0
  · subst hw0
    refine ⟨fun q => absurd ⟨by decide, by decide⟩ q, fun _ => ⟨fun q => absurd rfl q, fun _ => ⟨fun q => ⟨fun q2 => absurd rfl q2, fun _ => ?_⟩, fun q => ?_⟩⟩⟩
    · have q := Decidable.not_not.mp q
      rw [if_pos ⟨rfl, q⟩] at k
      obtain ⟨i, hi, rfl⟩ := (in_n (by omega)).mp q
      unfold nN at k
      rw [n_cl (by omega)] at k
      exact k _ (only_wI ..) (RV_set hw hr (t := 10) (i := 3) (by omega) (show 3 < 4 by decide))
    · rw [if_neg (fun z => q (fun y => y z.2)), if_neg (fun z => absurd z.1 (by decide))] at k
      exact k h (only_rfl ..) hr
  · by_cases hw1 : w = nI 1
    · subst hw1
      refine ⟨fun q => absurd ⟨by decide, by decide⟩ q, fun _ => ⟨fun _ => ⟨fun q => ⟨fun q2 => ?_, fun q2 => absurd (fun z => by cases z) q2⟩, fun q => ?_⟩, fun q => absurd (fun z => by cases z) q⟩⟩
      · have q := Decidable.not_not.mp q
        rw [if_neg (fun z => absurd z.1 (by decide)), if_pos ⟨rfl, q⟩] at k
        obtain ⟨i, hi, rfl⟩ := (in_n (by omega)).mp q
        unfold nN at k
        rw [n_cl (by omega)] at k
        exact k _ (only_wI ..) (RV_set hw hr (t := 10) (i := 2) (by omega) (show 2 < 4 by decide))
      · rw [if_neg (fun z => absurd z.1 (by decide)), if_neg (fun z => q (fun y => y z.2))] at k
        exact k h (only_rfl ..) hr
    · rw [if_neg (fun z => hw0 z.1), if_neg (fun z => hw1 z.1)] at k
      refine ⟨fun _ => k h (only_rfl ..) hr, fun q => ?_⟩
      obtain ⟨i, hi, rfl⟩ := (in_n (by omega)).mp (Decidable.not_not.mp q)
      rcases (show i = 0 ∨ i = 1 by omega) with rfl | rfl
      · exact absurd rfl hw0
      · exact absurd rfl hw1
theorem tr_X11_set : ∀ (as : List AV) (h : AH) (K : Int32 → AH → Prop), T_X11_set as h K → ∃ (q : Nat) (r : List AV), as = aR 15 q :: r := by
  intro as h K hk
  match as, hk with
  | [.inr (.inr (.inl q0)), .inl q1, .inl q2], hk =>
    obtain ⟨hb, hk⟩ := tif_inv hk
    simp only [Bool.and_eq_true] at hb
    obtain ⟨e0, e1⟩ := hb
    obtain ⟨a0, b0⟩ := q0
    have f0 : a0 = 15 := Nat.eq_of_beq_eq_true e0
    subst f0
    have f1 : b0 = 0 := Nat.eq_of_beq_eq_true e1
    subst f1
    exact ⟨_, _, rfl⟩
theorem tw_X11_set : ∀ (as : List AV) (h : AH) (K : Int32 → AH → Prop), T_X11_set as h K → (ini as).length ≤ mNL M_X11_set ∧ AW M_X11_set (.inl K) 0 (initL (mNL M_X11_set) as) [] h 0 0 := by
  intro as h K hk
  match as, hk with
  | [.inr (.inr (.inl q0)), .inl q1, .inl q2], hk =>
    obtain ⟨hb, hk⟩ := tif_inv hk
    simp only [Bool.and_eq_true] at hb
    obtain ⟨e0, e1⟩ := hb
    obtain ⟨a0, b0⟩ := q0
    have f0 : a0 = 15 := Nat.eq_of_beq_eq_true e0
    subst f0
    have f1 : b0 = 0 := Nat.eq_of_beq_eq_true e1
    subst f1
    exact ⟨Nat.le_of_ble_eq_true rfl, snd_X11_set q1 q2 hk⟩

def M_lays (V : Vm) (c b s n : Int32) : Int32 × Vm := if cel c ∧ (nI 0 ≤ b ∧ b ≤ nI 9) ∧ (nI 0 ≤ s ∧ s ≤ nI 9) ∧ (nI 0 ≤ n ∧ n ≤ nI 9) then (nI (V 0 (nN c)), uV (uV (uV V 0 (nN c) (nN b)) 1 (nN c) (nN s)) 2 (nN c) (nN n)) else (iI (-1), V)
def S_X11_lays (c b s n : Int32) (h : AH) (K : Int32 → AH → Prop) : Prop := ∃ V, RV (h.1 16 0) V ∧ WF V ∧ ∀ h', only 16 0 h h' → RV (h'.1 16 0) (M_lays V c b s n).2 → K (M_lays V c b s n).1 h'
def T_X11_lays : List AV → AH → (Int32 → AH → Prop) → Prop := fun as h K => match as with
  | [.inr (.inr (.inl q0)), .inl q1, .inl q2, .inl q3, .inl q4] => tif (Nat.beq q0.1 15 && Nat.beq q0.2 0) (S_X11_lays q1 q2 q3 q4 h K)
  | _ => False

def M_X11_lays : MI := (RX11, cX11_lays, 6, [(0, .iload_n 1, []), (1, .invokestatic 120, []), (4, .ifCond .eq 34, [38]), (7, .iload_n 2, []), (8, .iconst 0, []), (9, .bipush 9, []), (11, .invokestatic 53, []), (14, .ifCond .eq 24, [38]), (17, .iload_n 3, []), (18, .iconst 0, []), (19, .bipush 9, []), (21, .invokestatic 53, []), (24, .ifCond .eq 14, [38]), (27, .iload 4, []), (29, .iconst 0, []), (30, .bipush 9, []), (32, .invokestatic 53, []), (35, .ifCond .ne 5, [40]), (38, .iconst (-1), []), (39, .ireturn, []), (40, .aload_n 0, []), (41, .getfield 9, []), (44, .iload_n 1, []), (45, .iconst 0, []), (46, .invokestatic 64, []), (49, .iaload, []), (50, .istore 5, []), (52, .aload_n 0, []), (53, .getfield 9, []), (56, .iload_n 1, []), (57, .iconst 0, []), (58, .invokestatic 64, []), (61, .iload_n 2, []), (62, .iastore, []), (63, .aload_n 0, []), (64, .getfield 9, []), (67, .iload_n 1, []), (68, .iconst 1, []), (69, .invokestatic 64, []), (72, .iload_n 3, []), (73, .iastore, []), (74, .aload_n 0, []), (75, .getfield 9, []), (78, .iload_n 1, []), (79, .iconst 2, []), (80, .invokestatic 64, []), (83, .iload 4, []), (85, .iastore, []), (86, .iload 5, []), (88, .ireturn, [])], [(9, (15, 0, 1, 16, 0))], [], [], [(361, (1, 2, 42, 0, 0, .inl T_X11_isCell)), (160, (3, 1, 22, 0, 0, .inl T_X11_isIn)), (193, (2, 1, 21, 0, 0, .inl T_X11_atCell))], 2, 42, 0, 0)
theorem ok_X11_lays : MOK M_X11_lays := ⟨by decide +kernel, List.forall_mem_cons.mpr ⟨fl_RX11_9, fun _ h => absurd h List.not_mem_nil⟩, fun _ h => absurd h List.not_mem_nil, fun _ h => absurd h List.not_mem_nil, List.forall_mem_cons.mpr ⟨⟨Nat.le_of_ble_eq_true rfl, Nat.le_of_ble_eq_true rfl, cr_RX11_361⟩, List.forall_mem_cons.mpr ⟨⟨Nat.le_of_ble_eq_true rfl, Nat.le_of_ble_eq_true rfl, cr_RX11_160⟩, List.forall_mem_cons.mpr ⟨⟨Nat.le_of_ble_eq_true rfl, Nat.le_of_ble_eq_true rfl, cr_RX11_193⟩, fun _ h => absurd h List.not_mem_nil⟩⟩⟩⟩
set_option maxRecDepth 100000 in
theorem vc_X11_lays {K : Int32 → AH → Prop} {h : AH} (p1 : Int32) (p2 : Int32) (p3 : Int32) (p4 : Int32) (H : S_X11_isCell p1 h (fun x2 h1 => ((x2 = 0) → K (iI (-1)) h1) ∧ (¬ (x2 = 0) → S_X11_isIn p2 (nI 0) (nI 9) h1 (fun x4 h3 => ((x4 = 0) → K (iI (-1)) h3) ∧ (¬ (x4 = 0) → S_X11_isIn p3 (nI 0) (nI 9) h3 (fun x6 h5 => ((x6 = 0) → K (iI (-1)) h5) ∧ (¬ (x6 = 0) → S_X11_isIn p4 (nI 0) (nI 9) h5 (fun x8 h7 => ((¬ x8 = 0) → S_X11_atCell p1 (nI 0) h7 (fun x10 h9 => inR x10 62 ∧ S_X11_atCell p1 (nI 0) h9 (fun x12 h11 => inR x12 62 ∧ S_X11_atCell p1 (nI 1) (wI h11 16 0 x12.toNatClampNeg p2) (fun x14 h13 => inR x14 62 ∧ S_X11_atCell p1 (nI 2) (wI h13 16 0 x14.toNatClampNeg p3) (fun x16 h15 => inR x16 62 ∧ K (h9.1 16 0 x10.toNatClampNeg) (wI h15 16 0 x16.toNatClampNeg p4)))))) ∧ (¬ (¬ x8 = 0) → K (iI (-1)) h7))))))))) : AW M_X11_lays (.inl K) 0 [some (aR 15 0), some (aI p1), some (aI p2), some (aI p3), some (aI p4), none] [] h 0 0 := AW_go (cuts := []) ok_X11_lays 400 H

theorem snd_X11_lays (c b s n : Int32) {h : AH} {K : Int32 → AH → Prop} (k : S_X11_lays c b s n h K) : AW M_X11_lays (.inl K) 0 [some (aR 15 0), some (aI c), some (aI b), some (aI s), some (aI n), none] [] h 0 0 := by
  obtain ⟨V, hr, hw, k⟩ := k
  refine vc_X11_lays c b s n ?_
  obtain ⟨e0, -⟩ := RVs hr
  unfold S_X11_isIn S_X11_isCell
  simp only [if10_eq]
  unfold M_lays at k
  refine ⟨fun q => ?_, fun q => ⟨fun q2 => ?_, fun q2 => ⟨fun q3 => ?_, fun q3 => ⟨fun q4 => ?_, fun q4 => ?_⟩⟩⟩⟩
  · rw [if_neg (fun z => q z.1)] at k; exact k h (only_rfl ..) hr
  · rw [if_neg (fun z => q2 z.2.1)] at k; exact k h (only_rfl ..) hr
  · rw [if_neg (fun z => q3 z.2.2.1)] at k; exact k h (only_rfl ..) hr
  · have q := Decidable.not_not.mp q
    have q2 := Decidable.not_not.mp q2
    have q3 := Decidable.not_not.mp q3
    have q4 := Decidable.not_not.mp q4
    rw [if_pos ⟨q, q2, q3, q4⟩] at k
    obtain ⟨m, hm, rfl⟩ := in8_iff.mp q
    obtain ⟨i, hi, rfl⟩ := (in_n (by omega)).mp q2
    obtain ⟨j, hj, rfl⟩ := (in_n (by omega)).mp q3
    obtain ⟨l, hl, rfl⟩ := (in_n (by omega)).mp q4
    unfold nN at k
    rw [n_cl (show m < 2147483648 by omega), n_cl (show i < 2147483648 by omega), n_cl (show j < 2147483648 by omega), n_cl (show l < 2147483648 by omega)] at k
    simp (disch := omega) only [S_X11_atCell, pk_mul, nI_add, n_inT, n_cl, true_and, e0]
    have f1 : WF (uV V 0 m i) := WF_u hw (by omega) (fun _ => by omega) (by omega) (by omega) (by omega) (by omega) (by omega)
    have f2 : WF (uV (uV V 0 m i) 1 m j) := WF_u f1 (by omega) (fun _ => by omega) (by omega) (by omega) (by omega) (by omega) (by omega)
    exact k _ (only_tr (only_tr (only_wI ..) (only_wI ..)) (only_wI ..)) (RV_set f2 (RV_set f1 (RV_set hw hr (t := 0) (i := m) (by omega) hm) (t := 1) (i := m) (by omega) hm) (t := 2) (i := m) (by omega) hm)
  · rw [if_neg (fun z => q4 (fun y => y z.2.2.2))] at k; exact k h (only_rfl ..) hr
theorem tr_X11_lays : ∀ (as : List AV) (h : AH) (K : Int32 → AH → Prop), T_X11_lays as h K → ∃ (q : Nat) (r : List AV), as = aR 15 q :: r := by
  intro as h K hk
  match as, hk with
  | [.inr (.inr (.inl q0)), .inl q1, .inl q2, .inl q3, .inl q4], hk =>
    obtain ⟨hb, hk⟩ := tif_inv hk
    simp only [Bool.and_eq_true] at hb
    obtain ⟨e0, e1⟩ := hb
    obtain ⟨a0, b0⟩ := q0
    have f0 : a0 = 15 := Nat.eq_of_beq_eq_true e0
    subst f0
    have f1 : b0 = 0 := Nat.eq_of_beq_eq_true e1
    subst f1
    exact ⟨_, _, rfl⟩
theorem tw_X11_lays : ∀ (as : List AV) (h : AH) (K : Int32 → AH → Prop), T_X11_lays as h K → (ini as).length ≤ mNL M_X11_lays ∧ AW M_X11_lays (.inl K) 0 (initL (mNL M_X11_lays) as) [] h 0 0 := by
  intro as h K hk
  match as, hk with
  | [.inr (.inr (.inl q0)), .inl q1, .inl q2, .inl q3, .inl q4], hk =>
    obtain ⟨hb, hk⟩ := tif_inv hk
    simp only [Bool.and_eq_true] at hb
    obtain ⟨e0, e1⟩ := hb
    obtain ⟨a0, b0⟩ := q0
    have f0 : a0 = 15 := Nat.eq_of_beq_eq_true e0
    subst f0
    have f1 : b0 = 0 := Nat.eq_of_beq_eq_true e1
    subst f1
    exact ⟨Nat.le_of_ble_eq_true rfl, snd_X11_lays q1 q2 q3 q4 hk⟩

def sm (f : Nat → Nat) : Nat → Nat
  | 0 => 0
  | k + 1 => sm f k + f k
def R_count (V : Vm) (w : Int32) : Int32 := if nI 0 ≤ w ∧ w ≤ nI 3 then nI (V 10 (nN w)) else if w = nI 4 then nI (sm (V 0) 8) else if w = nI 5 then nI (sm (V 1) 8) else if w = nI 6 then nI (sm (V 3) 4) else if w = nI 7 then nI (sm (V 5) (V 10 0)) else iI (-1)
def S_X11_count (w : Int32) (h : AH) (K : Int32 → AH → Prop) : Prop := ∃ V, RV (h.1 16 0) V ∧ WF V ∧ K (R_count V w) h
def T_X11_count : List AV → AH → (Int32 → AH → Prop) → Prop := fun as h K => match as with
  | [.inr (.inr (.inl q0)), .inl q1] => tif (Nat.beq q0.1 15 && Nat.beq q0.2 0) (S_X11_count q1 h K)
  | _ => False

def M_X11_count : MI := (RX11, cX11_count, 4, [(0, .iload_n 1, []), (1, .iconst 0, []), (2, .iconst 3, []), (3, .invokestatic 53, []), (6, .ifCond .eq 10, [16]), (9, .aload_n 0, []), (10, .getfield 9, []), (13, .iload_n 1, []), (14, .iaload, []), (15, .ireturn, []), (16, .iload_n 1, []), (17, .iconst 4, []), (18, .bipush 7, []), (20, .invokestatic 53, []), (23, .ifCond .ne 5, [28]), (26, .iconst (-1), []), (27, .ireturn, []), (28, .iconst 0, []), (29, .istore_n 2, []), (30, .iconst 0, []), (31, .istore_n 3, []), (32, .iload_n 3, []), (33, .bipush 8, []), (35, .if_icmp .ge 30, [65]), (38, .iload_n 1, []), (39, .bipush 6, []), (41, .if_icmp .ge 24, [65]), (44, .iload_n 2, []), (45, .aload_n 0, []), (46, .getfield 9, []), (49, .iload_n 3, []), (50, .iload_n 1, []), (51, .iconst 4, []), (52, .isub, []), (53, .invokestatic 64, []), (56, .iaload, []), (57, .iadd, []), (58, .istore_n 2, []), (59, .iinc 3 1, []), (62, .goto (-30), [32]), (65, .iconst 0, []), (66, .istore_n 3, []), (67, .iload_n 3, []), (68, .iconst 4, []), (69, .if_icmp .ge 27, [96]), (72, .iload_n 1, []), (73, .bipush 6, []), (75, .if_icmp .ne 21, [96]), (78, .iload_n 2, []), (79, .aload_n 0, []), (80, .getfield 9, []), (83, .bipush 44, []), (85, .iload_n 3, []), (86, .iadd, []), (87, .iaload, []), (88, .iadd, []), (89, .istore_n 2, []), (90, .iinc 3 1, []), (93, .goto (-26), [67]), (96, .iconst 0, []), (97, .istore_n 3, []), (98, .iload_n 3, []), (99, .aload_n 0, []), (100, .getfield 9, []), (103, .iconst 0, []), (104, .iaload, []), (105, .if_icmp .ge 28, [133]), (108, .iload_n 1, []), (109, .bipush 7, []), (111, .if_icmp .ne 22, [133]), (114, .iload_n 2, []), (115, .aload_n 0, []), (116, .getfield 9, []), (119, .iload_n 3, []), (120, .iconst 1, []), (121, .invokestatic 75, []), (124, .iaload, []), (125, .iadd, []), (126, .istore_n 2, []), (127, .iinc 3 1, []), (130, .goto (-32), [98]), (133, .iload_n 2, []), (134, .ireturn, [])], [(9, (15, 0, 1, 16, 0))], [], [], [(160, (3, 1, 22, 0, 0, .inl T_X11_isIn)), (193, (2, 1, 21, 0, 0, .inl T_X11_atCell)), (226, (2, 1, 21, 0, 0, .inl T_X11_atEagle))], 1, 22, 0, 0)
theorem ok_X11_count : MOK M_X11_count := ⟨by decide +kernel, List.forall_mem_cons.mpr ⟨fl_RX11_9, fun _ h => absurd h List.not_mem_nil⟩, fun _ h => absurd h List.not_mem_nil, fun _ h => absurd h List.not_mem_nil, List.forall_mem_cons.mpr ⟨⟨Nat.le_of_ble_eq_true rfl, Nat.le_of_ble_eq_true rfl, cr_RX11_160⟩, List.forall_mem_cons.mpr ⟨⟨Nat.le_of_ble_eq_true rfl, Nat.le_of_ble_eq_true rfl, cr_RX11_193⟩, List.forall_mem_cons.mpr ⟨⟨Nat.le_of_ble_eq_true rfl, Nat.le_of_ble_eq_true rfl, cr_RX11_226⟩, fun _ h => absurd h List.not_mem_nil⟩⟩⟩⟩
set_option maxRecDepth 100000 in
theorem vc_X11_count {K : Int32 → AH → Prop} {h : AH} (p1 : Int32) (H : S_X11_isIn p1 (nI 0) (nI 3) h (fun x2 h1 => ((x2 = 0) → S_X11_isIn p1 (nI 4) (nI 7) h1 (fun x4 h3 => ((¬ x4 = 0) → AW M_X11_count (.inl K) 32 [some (aR 15 0), some (aI p1), some (aI (nI 0)), some (aI (nI 0))] [] h3 0 0) ∧ (¬ (¬ x4 = 0) → K (iI (-1)) h3))) ∧ (¬ (x2 = 0) → inR p1 62 ∧ K (h1.1 16 0 p1.toNatClampNeg) h1))) : AW M_X11_count (.inl K) 0 [some (aR 15 0), some (aI p1), none, none] [] h 0 0 := AW_go (cuts := [(32, [true, true, true, true]), (67, [true, true, true, true]), (98, [true, true, true, true])]) ok_X11_count 400 H
set_option maxRecDepth 100000 in
theorem vc_X11_count_32 {K : Int32 → AH → Prop} {h : AH}  (l1 : Int32) (l2 : Int32) (l3 : Int32) (H : (((nI 8) ≤ l3) → AW M_X11_count (.inl K) 67 [some (aR 15 0), some (aI l1), some (aI l2), some (aI (nI 0))] [] h 0 0) ∧ (¬ ((nI 8) ≤ l3) → (((nI 6) ≤ l1) → AW M_X11_count (.inl K) 67 [some (aR 15 0), some (aI l1), some (aI l2), some (aI (nI 0))] [] h 0 0) ∧ (¬ ((nI 6) ≤ l1) → S_X11_atCell l3 (l1 - (nI 4)) h (fun x2 h1 => inR x2 62 ∧ AW M_X11_count (.inl K) 32 [some (aR 15 0), some (aI l1), some (aI (l2 + (h1.1 16 0 x2.toNatClampNeg))), some (aI (l3 + (nI 1)))] [] h1 0 0)))) : AW M_X11_count (.inl K) 32 [some (aR 15 0), some (aI l1), some (aI l2), some (aI l3)] [] h 0 0 := AW_go (cuts := [(32, [true, true, true, true]), (67, [true, true, true, true]), (98, [true, true, true, true])]) ok_X11_count 400 H
set_option maxRecDepth 100000 in
theorem vc_X11_count_67 {K : Int32 → AH → Prop} {h : AH}  (l1 : Int32) (l2 : Int32) (l3 : Int32) (H : (((nI 4) ≤ l3) → AW M_X11_count (.inl K) 98 [some (aR 15 0), some (aI l1), some (aI l2), some (aI (nI 0))] [] h 0 0) ∧ (¬ ((nI 4) ≤ l3) → ((¬ l1 = (nI 6)) → AW M_X11_count (.inl K) 98 [some (aR 15 0), some (aI l1), some (aI l2), some (aI (nI 0))] [] h 0 0) ∧ (¬ (¬ l1 = (nI 6)) → inR ((nI 44) + l3) 62 ∧ AW M_X11_count (.inl K) 67 [some (aR 15 0), some (aI l1), some (aI (l2 + (h.1 16 0 ((nI 44) + l3).toNatClampNeg))), some (aI (l3 + (nI 1)))] [] h 0 0))) : AW M_X11_count (.inl K) 67 [some (aR 15 0), some (aI l1), some (aI l2), some (aI l3)] [] h 0 0 := AW_go (cuts := [(32, [true, true, true, true]), (67, [true, true, true, true]), (98, [true, true, true, true])]) ok_X11_count 400 H
set_option maxRecDepth 100000 in
theorem vc_X11_count_98 {K : Int32 → AH → Prop} {h : AH}  (l1 : Int32) (l2 : Int32) (l3 : Int32) (H : inR (nI 0) 62 ∧ (((h.1 16 0 (nI 0).toNatClampNeg) ≤ l3) → K l2 h) ∧ (¬ ((h.1 16 0 (nI 0).toNatClampNeg) ≤ l3) → ((¬ l1 = (nI 7)) → K l2 h) ∧ (¬ (¬ l1 = (nI 7)) → S_X11_atEagle l3 (nI 1) h (fun x2 h1 => inR x2 62 ∧ AW M_X11_count (.inl K) 98 [some (aR 15 0), some (aI l1), some (aI (l2 + (h1.1 16 0 x2.toNatClampNeg))), some (aI (l3 + (nI 1)))] [] h1 0 0)))) : AW M_X11_count (.inl K) 98 [some (aR 15 0), some (aI l1), some (aI l2), some (aI l3)] [] h 0 0 := AW_go (cuts := [(32, [true, true, true, true]), (67, [true, true, true, true]), (98, [true, true, true, true])]) ok_X11_count 400 H

theorem in47 {x : Int32} : (nI 4 ≤ x ∧ x ≤ nI 7) ↔ x = nI 4 ∨ x = nI 5 ∨ x = nI 6 ∨ x = nI 7 := by
  constructor
  · rintro ⟨h1, h2⟩
    have h0 : nI 0 ≤ x := Int32.le_iff_toInt_le.mpr (by have := Int32.le_iff_toInt_le.mp h1; rw [n_toInt (by omega)] at this ⊢; omega)
    obtain ⟨k, hk, rfl⟩ := n_of (by omega) h0 h2
    have := (n_le (by omega) (by omega)).mp h1
    rcases (show k = 4 ∨ k = 5 ∨ k = 6 ∨ k = 7 by omega) with rfl | rfl | rfl | rfl
    · exact Or.inl rfl
    · exact Or.inr (Or.inl rfl)
    · exact Or.inr (Or.inr (Or.inl rfl))
    · exact Or.inr (Or.inr (Or.inr rfl))
  · rintro (rfl | rfl | rfl | rfl) <;> decide
theorem lp_X11_count3 {V : Vm} {w : Nat} {v : Int32} {h : AH} {K : Int32 → AH → Prop} (hr : RV (h.1 16 0) V) (hw : WF V) (hq : w = 4 ∨ w = 5 ∨ w = 6) (k : K v h) : AW M_X11_count (.inl K) 98 [some (aR 15 0), some (aI (nI w)), some (aI v), some (aI (nI 0))] [] h 0 0 := by
  have h4 := hw.1
  refine vc_X11_count_98 (nI w) v (nI 0) ?_
  obtain ⟨-, -, -, -, -, -, -, -, -, -, e0, -⟩ := RVs hr
  simp (disch := omega) only [n_inT, n_cl, true_and, e0, n_le, n_eq]
  exact ⟨fun _ => k, fun _ => ⟨fun _ => k, fun q => absurd (by omega) q⟩⟩
theorem snd_X11_count (w : Int32) {h : AH} {K : Int32 → AH → Prop} (k : S_X11_count w h K) : AW M_X11_count (.inl K) 0 [some (aR 15 0), some (aI w), none, none] [] h 0 0 := by
  obtain ⟨V, hr, hw, k⟩ := k
  have h4 := hw.1
  refine vc_X11_count w ?_
  unfold S_X11_isIn
  simp only [if10_eq]
  unfold R_count at k
  obtain ⟨e0, e1, -, e3, -, e5, -, -, -, -, en, -⟩ := RVs hr
  refine ⟨fun q => ⟨fun q2 => ?_, fun q2 => ?_⟩, fun q => ?_⟩
  · rw [if_neg q] at k
    have pass2 : ∀ (v : Int32) (i : Nat), (i = 4 ∨ i = 5 ∨ i = 7) → AW M_X11_count (.inl K) 98 [some (aR 15 0), some (aI (nI i)), some (aI v), some (aI (nI 0))] [] h 0 0 → AW M_X11_count (.inl K) 67 [some (aR 15 0), some (aI (nI i)), some (aI v), some (aI (nI 0))] [] h 0 0 := by
      intro v i hi ka
      refine vc_X11_count_67 (nI i) v (nI 0) ?_
      simp (disch := omega) only [n_le, n_eq]
      exact ⟨fun _ => ka, fun _ => ⟨fun _ => ka, fun z => absurd (by omega) z⟩⟩
    have loop1 : ∀ (i : Nat), (i = 4 ∨ i = 5) → K (nI (sm (V (i - 4)) 8)) h → ∀ r c, c + r = 8 → AW M_X11_count (.inl K) 32 [some (aR 15 0), some (aI (nI i)), some (aI (nI (sm (V (i - 4)) c))), some (aI (nI c))] [] h 0 0 := by
      intro i hi ka r
      induction r with
      | zero =>
        intro c hc
        refine vc_X11_count_32 (nI i) _ (nI c) ?_
        have : c = 8 := by omega
        subst this
        have fin := pass2 (nI (sm (V (i - 4)) 8)) i (by omega) (lp_X11_count3 hr hw (by omega) ka)
        simp (disch := omega) only [n_le]
        exact ⟨fun _ => fin, fun z => absurd (by omega) z⟩
      | succ r ih =>
        intro c hc
        refine vc_X11_count_32 (nI i) _ (nI c) ?_
        have := ih (c + 1) (by omega)
        rw [sm] at this
        simp (disch := omega) only [n_le, n_sub, S_X11_atCell, pk_mul, nI_add, n_inT, n_cl, true_and]
        refine ⟨fun z => by omega, fun _ => ⟨fun z => by omega, fun _ => ?_⟩⟩
        have er : h.1 16 0 (4 + 3 * c + (i - 4)) = nI (V (i - 4) c) := by
          rcases hi with rfl | rfl
          · exact e0 c (by omega)
          · exact e1 c (by omega)
        rw [er, nI_add]
        exact this
    have skip1 : ∀ (v : Int32) (i : Nat), (i = 6 ∨ i = 7) → AW M_X11_count (.inl K) 67 [some (aR 15 0), some (aI (nI i)), some (aI v), some (aI (nI 0))] [] h 0 0 → AW M_X11_count (.inl K) 32 [some (aR 15 0), some (aI (nI i)), some (aI v), some (aI (nI 0))] [] h 0 0 := by
      intro v i hi ka
      refine vc_X11_count_32 (nI i) v (nI 0) ?_
      simp (disch := omega) only [n_le]
      exact ⟨fun _ => ka, fun _ => ⟨fun _ => ka, fun z => absurd (by omega) z⟩⟩
    rcases in47.mp (Decidable.not_not.mp q2) with rfl | rfl | rfl | rfl
    · rw [if_pos rfl] at k
      exact loop1 4 (by omega) k 8 0 (by omega)
    · rw [if_neg (by decide), if_pos rfl] at k
      exact loop1 5 (by omega) k 8 0 (by omega)
    · rw [if_neg (by decide), if_neg (by decide), if_pos rfl] at k
      refine skip1 _ 6 (by omega) ?_
      have loop2 : ∀ r c, c + r = 4 → AW M_X11_count (.inl K) 67 [some (aR 15 0), some (aI (nI 6)), some (aI (nI (sm (V 3) c))), some (aI (nI c))] [] h 0 0 := by
        intro r
        induction r with
        | zero =>
          intro c hc
          refine vc_X11_count_67 (nI 6) _ (nI c) ?_
          have : c = 4 := by omega
          subst this
          have fin := lp_X11_count3 (w := 6) hr hw (by omega) k
          simp (disch := omega) only [n_le]
          exact ⟨fun _ => fin, fun z => absurd (by omega) z⟩
        | succ r ih =>
          intro c hc
          refine vc_X11_count_67 (nI 6) _ (nI c) ?_
          have := ih (c + 1) (by omega)
          rw [sm] at this
          simp (disch := omega) only [n_le, nI_add, n_inT, n_cl, true_and, e3]
          exact ⟨fun z => by omega, fun _ => ⟨fun z => absurd trivial z, fun _ => this⟩⟩
      exact loop2 4 0 (by omega)
    · rw [if_neg (by decide), if_neg (by decide), if_neg (by decide), if_pos rfl] at k
      refine skip1 _ 7 (by omega) (pass2 _ 7 (by omega) ?_)
      have loop3 : ∀ r c, c + r = V 10 0 → AW M_X11_count (.inl K) 98 [some (aR 15 0), some (aI (nI 7)), some (aI (nI (sm (V 5) c))), some (aI (nI c))] [] h 0 0 := by
        intro r
        induction r with
        | zero =>
          intro c hc
          refine vc_X11_count_98 (nI 7) _ (nI c) ?_
          have : c = V 10 0 := by omega
          subst this
          simp (disch := omega) only [n_inT, n_cl, true_and, en, n_le]
          exact ⟨fun _ => k, fun z => absurd (by omega) z⟩
        | succ r ih =>
          intro c hc
          refine vc_X11_count_98 (nI 7) _ (nI c) ?_
          have := ih (c + 1) (by omega)
          rw [sm] at this
          simp (disch := omega) only [n_inT, n_cl, true_and, en, n_le, S_X11_atEagle, pk_mul, nI_add, e5]
          exact ⟨fun z => by omega, fun _ => ⟨fun z => absurd trivial z, fun _ => this⟩⟩
      exact loop3 (V 10 0) 0 (by omega)
  · rw [if_neg q] at k
    have hn := fun z => q2 (fun y => y (in47.mpr z))
    rw [if_neg (fun z => hn (Or.inl z)), if_neg (fun z => hn (Or.inr (Or.inl z))), if_neg (fun z => hn (Or.inr (Or.inr (Or.inl z)))), if_neg (fun z => hn (Or.inr (Or.inr (Or.inr z))))] at k
    exact k
  · have q := Decidable.not_not.mp q
    rw [if_pos q] at k
    obtain ⟨i, hi, rfl⟩ := (in_n (by omega)).mp q
    unfold nN at k
    rw [n_cl (by omega)] at k
    simp (disch := omega) only [n_inT, n_cl, true_and]
    have := hr 10 i (show i < 4 by omega)
    rw [show ro 10 i = i from rfl] at this
    rw [this]
    exact k
theorem tr_X11_count : ∀ (as : List AV) (h : AH) (K : Int32 → AH → Prop), T_X11_count as h K → ∃ (q : Nat) (r : List AV), as = aR 15 q :: r := by
  intro as h K hk
  match as, hk with
  | [.inr (.inr (.inl q0)), .inl q1], hk =>
    obtain ⟨hb, hk⟩ := tif_inv hk
    simp only [Bool.and_eq_true] at hb
    obtain ⟨e0, e1⟩ := hb
    obtain ⟨a0, b0⟩ := q0
    have f0 : a0 = 15 := Nat.eq_of_beq_eq_true e0
    subst f0
    have f1 : b0 = 0 := Nat.eq_of_beq_eq_true e1
    subst f1
    exact ⟨_, _, rfl⟩
theorem tw_X11_count : ∀ (as : List AV) (h : AH) (K : Int32 → AH → Prop), T_X11_count as h K → (ini as).length ≤ mNL M_X11_count ∧ AW M_X11_count (.inl K) 0 (initL (mNL M_X11_count) as) [] h 0 0 := by
  intro as h K hk
  match as, hk with
  | [.inr (.inr (.inl q0)), .inl q1], hk =>
    obtain ⟨hb, hk⟩ := tif_inv hk
    simp only [Bool.and_eq_true] at hb
    obtain ⟨e0, e1⟩ := hb
    obtain ⟨a0, b0⟩ := q0
    have f0 : a0 = 15 := Nat.eq_of_beq_eq_true e0
    subst f0
    have f1 : b0 = 0 := Nat.eq_of_beq_eq_true e1
    subst f1
    exact ⟨Nat.le_of_ble_eq_true rfl, snd_X11_count q1 hk⟩

def onlyIm (h h' : AH) : Prop := h'.2 = h.2 ∧ ∀ a b i, ¬ (a = 16 ∧ b = 3) → ¬ (a = 15 ∧ i = 5) → h'.1 a b i = h.1 a b i
def S_X11_image (h : AH) (K : Int32 → AH → Prop) : Prop := ∃ V, RV (h.1 16 0) V ∧ WF V ∧ ∀ h', onlyIm h h' → RV (h'.1 16 3) V → h'.1 15 0 5 = nI 1 → K (nI (V 10 2)) h'
def T_X11_image : List AV → AH → (Int32 → AH → Prop) → Prop := fun as h K => match as with
  | [.inr (.inr (.inl q0))] => tif (Nat.beq q0.1 15 && Nat.beq q0.2 0) (S_X11_image h K)
  | _ => False

def M_X11_image : MI := (RX11, cX11_image, 1, [(0, .aload_n 0, []), (1, .getfield 9, []), (4, .aload_n 0, []), (5, .getfield 19, []), (8, .invokestatic 148, []), (11, .aload_n 0, []), (12, .iconst 1, []), (13, .putfield 241, []), (16, .aload_n 0, []), (17, .getfield 9, []), (20, .iconst 2, []), (21, .iaload, []), (22, .ireturn, [])], [(9, (15, 0, 1, 16, 0)), (19, (15, 3, 1, 16, 3)), (241, (15, 5, 3, 0, 0))], [], [], [(445, (2, 1, 22, 0, 0, .inr (.inl T_X11_copies)))], 1, 22, 0, 0)
theorem ok_X11_image : MOK M_X11_image := ⟨by decide +kernel, List.forall_mem_cons.mpr ⟨fl_RX11_9, List.forall_mem_cons.mpr ⟨fl_RX11_19, List.forall_mem_cons.mpr ⟨fl_RX11_241, fun _ h => absurd h List.not_mem_nil⟩⟩⟩, fun _ h => absurd h List.not_mem_nil, fun _ h => absurd h List.not_mem_nil, List.forall_mem_cons.mpr ⟨⟨Nat.le_of_ble_eq_true rfl, Nat.le_of_ble_eq_true rfl, cr_RX11_445⟩, fun _ h => absurd h List.not_mem_nil⟩⟩
set_option maxRecDepth 100000 in
theorem vc_X11_image {K : Int32 → AH → Prop} {h : AH}  (H : S_X11_copies 0 3 h (fun h1 => ((nI 1) = 0 ∨ (nI 1) = 1) ∧ inR (nI 2) 62 ∧ K ((wI h1 15 0 5 (nI 1)).1 16 0 (nI 2).toNatClampNeg) (wI h1 15 0 5 (nI 1)))) : AW M_X11_image (.inl K) 0 [some (aR 15 0)] [] h 0 0 := AW_go (cuts := []) ok_X11_image 400 H

theorem snd_X11_image {h : AH} {K : Int32 → AH → Prop} (k : S_X11_image h K) : AW M_X11_image (.inl K) 0 [some (aR 15 0)] [] h 0 0 := by
  obtain ⟨V, hr, hw, k⟩ := k
  refine vc_X11_image ⟨by decide, fun h1 o1 c1 => ⟨by decide, ?_⟩⟩
  have e2 : h1.1 16 0 2 = nI (V 10 2) := by
    rw [o1.2 16 0 (by omega)]
    exact (RVs hr).2.2.2.2.2.2.2.2.2.2.2.2.1
  simp (disch := omega) only [n_inT, n_cl, true_and]
  rw [uI_nt (by omega), e2]
  refine k _ ⟨o1.1, fun a b i q1 q2 => ?_⟩ ?_ (wI_at ..)
  · show uI h1.1 15 0 5 (nI 1) a b i = _
    unfold uI
    rw [if_neg (fun z => q2 ⟨z.1, z.2.2⟩), o1.2 a b q1]
  · have : (wI h1 15 0 5 (nI 1)).1 16 3 = h1.1 16 3 := funext fun i => wI_nt (h := h1) (t := 15) (p := 0) (i := 5) (x := nI 1) (a := 16) (b := 3) (j := i) (by omega)
    rw [this]
    exact RV_cp hw hr c1
theorem tr_X11_image : ∀ (as : List AV) (h : AH) (K : Int32 → AH → Prop), T_X11_image as h K → ∃ (q : Nat) (r : List AV), as = aR 15 q :: r := by
  intro as h K hk
  match as, hk with
  | [.inr (.inr (.inl q0))], hk =>
    obtain ⟨hb, hk⟩ := tif_inv hk
    simp only [Bool.and_eq_true] at hb
    obtain ⟨e0, e1⟩ := hb
    obtain ⟨a0, b0⟩ := q0
    have f0 : a0 = 15 := Nat.eq_of_beq_eq_true e0
    subst f0
    have f1 : b0 = 0 := Nat.eq_of_beq_eq_true e1
    subst f1
    exact ⟨_, _, rfl⟩
theorem tw_X11_image : ∀ (as : List AV) (h : AH) (K : Int32 → AH → Prop), T_X11_image as h K → (ini as).length ≤ mNL M_X11_image ∧ AW M_X11_image (.inl K) 0 (initL (mNL M_X11_image) as) [] h 0 0 := by
  intro as h K hk
  match as, hk with
  | [.inr (.inr (.inl q0))], hk =>
    obtain ⟨hb, hk⟩ := tif_inv hk
    simp only [Bool.and_eq_true] at hb
    obtain ⟨e0, e1⟩ := hb
    obtain ⟨a0, b0⟩ := q0
    have f0 : a0 = 15 := Nat.eq_of_beq_eq_true e0
    subst f0
    have f1 : b0 = 0 := Nat.eq_of_beq_eq_true e1
    subst f1
    exact ⟨Nat.le_of_ble_eq_true rfl, snd_X11_image  hk⟩

def S_X11_restore (h : AH) (K : Int32 → AH → Prop) : Prop := (h.1 15 0 5 = 0 → K (iI (-3)) h) ∧ (¬ h.1 15 0 5 = 0 → ∃ V, RV (h.1 16 3) V ∧ WF V ∧ ∀ h', only 16 0 h h' → RV (h'.1 16 0) V → K (nI (V 10 2)) h')
def T_X11_restore : List AV → AH → (Int32 → AH → Prop) → Prop := fun as h K => match as with
  | [.inr (.inr (.inl q0))] => tif (Nat.beq q0.1 15 && Nat.beq q0.2 0) (S_X11_restore h K)
  | _ => False

def M_X11_restore : MI := (RX11, cX11_restore, 1, [(0, .aload_n 0, []), (1, .getfield 241, []), (4, .ifCond .ne 6, [10]), (7, .bipush (-3), []), (9, .ireturn, []), (10, .aload_n 0, []), (11, .getfield 19, []), (14, .aload_n 0, []), (15, .getfield 9, []), (18, .invokestatic 148, []), (21, .aload_n 0, []), (22, .getfield 9, []), (25, .iconst 2, []), (26, .iaload, []), (27, .ireturn, [])], [(241, (15, 5, 3, 0, 0)), (19, (15, 3, 1, 16, 3)), (9, (15, 0, 1, 16, 0))], [], [], [(445, (2, 1, 22, 0, 0, .inr (.inl T_X11_copies)))], 1, 22, 0, 0)
theorem ok_X11_restore : MOK M_X11_restore := ⟨by decide +kernel, List.forall_mem_cons.mpr ⟨fl_RX11_241, List.forall_mem_cons.mpr ⟨fl_RX11_19, List.forall_mem_cons.mpr ⟨fl_RX11_9, fun _ h => absurd h List.not_mem_nil⟩⟩⟩, fun _ h => absurd h List.not_mem_nil, fun _ h => absurd h List.not_mem_nil, List.forall_mem_cons.mpr ⟨⟨Nat.le_of_ble_eq_true rfl, Nat.le_of_ble_eq_true rfl, cr_RX11_445⟩, fun _ h => absurd h List.not_mem_nil⟩⟩
set_option maxRecDepth 100000 in
theorem vc_X11_restore {K : Int32 → AH → Prop} {h : AH}  (H : ((¬ (h.1 15 0 5) = 0) → S_X11_copies 3 0 h (fun h1 => inR (nI 2) 62 ∧ K (h1.1 16 0 (nI 2).toNatClampNeg) h1)) ∧ (¬ (¬ (h.1 15 0 5) = 0) → K (iI (-3)) h)) : AW M_X11_restore (.inl K) 0 [some (aR 15 0)] [] h 0 0 := AW_go (cuts := []) ok_X11_restore 400 H

theorem snd_X11_restore {h : AH} {K : Int32 → AH → Prop} (k : S_X11_restore h K) : AW M_X11_restore (.inl K) 0 [some (aR 15 0)] [] h 0 0 := by
  obtain ⟨k1, k2⟩ := k
  refine vc_X11_restore ⟨fun q => ⟨by decide, fun h1 o1 c1 => ?_⟩, fun q => k1 (Decidable.not_not.mp q)⟩
  obtain ⟨V, hr, hw, k⟩ := k2 q
  have hr1 := RV_cp hw hr c1
  have e2 := (RVs hr1).2.2.2.2.2.2.2.2.2.2.2.2.1
  simp (disch := omega) only [n_inT, n_cl, true_and, e2]
  exact k h1 o1 hr1
theorem tr_X11_restore : ∀ (as : List AV) (h : AH) (K : Int32 → AH → Prop), T_X11_restore as h K → ∃ (q : Nat) (r : List AV), as = aR 15 q :: r := by
  intro as h K hk
  match as, hk with
  | [.inr (.inr (.inl q0))], hk =>
    obtain ⟨hb, hk⟩ := tif_inv hk
    simp only [Bool.and_eq_true] at hb
    obtain ⟨e0, e1⟩ := hb
    obtain ⟨a0, b0⟩ := q0
    have f0 : a0 = 15 := Nat.eq_of_beq_eq_true e0
    subst f0
    have f1 : b0 = 0 := Nat.eq_of_beq_eq_true e1
    subst f1
    exact ⟨_, _, rfl⟩
theorem tw_X11_restore : ∀ (as : List AV) (h : AH) (K : Int32 → AH → Prop), T_X11_restore as h K → (ini as).length ≤ mNL M_X11_restore ∧ AW M_X11_restore (.inl K) 0 (initL (mNL M_X11_restore) as) [] h 0 0 := by
  intro as h K hk
  match as, hk with
  | [.inr (.inr (.inl q0))], hk =>
    obtain ⟨hb, hk⟩ := tif_inv hk
    simp only [Bool.and_eq_true] at hb
    obtain ⟨e0, e1⟩ := hb
    obtain ⟨a0, b0⟩ := q0
    have f0 : a0 = 15 := Nat.eq_of_beq_eq_true e0
    subst f0
    have f1 : b0 = 0 := Nat.eq_of_beq_eq_true e1
    subst f1
    exact ⟨Nat.le_of_ble_eq_true rfl, snd_X11_restore  hk⟩
end
section
/-! ===== the reference's shelves ===== -/
abbrev Sm : Type := (Nat → Nat → Nat) × (Nat → Nat → Int32)
def MSh (h : AH) (S : Sm) : Prop := ∀ d, d < 8 → h.1 21 0 d = nI (S.1 0 d) ∧ (S.1 0 d = 1 → h.1 21 1 d = nI (S.1 1 d) ∧ h.1 21 2 d = nI (S.1 2 d)) ∧ (S.1 0 d = 2 → h.1 21 3 d = nI (S.1 3 d) ∧ h.1 21 4 d = nI (S.1 4 d) ∧ ∀ i, i < 100 → h.1 22 0 (100 * d + i) = S.2 d i)
def WS (S : Sm) : Prop := ∀ d, d < 8 → S.1 0 d ≤ 2 ∧ (S.1 0 d = 1 → S.1 1 d ≤ 7 ∧ S.1 2 d ≤ 9) ∧ (S.1 0 d = 2 → S.1 3 d ≤ 2 ∧ S.1 4 d ≤ 100)
theorem MSh_eq {h h' : AH} {S : Sm} (h1 : ∀ b i, h'.1 21 b i = h.1 21 b i) (h2 : ∀ i, h'.1 22 0 i = h.1 22 0 i) (k : MSh h S) : MSh h' S := by
  intro d hd
  obtain ⟨a, b, c⟩ := k d hd
  refine ⟨by rw [h1, a], fun q => ?_, fun q => ?_⟩
  · rw [h1, h1]; exact b q
  · obtain ⟨c1, c2, c3⟩ := c q
    exact ⟨by rw [h1, c1], by rw [h1, c2], fun i hi => by rw [h2, c3 i hi]⟩
theorem MSh_keep {h h' : AH} {S : Sm} (q : keepM h h') (k : MSh h S) : MSh h' S := MSh_eq (fun b i => q.2 21 b i (by omega)) (fun i => q.2 22 0 i (by omega)) k
theorem MSh_only {h h' : AH} {S : Sm} {j : Nat} (q : only 16 j h h') (k : MSh h S) : MSh h' S := MSh_eq (fun b i => by rw [q.2 21 b (by omega)]) (fun i => by rw [q.2 22 0 (by omega)]) k
def rwR (S : Sm) (d y : Int32) : Int32 := if ¬ cel d then iI (-1) else if S.1 0 (nN d) = 0 then iI (-11) else if S.1 0 (nN d) ≠ 2 ∨ (¬ y < 0 ∧ nI (S.1 3 (nN d)) ≠ y) then iI (-12) else nI 0
def S_X11_wrongRow (d y : Int32) (h : AH) (K : Int32 → AH → Prop) : Prop := ∃ S, MSh h S ∧ WS S ∧ K (rwR S d y) h
def T_X11_wrongRow : List AV → AH → (Int32 → AH → Prop) → Prop := fun as h K => match as with
  | [.inr (.inr (.inl q0)), .inl q1, .inl q2] => tif (Nat.beq q0.1 15 && Nat.beq q0.2 0) (S_X11_wrongRow q1 q2 h K)
  | _ => False

def M_X11_wrongRow : MI := (RX11, cX11_wrongRow, 3, [(0, .iload_n 1, []), (1, .invokestatic 226, []), (4, .ifCond .ne 7, [11]), (7, .iconst (-1), []), (8, .goto 47, [55]), (11, .aload_n 0, []), (12, .getfield 35, []), (15, .iload_n 1, []), (16, .iaload, []), (17, .ifCond .ne 8, [25]), (20, .bipush (-11), []), (22, .goto 33, [55]), (25, .aload_n 0, []), (26, .getfield 35, []), (29, .iload_n 1, []), (30, .iaload, []), (31, .iconst 2, []), (32, .if_icmp .ne 17, [49]), (35, .iload_n 2, []), (36, .ifCond .lt 18, [54]), (39, .aload_n 0, []), (40, .getfield 44, []), (43, .iload_n 1, []), (44, .iaload, []), (45, .iload_n 2, []), (46, .if_icmp .eq 8, [54]), (49, .bipush (-12), []), (51, .goto 4, [55]), (54, .iconst 0, []), (55, .ireturn, [])], [(35, (15, 16, 1, 21, 0)), (44, (15, 19, 1, 21, 3))], [], [], [(679, (1, 2, 42, 0, 0, .inl T_X11_isShelf))], 2, 42, 0, 0)
theorem ok_X11_wrongRow : MOK M_X11_wrongRow := ⟨by decide +kernel, List.forall_mem_cons.mpr ⟨fl_RX11_35, List.forall_mem_cons.mpr ⟨fl_RX11_44, fun _ h => absurd h List.not_mem_nil⟩⟩, fun _ h => absurd h List.not_mem_nil, fun _ h => absurd h List.not_mem_nil, List.forall_mem_cons.mpr ⟨⟨Nat.le_of_ble_eq_true rfl, Nat.le_of_ble_eq_true rfl, cr_RX11_679⟩, fun _ h => absurd h List.not_mem_nil⟩⟩
set_option maxRecDepth 100000 in
theorem vc_X11_wrongRow {K : Int32 → AH → Prop} {h : AH} (p1 : Int32) (p2 : Int32) (H : S_X11_isShelf p1 h (fun x2 h1 => ((¬ x2 = 0) → inR p1 8 ∧ ((¬ (h1.1 21 0 p1.toNatClampNeg) = 0) → inR p1 8 ∧ ((¬ (h1.1 21 0 p1.toNatClampNeg) = (nI 2)) → K (iI (-12)) h1) ∧ (¬ (¬ (h1.1 21 0 p1.toNatClampNeg) = (nI 2)) → ((p2 < 0) → K (nI 0) h1) ∧ (¬ (p2 < 0) → inR p1 8 ∧ (((h1.1 21 3 p1.toNatClampNeg) = p2) → K (nI 0) h1) ∧ (¬ ((h1.1 21 3 p1.toNatClampNeg) = p2) → K (iI (-12)) h1)))) ∧ (¬ (¬ (h1.1 21 0 p1.toNatClampNeg) = 0) → K (iI (-11)) h1)) ∧ (¬ (¬ x2 = 0) → K (iI (-1)) h1))) : AW M_X11_wrongRow (.inl K) 0 [some (aR 15 0), some (aI p1), some (aI p2)] [] h 0 0 := AW_go (cuts := []) ok_X11_wrongRow 400 H

theorem snd_X11_wrongRow (d y : Int32) {h : AH} {K : Int32 → AH → Prop} (k : S_X11_wrongRow d y h K) : AW M_X11_wrongRow (.inl K) 0 [some (aR 15 0), some (aI d), some (aI y)] [] h 0 0 := by
  obtain ⟨S, hs, hw, k⟩ := k
  refine vc_X11_wrongRow d y ?_
  unfold S_X11_isShelf
  simp only [if10_eq]
  unfold rwR at k
  refine ⟨fun q => ?_, fun q => ?_⟩
  · have q := Decidable.not_not.mp q
    rw [if_neg (fun z => z q)] at k
    obtain ⟨m, hm, rfl⟩ := in8_iff.mp q
    unfold nN at k
    rw [n_cl (by omega)] at k
    obtain ⟨a, b, c⟩ := hs m hm
    obtain ⟨w1, w2, w3⟩ := hw m hm
    simp (disch := omega) only [n_inT, n_cl, true_and, a, n_eq0, n_eq]
    refine ⟨fun q0 => ⟨fun q2 => ?_, fun q2 => ⟨fun q3 => ?_, fun q3 => ⟨fun q4 => ?_, fun q4 => ?_⟩⟩⟩, fun q0 => ?_⟩
    · rw [if_neg q0, if_pos (Or.inl q2)] at k; exact k
    · rw [if_neg q0, if_neg (by rintro (z | z); exact q2 z; exact z.1 q3)] at k; exact k
    · rw [(c (Decidable.not_not.mp q2)).1] at q4
      rw [if_neg q0, if_neg (by rintro (z | z); exact q2 z; exact z.2 q4)] at k; exact k
    · rw [(c (Decidable.not_not.mp q2)).1] at q4
      rw [if_neg q0, if_pos (Or.inr ⟨q3, q4⟩)] at k; exact k
    · rw [if_pos (Decidable.not_not.mp q0)] at k; exact k
  · rw [if_pos (fun z => q (fun y => y z))] at k; exact k
theorem tr_X11_wrongRow : ∀ (as : List AV) (h : AH) (K : Int32 → AH → Prop), T_X11_wrongRow as h K → ∃ (q : Nat) (r : List AV), as = aR 15 q :: r := by
  intro as h K hk
  match as, hk with
  | [.inr (.inr (.inl q0)), .inl q1, .inl q2], hk =>
    obtain ⟨hb, hk⟩ := tif_inv hk
    simp only [Bool.and_eq_true] at hb
    obtain ⟨e0, e1⟩ := hb
    obtain ⟨a0, b0⟩ := q0
    have f0 : a0 = 15 := Nat.eq_of_beq_eq_true e0
    subst f0
    have f1 : b0 = 0 := Nat.eq_of_beq_eq_true e1
    subst f1
    exact ⟨_, _, rfl⟩
theorem tw_X11_wrongRow : ∀ (as : List AV) (h : AH) (K : Int32 → AH → Prop), T_X11_wrongRow as h K → (ini as).length ≤ mNL M_X11_wrongRow ∧ AW M_X11_wrongRow (.inl K) 0 (initL (mNL M_X11_wrongRow) as) [] h 0 0 := by
  intro as h K hk
  match as, hk with
  | [.inr (.inr (.inl q0)), .inl q1, .inl q2], hk =>
    obtain ⟨hb, hk⟩ := tif_inv hk
    simp only [Bool.and_eq_true] at hb
    obtain ⟨e0, e1⟩ := hb
    obtain ⟨a0, b0⟩ := q0
    have f0 : a0 = 15 := Nat.eq_of_beq_eq_true e0
    subst f0
    have f1 : b0 = 0 := Nat.eq_of_beq_eq_true e1
    subst f1
    exact ⟨Nat.le_of_ble_eq_true rfl, snd_X11_wrongRow q1 q2 hk⟩
theorem cr_RX11_423 : CR RX11 (kIns 423) (3, 3, 64, 0, 0, .inl T_X11_wrongRow) := crV_i (t := 15) (M := M_X11_wrongRow) (by decide) rfl (by decide) rfl (inG (i := 989) (w := Cond.methodLink RX11 141 yX11_wrongRow) (by decide +kernel) rfl) (inG (i := 991) (w := Cond.instanceMethod yX11_wrongRow) (by decide +kernel) rfl) (inG (i := 40) (w := Cond.initialized RX11) (by decide +kernel) rfl) (inG (i := 15) (w := Cond.selects RX11 yX11_wrongRow yX11_wrongRow) (by decide +kernel) rfl) (inG (i := 992) (w := Cond.code yX11_wrongRow cX11_wrongRow 3 (some .int)) (by decide +kernel) rfl) ⟨by decide +kernel, by decide +kernel, by decide +kernel⟩ tr_X11_wrongRow tw_X11_wrongRow

def rwK (S : Sm) (d : Int32) : Int32 := if ¬ cel d then iI (-1) else if S.1 0 (nN d) = 0 then iI (-11) else if S.1 0 (nN d) = 2 then iI (-12) else nI 0
def S_X11_wrongKept (d : Int32) (h : AH) (K : Int32 → AH → Prop) : Prop := ∃ S, MSh h S ∧ WS S ∧ K (rwK S d) h
def T_X11_wrongKept : List AV → AH → (Int32 → AH → Prop) → Prop := fun as h K => match as with
  | [.inr (.inr (.inl q0)), .inl q1] => tif (Nat.beq q0.1 15 && Nat.beq q0.2 0) (S_X11_wrongKept q1 h K)
  | _ => False

def M_X11_wrongKept : MI := (RX11, cX11_wrongKept, 2, [(0, .iload_n 1, []), (1, .invokestatic 226, []), (4, .ifCond .ne 7, [11]), (7, .iconst (-1), []), (8, .goto 33, [41]), (11, .aload_n 0, []), (12, .getfield 35, []), (15, .iload_n 1, []), (16, .iaload, []), (17, .ifCond .ne 8, [25]), (20, .bipush (-11), []), (22, .goto 19, [41]), (25, .aload_n 0, []), (26, .getfield 35, []), (29, .iload_n 1, []), (30, .iaload, []), (31, .iconst 2, []), (32, .if_icmp .ne 8, [40]), (35, .bipush (-12), []), (37, .goto 4, [41]), (40, .iconst 0, []), (41, .ireturn, [])], [(35, (15, 16, 1, 21, 0))], [], [], [(679, (1, 2, 42, 0, 0, .inl T_X11_isShelf))], 2, 42, 0, 0)
theorem ok_X11_wrongKept : MOK M_X11_wrongKept := ⟨by decide +kernel, List.forall_mem_cons.mpr ⟨fl_RX11_35, fun _ h => absurd h List.not_mem_nil⟩, fun _ h => absurd h List.not_mem_nil, fun _ h => absurd h List.not_mem_nil, List.forall_mem_cons.mpr ⟨⟨Nat.le_of_ble_eq_true rfl, Nat.le_of_ble_eq_true rfl, cr_RX11_679⟩, fun _ h => absurd h List.not_mem_nil⟩⟩
set_option maxRecDepth 100000 in
theorem vc_X11_wrongKept {K : Int32 → AH → Prop} {h : AH} (p1 : Int32) (H : S_X11_isShelf p1 h (fun x2 h1 => ((¬ x2 = 0) → inR p1 8 ∧ ((¬ (h1.1 21 0 p1.toNatClampNeg) = 0) → inR p1 8 ∧ ((¬ (h1.1 21 0 p1.toNatClampNeg) = (nI 2)) → K (nI 0) h1) ∧ (¬ (¬ (h1.1 21 0 p1.toNatClampNeg) = (nI 2)) → K (iI (-12)) h1)) ∧ (¬ (¬ (h1.1 21 0 p1.toNatClampNeg) = 0) → K (iI (-11)) h1)) ∧ (¬ (¬ x2 = 0) → K (iI (-1)) h1))) : AW M_X11_wrongKept (.inl K) 0 [some (aR 15 0), some (aI p1)] [] h 0 0 := AW_go (cuts := []) ok_X11_wrongKept 400 H

theorem snd_X11_wrongKept (d : Int32) {h : AH} {K : Int32 → AH → Prop} (k : S_X11_wrongKept d h K) : AW M_X11_wrongKept (.inl K) 0 [some (aR 15 0), some (aI d)] [] h 0 0 := by
  obtain ⟨S, hs, hw, k⟩ := k
  refine vc_X11_wrongKept d ?_
  unfold S_X11_isShelf
  simp only [if10_eq]
  unfold rwK at k
  refine ⟨fun q => ?_, fun q => ?_⟩
  · have q := Decidable.not_not.mp q
    rw [if_neg (fun z => z q)] at k
    obtain ⟨m, hm, rfl⟩ := in8_iff.mp q
    unfold nN at k
    rw [n_cl (by omega)] at k
    obtain ⟨a, b, c⟩ := hs m hm
    obtain ⟨w1, w2, w3⟩ := hw m hm
    simp (disch := omega) only [n_inT, n_cl, true_and, a, n_eq0, n_eq]
    refine ⟨fun q0 => ⟨fun q2 => ?_, fun q2 => ?_⟩, fun q0 => ?_⟩
    · rw [if_neg q0, if_neg q2] at k; exact k
    · rw [if_neg q0, if_pos (Decidable.not_not.mp q2)] at k; exact k
    · rw [if_pos (Decidable.not_not.mp q0)] at k; exact k
  · rw [if_pos (fun z => q (fun y => y z))] at k; exact k
theorem tr_X11_wrongKept : ∀ (as : List AV) (h : AH) (K : Int32 → AH → Prop), T_X11_wrongKept as h K → ∃ (q : Nat) (r : List AV), as = aR 15 q :: r := by
  intro as h K hk
  match as, hk with
  | [.inr (.inr (.inl q0)), .inl q1], hk =>
    obtain ⟨hb, hk⟩ := tif_inv hk
    simp only [Bool.and_eq_true] at hb
    obtain ⟨e0, e1⟩ := hb
    obtain ⟨a0, b0⟩ := q0
    have f0 : a0 = 15 := Nat.eq_of_beq_eq_true e0
    subst f0
    have f1 : b0 = 0 := Nat.eq_of_beq_eq_true e1
    subst f1
    exact ⟨_, _, rfl⟩
theorem tw_X11_wrongKept : ∀ (as : List AV) (h : AH) (K : Int32 → AH → Prop), T_X11_wrongKept as h K → (ini as).length ≤ mNL M_X11_wrongKept ∧ AW M_X11_wrongKept (.inl K) 0 (initL (mNL M_X11_wrongKept) as) [] h 0 0 := by
  intro as h K hk
  match as, hk with
  | [.inr (.inr (.inl q0)), .inl q1], hk =>
    obtain ⟨hb, hk⟩ := tif_inv hk
    simp only [Bool.and_eq_true] at hb
    obtain ⟨e0, e1⟩ := hb
    obtain ⟨a0, b0⟩ := q0
    have f0 : a0 = 15 := Nat.eq_of_beq_eq_true e0
    subst f0
    have f1 : b0 = 0 := Nat.eq_of_beq_eq_true e1
    subst f1
    exact ⟨Nat.le_of_ble_eq_true rfl, snd_X11_wrongKept q1 hk⟩
theorem cr_RX11_483 : CR RX11 (kIns 483) (2, 3, 63, 0, 0, .inl T_X11_wrongKept) := crV_i (t := 15) (M := M_X11_wrongKept) (by decide) rfl (by decide) rfl (inG (i := 1104) (w := Cond.methodLink RX11 161 yX11_wrongKept) (by decide +kernel) rfl) (inG (i := 1106) (w := Cond.instanceMethod yX11_wrongKept) (by decide +kernel) rfl) (inG (i := 40) (w := Cond.initialized RX11) (by decide +kernel) rfl) (inG (i := 23) (w := Cond.selects RX11 yX11_wrongKept yX11_wrongKept) (by decide +kernel) rfl) (inG (i := 1107) (w := Cond.code yX11_wrongKept cX11_wrongKept 2 (some .int)) (by decide +kernel) rfl) ⟨by decide +kernel, by decide +kernel, by decide +kernel⟩ tr_X11_wrongKept tw_X11_wrongKept

theorem rwR_cases {S : Sm} (hw : WS S) (d : Int32) : (∃ m, m < 8 ∧ d = nI m ∧ S.1 0 m = 2 ∧ rwR S d (iI (-1)) = nI 0) ∨ rwR S d (iI (-1)) ≠ nI 0 := by
  unfold rwR
  by_cases h : cel d
  · rw [if_neg (fun z => z h)]
    obtain ⟨m, hm, rfl⟩ := in8_iff.mp h
    unfold nN
    rw [n_cl (by omega)]
    by_cases h0 : S.1 0 m = 0
    · rw [if_pos h0]; exact Or.inr (by decide)
    · rw [if_neg h0]
      by_cases h2 : S.1 0 m = 2
      · rw [if_neg (by rintro (z | z); exact z h2; exact z.1 (by decide))]; exact Or.inl ⟨m, hm, rfl, h2, rfl⟩
      · rw [if_pos (Or.inl h2)]; exact Or.inr (by decide)
  · rw [if_pos h]; exact Or.inr (by decide)
theorem rwK_cases {S : Sm} (hw : WS S) (d : Int32) : (∃ m, m < 8 ∧ d = nI m ∧ S.1 0 m = 1 ∧ rwK S d = nI 0) ∨ rwK S d ≠ nI 0 := by
  unfold rwK
  by_cases h : cel d
  · rw [if_neg (fun z => z h)]
    obtain ⟨m, hm, rfl⟩ := in8_iff.mp h
    unfold nN
    rw [n_cl (by omega)]
    have := (hw m hm).1
    by_cases h0 : S.1 0 m = 0
    · rw [if_pos h0]; exact Or.inr (by decide)
    · rw [if_neg h0]
      by_cases h2 : S.1 0 m = 2
      · rw [if_pos h2]; exact Or.inr (by decide)
      · rw [if_neg h2]; exact Or.inl ⟨m, hm, rfl, by omega, rfl⟩
  · rw [if_pos h]; exact Or.inr (by decide)
def onlyS (h h' : AH) : Prop := h'.2 = h.2 ∧ ∀ a b, a ≠ 21 → a ≠ 22 → h'.1 a b = h.1 a b
theorem onlyS_rfl (h : AH) : onlyS h h := ⟨rfl, fun _ _ _ _ => rfl⟩
theorem onlyS_tr {h h1 h2 : AH} (a : onlyS h h1) (b : onlyS h1 h2) : onlyS h h2 := ⟨b.1.trans a.1, fun x y q1 q2 => (b.2 x y q1 q2).trans (a.2 x y q1 q2)⟩
theorem onlyS_w {h : AH} {t p i : Nat} {x : Int32} (ht : t = 21 ∨ t = 22) : onlyS h (wI h t p i x) := ⟨rfl, fun a b q1 q2 => uI_ne (fun e => by have := (Prod.mk.inj e).1; omega)⟩
def uS (S : Sm) (k d x : Nat) : Sm := (uV S.1 k d x, S.2)
def M_keep (S : Sm) (d w k f : Int32) : Int32 × Sm := if cel d ∧ w01 w ∧ (w = nI 1 → (nI 0 ≤ k ∧ k ≤ nI 7) ∧ (nI 0 ≤ f ∧ f ≤ nI 9)) then (nI 0, uS (uS (uS S 0 (nN d) (nN w)) 1 (nN d) (nN k)) 2 (nN d) (nN f)) else (iI (-1), S)
def S_X11_keep (d w k f : Int32) (h : AH) (K : Int32 → AH → Prop) : Prop := ∃ S, MSh h S ∧ WS S ∧ ∀ h', onlyS h h' → MSh h' (M_keep S d w k f).2 → K (M_keep S d w k f).1 h'
def T_X11_keep : List AV → AH → (Int32 → AH → Prop) → Prop := fun as h K => match as with
  | [.inr (.inr (.inl q0)), .inl q1, .inl q2, .inl q3, .inl q4] => tif (Nat.beq q0.1 15 && Nat.beq q0.2 0) (S_X11_keep q1 q2 q3 q4 h K)
  | _ => False

def M_X11_keep : MI := (RX11, cX11_keep, 5, [(0, .iload_n 1, []), (1, .invokestatic 226, []), (4, .ifCond .eq 38, [42]), (7, .iload_n 2, []), (8, .iconst 0, []), (9, .iconst 1, []), (10, .invokestatic 53, []), (13, .ifCond .eq 29, [42]), (16, .iload_n 2, []), (17, .iconst 1, []), (18, .if_icmp .ne 26, [44]), (21, .iload_n 3, []), (22, .iconst 0, []), (23, .bipush 7, []), (25, .invokestatic 53, []), (28, .ifCond .eq 14, [42]), (31, .iload 4, []), (33, .iconst 0, []), (34, .bipush 9, []), (36, .invokestatic 53, []), (39, .ifCond .ne 5, [44]), (42, .iconst (-1), []), (43, .ireturn, []), (44, .aload_n 0, []), (45, .getfield 35, []), (48, .iload_n 1, []), (49, .iload_n 2, []), (50, .iastore, []), (51, .aload_n 0, []), (52, .getfield 38, []), (55, .iload_n 1, []), (56, .iload_n 3, []), (57, .iastore, []), (58, .aload_n 0, []), (59, .getfield 41, []), (62, .iload_n 1, []), (63, .iload 4, []), (65, .iastore, []), (66, .iconst 0, []), (67, .ireturn, [])], [(35, (15, 16, 1, 21, 0)), (38, (15, 17, 1, 21, 1)), (41, (15, 18, 1, 21, 2))], [], [], [(679, (1, 2, 42, 0, 0, .inl T_X11_isShelf)), (160, (3, 1, 22, 0, 0, .inl T_X11_isIn))], 2, 42, 0, 0)
theorem ok_X11_keep : MOK M_X11_keep := ⟨by decide +kernel, List.forall_mem_cons.mpr ⟨fl_RX11_35, List.forall_mem_cons.mpr ⟨fl_RX11_38, List.forall_mem_cons.mpr ⟨fl_RX11_41, fun _ h => absurd h List.not_mem_nil⟩⟩⟩, fun _ h => absurd h List.not_mem_nil, fun _ h => absurd h List.not_mem_nil, List.forall_mem_cons.mpr ⟨⟨Nat.le_of_ble_eq_true rfl, Nat.le_of_ble_eq_true rfl, cr_RX11_679⟩, List.forall_mem_cons.mpr ⟨⟨Nat.le_of_ble_eq_true rfl, Nat.le_of_ble_eq_true rfl, cr_RX11_160⟩, fun _ h => absurd h List.not_mem_nil⟩⟩⟩
set_option maxRecDepth 100000 in
theorem vc_X11_keep {K : Int32 → AH → Prop} {h : AH} (p1 : Int32) (p2 : Int32) (p3 : Int32) (p4 : Int32) (H : S_X11_isShelf p1 h (fun x2 h1 => ((x2 = 0) → K (iI (-1)) h1) ∧ (¬ (x2 = 0) → S_X11_isIn p2 (nI 0) (nI 1) h1 (fun x4 h3 => ((x4 = 0) → K (iI (-1)) h3) ∧ (¬ (x4 = 0) → ((¬ p2 = (nI 1)) → inR p1 8 ∧ inR p1 8 ∧ inR p1 8 ∧ K (nI 0) (wI (wI (wI h3 21 0 p1.toNatClampNeg p2) 21 1 p1.toNatClampNeg p3) 21 2 p1.toNatClampNeg p4)) ∧ (¬ (¬ p2 = (nI 1)) → S_X11_isIn p3 (nI 0) (nI 7) h3 (fun x6 h5 => ((x6 = 0) → K (iI (-1)) h5) ∧ (¬ (x6 = 0) → S_X11_isIn p4 (nI 0) (nI 9) h5 (fun x8 h7 => ((¬ x8 = 0) → inR p1 8 ∧ inR p1 8 ∧ inR p1 8 ∧ K (nI 0) (wI (wI (wI h7 21 0 p1.toNatClampNeg p2) 21 1 p1.toNatClampNeg p3) 21 2 p1.toNatClampNeg p4)) ∧ (¬ (¬ x8 = 0) → K (iI (-1)) h7)))))))))) : AW M_X11_keep (.inl K) 0 [some (aR 15 0), some (aI p1), some (aI p2), some (aI p3), some (aI p4)] [] h 0 0 := AW_go (cuts := []) ok_X11_keep 400 H

theorem MSh_kp {h : AH} {S : Sm} {m i : Nat} {k f : Int32} (hs : MSh h S) (hm : m < 8) (hi : i ≤ 1) (hk : i = 1 → k = nI (nN k) ∧ f = nI (nN f)) : MSh (wI (wI (wI h 21 0 m (nI i)) 21 1 m k) 21 2 m f) (uS (uS (uS S 0 m i) 1 m (nN k)) 2 m (nN f)) := by
  intro d hd
  unfold uS
  show uI (uI (uI h.1 21 0 m (nI i)) 21 1 m k) 21 2 m f 21 0 d = _ ∧ (_ → uI (uI (uI h.1 21 0 m (nI i)) 21 1 m k) 21 2 m f 21 1 d = _ ∧ uI (uI (uI h.1 21 0 m (nI i)) 21 1 m k) 21 2 m f 21 2 d = _) ∧ (_ → uI (uI (uI h.1 21 0 m (nI i)) 21 1 m k) 21 2 m f 21 3 d = _ ∧ uI (uI (uI h.1 21 0 m (nI i)) 21 1 m k) 21 2 m f 21 4 d = _ ∧ ∀ j, j < 100 → uI (uI (uI h.1 21 0 m (nI i)) 21 1 m k) 21 2 m f 22 0 (100 * d + j) = _)
  obtain ⟨a, b, c⟩ := hs d hd
  by_cases e : d = m
  · subst e
    simp only [uV, uI]
    simp
    refine ⟨fun q => ?_, fun q => by omega⟩
    obtain ⟨h1, h2⟩ := hk q
    exact ⟨h1, h2⟩
  · simp only [uV, uI]
    simp [e]
    exact ⟨a, b, c⟩
theorem snd_X11_keep (d w k f : Int32) {h : AH} {K : Int32 → AH → Prop} (kk : S_X11_keep d w k f h K) : AW M_X11_keep (.inl K) 0 [some (aR 15 0), some (aI d), some (aI w), some (aI k), some (aI f)] [] h 0 0 := by
  obtain ⟨S, hs, hw, kk⟩ := kk
  refine vc_X11_keep d w k f ?_
  unfold S_X11_isShelf S_X11_isIn
  simp only [if10_eq]
  unfold M_keep at kk
  refine ⟨fun q => ?_, fun q => ⟨fun q2 => ?_, fun q2 => ?_⟩⟩
  · rw [if_neg (fun z => q z.1)] at kk; exact kk h (onlyS_rfl h) hs
  · rw [if_neg (fun z => q2 z.2.1)] at kk; exact kk h (onlyS_rfl h) hs
  · have q := Decidable.not_not.mp q
    have q2 := Decidable.not_not.mp q2
    obtain ⟨m, hm, rfl⟩ := in8_iff.mp q
    obtain ⟨i, hi, rfl⟩ := (in_n (by omega)).mp q2
    have go : (nI i = nI 1 → (nI 0 ≤ k ∧ k ≤ nI 7) ∧ (nI 0 ≤ f ∧ f ≤ nI 9)) → K (nI 0) (wI (wI (wI h 21 0 m (nI i)) 21 1 m k) 21 2 m f) := by
      intro hq
      rw [if_pos ⟨q, q2, hq⟩] at kk
      unfold nN at kk
      rw [n_cl (show m < 2147483648 by omega), n_cl (show i < 2147483648 by omega)] at kk
      refine kk _ (onlyS_tr (onlyS_tr (onlyS_w (by omega)) (onlyS_w (by omega))) (onlyS_w (by omega))) (MSh_kp hs hm hi (fun e => ?_))
      obtain ⟨z1, z2⟩ := hq (by rw [e])
      obtain ⟨k', hk', rfl⟩ := (in_n (by omega)).mp z1
      obtain ⟨f', hf', rfl⟩ := (in_n (by omega)).mp z2
      unfold nN
      rw [n_cl (by omega), n_cl (by omega)]
      exact ⟨rfl, rfl⟩
    simp (disch := omega) only [n_inT, n_cl, true_and]
    refine ⟨fun q3 => go (fun z => absurd z q3), fun q3 => ⟨fun q4 => ?_, fun q4 => ⟨fun q5 => go (fun _ => ⟨Decidable.not_not.mp q4, Decidable.not_not.mp q5⟩), fun q5 => ?_⟩⟩⟩
    · rw [if_neg (fun z => q4 (z.2.2 (Decidable.not_not.mp q3)).1)] at kk; exact kk h (onlyS_rfl h) hs
    · rw [if_neg (fun z => q5 (fun y => y (z.2.2 (Decidable.not_not.mp q3)).2))] at kk; exact kk h (onlyS_rfl h) hs
theorem tr_X11_keep : ∀ (as : List AV) (h : AH) (K : Int32 → AH → Prop), T_X11_keep as h K → ∃ (q : Nat) (r : List AV), as = aR 15 q :: r := by
  intro as h K hk
  match as, hk with
  | [.inr (.inr (.inl q0)), .inl q1, .inl q2, .inl q3, .inl q4], hk =>
    obtain ⟨hb, hk⟩ := tif_inv hk
    simp only [Bool.and_eq_true] at hb
    obtain ⟨e0, e1⟩ := hb
    obtain ⟨a0, b0⟩ := q0
    have f0 : a0 = 15 := Nat.eq_of_beq_eq_true e0
    subst f0
    have f1 : b0 = 0 := Nat.eq_of_beq_eq_true e1
    subst f1
    exact ⟨_, _, rfl⟩
theorem tw_X11_keep : ∀ (as : List AV) (h : AH) (K : Int32 → AH → Prop), T_X11_keep as h K → (ini as).length ≤ mNL M_X11_keep ∧ AW M_X11_keep (.inl K) 0 (initL (mNL M_X11_keep) as) [] h 0 0 := by
  intro as h K hk
  match as, hk with
  | [.inr (.inr (.inl q0)), .inl q1, .inl q2, .inl q3, .inl q4], hk =>
    obtain ⟨hb, hk⟩ := tif_inv hk
    simp only [Bool.and_eq_true] at hb
    obtain ⟨e0, e1⟩ := hb
    obtain ⟨a0, b0⟩ := q0
    have f0 : a0 = 15 := Nat.eq_of_beq_eq_true e0
    subst f0
    have f1 : b0 = 0 := Nat.eq_of_beq_eq_true e1
    subst f1
    exact ⟨Nat.le_of_ble_eq_true rfl, snd_X11_keep q1 q2 q3 q4 hk⟩

def M_row (S : Sm) (d s n : Int32) : Int32 × Sm := if ¬ cel d ∨ ¬ (nI 0 ≤ s ∧ s ≤ nI 2) ∨ ¬ n ≤ nI 100 then (iI (-1), S) else if ¬ 0 ≤ n then (iI (-14), S) else (nI 0, (uV (uV (uV S.1 0 (nN d) 2) 3 (nN d) (nN s)) 4 (nN d) (nN n), fun a i => if a = nN d then nI 0 else S.2 a i))
def S_X11_row (d s n : Int32) (h : AH) (K : Int32 → AH → Prop) : Prop := ∃ S, MSh h S ∧ WS S ∧ ∀ h', onlyS h h' → MSh h' (M_row S d s n).2 → K (M_row S d s n).1 h'
def T_X11_row : List AV → AH → (Int32 → AH → Prop) → Prop := fun as h K => match as with
  | [.inr (.inr (.inl q0)), .inl q1, .inl q2, .inl q3] => tif (Nat.beq q0.1 15 && Nat.beq q0.2 0) (S_X11_row q1 q2 q3 h K)
  | _ => False

def M_X11_row : MI := (RX11, cX11_row, 5, [(0, .iload_n 1, []), (1, .invokestatic 226, []), (4, .ifCond .eq 18, [22]), (7, .iload_n 2, []), (8, .iconst 0, []), (9, .iconst 2, []), (10, .invokestatic 53, []), (13, .ifCond .eq 9, [22]), (16, .iload_n 3, []), (17, .bipush 100, []), (19, .if_icmp .le 5, [24]), (22, .iconst (-1), []), (23, .ireturn, []), (24, .iload_n 3, []), (25, .ifCond .ge 6, [31]), (28, .bipush (-14), []), (30, .ireturn, []), (31, .aload_n 0, []), (32, .getfield 35, []), (35, .iload_n 1, []), (36, .iconst 2, []), (37, .iastore, []), (38, .aload_n 0, []), (39, .getfield 44, []), (42, .iload_n 1, []), (43, .iload_n 2, []), (44, .iastore, []), (45, .aload_n 0, []), (46, .getfield 47, []), (49, .iload_n 1, []), (50, .iload_n 3, []), (51, .iastore, []), (52, .iconst 0, []), (53, .istore 4, []), (55, .iload 4, []), (57, .bipush 100, []), (59, .if_icmp .ge 22, [81]), (62, .aload_n 0, []), (63, .getfield 50, []), (66, .bipush 100, []), (68, .iload_n 1, []), (69, .imul, []), (70, .iload 4, []), (72, .iadd, []), (73, .iconst 0, []), (74, .iastore, []), (75, .iinc 4 1, []), (78, .goto (-23), [55]), (81, .iconst 0, []), (82, .ireturn, [])], [(35, (15, 16, 1, 21, 0)), (44, (15, 19, 1, 21, 3)), (47, (15, 20, 1, 21, 4)), (50, (15, 21, 1, 22, 0))], [], [], [(679, (1, 2, 42, 0, 0, .inl T_X11_isShelf)), (160, (3, 1, 22, 0, 0, .inl T_X11_isIn))], 2, 42, 0, 0)
theorem ok_X11_row : MOK M_X11_row := ⟨by decide +kernel, List.forall_mem_cons.mpr ⟨fl_RX11_35, List.forall_mem_cons.mpr ⟨fl_RX11_44, List.forall_mem_cons.mpr ⟨fl_RX11_47, List.forall_mem_cons.mpr ⟨fl_RX11_50, fun _ h => absurd h List.not_mem_nil⟩⟩⟩⟩, fun _ h => absurd h List.not_mem_nil, fun _ h => absurd h List.not_mem_nil, List.forall_mem_cons.mpr ⟨⟨Nat.le_of_ble_eq_true rfl, Nat.le_of_ble_eq_true rfl, cr_RX11_679⟩, List.forall_mem_cons.mpr ⟨⟨Nat.le_of_ble_eq_true rfl, Nat.le_of_ble_eq_true rfl, cr_RX11_160⟩, fun _ h => absurd h List.not_mem_nil⟩⟩⟩
set_option maxRecDepth 100000 in
theorem vc_X11_row {K : Int32 → AH → Prop} {h : AH} (p1 : Int32) (p2 : Int32) (p3 : Int32) (H : S_X11_isShelf p1 h (fun x2 h1 => ((x2 = 0) → K (iI (-1)) h1) ∧ (¬ (x2 = 0) → S_X11_isIn p2 (nI 0) (nI 2) h1 (fun x4 h3 => ((x4 = 0) → K (iI (-1)) h3) ∧ (¬ (x4 = 0) → ((p3 ≤ (nI 100)) → ((0 ≤ p3) → inR p1 8 ∧ inR p1 8 ∧ inR p1 8 ∧ AW M_X11_row (.inl K) 55 [some (aR 15 0), some (aI p1), none, none, some (aI (nI 0))] [] (wI (wI (wI h3 21 0 p1.toNatClampNeg (nI 2)) 21 3 p1.toNatClampNeg p2) 21 4 p1.toNatClampNeg p3) 0 0) ∧ (¬ (0 ≤ p3) → K (iI (-14)) h3)) ∧ (¬ (p3 ≤ (nI 100)) → K (iI (-1)) h3)))))) : AW M_X11_row (.inl K) 0 [some (aR 15 0), some (aI p1), some (aI p2), some (aI p3), none] [] h 0 0 := AW_go (cuts := [(55, [true, true, false, false, true])]) ok_X11_row 400 H
set_option maxRecDepth 100000 in
theorem vc_X11_row_55 {K : Int32 → AH → Prop} {h : AH}  (l1 : Int32) (l4 : Int32) (H : (((nI 100) ≤ l4) → K (nI 0) h) ∧ (¬ ((nI 100) ≤ l4) → inR (((nI 100) * l1) + l4) 800 ∧ AW M_X11_row (.inl K) 55 [some (aR 15 0), some (aI l1), none, none, some (aI (l4 + (nI 1)))] [] (wI h 22 0 (((nI 100) * l1) + l4).toNatClampNeg (nI 0)) 0 0)) : AW M_X11_row (.inl K) 55 [some (aR 15 0), some (aI l1), none, none, some (aI l4)] [] h 0 0 := AW_go (cuts := [(55, [true, true, false, false, true])]) ok_X11_row 400 H

theorem lp_X11_row {m : Nat} {h0 : AH} {K : Int32 → AH → Prop} (hm : m < 8) (k : ∀ h', h'.2 = h0.2 → (∀ a b i, ¬ (a = 22 ∧ b = 0 ∧ 100 * m ≤ i ∧ i < 100 * m + 100) → h'.1 a b i = h0.1 a b i) → (∀ i, i < 100 → h'.1 22 0 (100 * m + i) = nI 0) → K (nI 0) h') : ∀ r c h, c + r = 100 → h.2 = h0.2 → (∀ a b i, ¬ (a = 22 ∧ b = 0 ∧ 100 * m ≤ i ∧ i < 100 * m + 100) → h.1 a b i = h0.1 a b i) → (∀ i, i < c → h.1 22 0 (100 * m + i) = nI 0) → AW M_X11_row (.inl K) 55 [some (aR 15 0), some (aI (nI m)), none, none, some (aI (nI c))] [] h 0 0 := by
  intro r
  induction r with
  | zero =>
    intro c h hc h1 h2 h3
    refine vc_X11_row_55 (nI m) (nI c) ?_
    simp (disch := omega) only [n_le]
    exact ⟨fun _ => k h h1 h2 (fun i hi => h3 i (by omega)), fun q => absurd (by omega) q⟩
  | succ r ih =>
    intro c h hc h1 h2 h3
    refine vc_X11_row_55 (nI m) (nI c) ?_
    simp (disch := omega) only [n_le, pk_mul, nI_add, n_inT, n_cl, true_and]
    refine ⟨fun q => by omega, fun _ => ih (c + 1) _ (by omega) h1 (fun a b i q => ?_) (fun i hi => ?_)⟩
    · show uI h.1 22 0 (100 * m + c) (nI 0) a b i = _
      unfold uI
      rw [if_neg (fun z => q ⟨z.1, z.2.1, by omega, by omega⟩)]
      exact h2 a b i q
    · show uI h.1 22 0 (100 * m + c) (nI 0) 22 0 (100 * m + i) = _
      by_cases e : i = c
      · subst e; rw [uI_at]
      · rw [uI_ni (by omega)]; exact h3 i (by omega)
theorem snd_X11_row (d s n : Int32) {h : AH} {K : Int32 → AH → Prop} (k : S_X11_row d s n h K) : AW M_X11_row (.inl K) 0 [some (aR 15 0), some (aI d), some (aI s), some (aI n), none] [] h 0 0 := by
  obtain ⟨S, hs, hw, k⟩ := k
  refine vc_X11_row d s n ?_
  unfold S_X11_isShelf S_X11_isIn
  simp only [if10_eq]
  unfold M_row at k
  refine ⟨fun q => ?_, fun q => ⟨fun q2 => ?_, fun q2 => ⟨fun q3 => ⟨fun q4 => ?_, fun q4 => ?_⟩, fun q3 => ?_⟩⟩⟩
  · rw [if_pos (Or.inl q)] at k; exact k h (onlyS_rfl h) hs
  · rw [if_pos (Or.inr (Or.inl q2))] at k; exact k h (onlyS_rfl h) hs
  · have q := Decidable.not_not.mp q
    have q2 := Decidable.not_not.mp q2
    rw [if_neg (by rintro (z | z | z); exact z q; exact z q2; exact z q3), if_neg (fun z => z q4)] at k
    obtain ⟨m, hm, rfl⟩ := in8_iff.mp q
    obtain ⟨i, hi, rfl⟩ := (in_n (by omega)).mp q2
    obtain ⟨l, hl, rfl⟩ := (in_n (by omega)).mp ⟨q4, q3⟩
    unfold nN at k
    rw [n_cl (show m < 2147483648 by omega), n_cl (show i < 2147483648 by omega), n_cl (show l < 2147483648 by omega)] at k
    simp (disch := omega) only [n_inT, n_cl, true_and]
    refine lp_X11_row (h0 := wI (wI (wI h 21 0 m (nI 2)) 21 3 m (nI i)) 21 4 m (nI l)) hm (fun h' e1 e2 e3 => k h' ⟨e1, fun a b z1 z2 => ?_⟩ ?_) 100 0 _ (by omega) rfl (fun _ _ _ _ => rfl) (fun z hz => by omega)
    · funext j
      rw [e2 a b j (by omega)]
      show uI (uI (uI h.1 21 0 m (nI 2)) 21 3 m (nI i)) 21 4 m (nI l) a b j = _
      rw [uI_nt z1, uI_nt z1, uI_nt z1]
    · intro d hd
      obtain ⟨a, b, c⟩ := hs d hd
      have g21 : ∀ b j, h'.1 21 b j = uI (uI (uI h.1 21 0 m (nI 2)) 21 3 m (nI i)) 21 4 m (nI l) 21 b j := fun b j => e2 21 b j (by omega)
      rw [g21, g21, g21, g21, g21]
      by_cases e : d = m
      · subst e
        simp only [uV, uI]
        simp
        exact fun j hj => e3 j hj
      · simp only [uV, uI]
        simp [e]
        refine ⟨a, b, fun q => ⟨(c q).1, (c q).2.1, fun j hj => ?_⟩⟩
        rw [e2 22 0 _ (by omega)]
        show uI (uI (uI h.1 21 0 m (nI 2)) 21 3 m (nI i)) 21 4 m (nI l) 22 0 _ = _
        rw [uI_nt (by omega), uI_nt (by omega), uI_nt (by omega)]
        exact (c q).2.2 j hj
  · have q := Decidable.not_not.mp q
    have q2 := Decidable.not_not.mp q2
    rw [if_neg (by rintro (z | z | z); exact z q; exact z q2; exact z q3), if_pos q4] at k; exact k h (onlyS_rfl h) hs
  · rw [if_pos (Or.inr (Or.inr q3))] at k; exact k h (onlyS_rfl h) hs
theorem tr_X11_row : ∀ (as : List AV) (h : AH) (K : Int32 → AH → Prop), T_X11_row as h K → ∃ (q : Nat) (r : List AV), as = aR 15 q :: r := by
  intro as h K hk
  match as, hk with
  | [.inr (.inr (.inl q0)), .inl q1, .inl q2, .inl q3], hk =>
    obtain ⟨hb, hk⟩ := tif_inv hk
    simp only [Bool.and_eq_true] at hb
    obtain ⟨e0, e1⟩ := hb
    obtain ⟨a0, b0⟩ := q0
    have f0 : a0 = 15 := Nat.eq_of_beq_eq_true e0
    subst f0
    have f1 : b0 = 0 := Nat.eq_of_beq_eq_true e1
    subst f1
    exact ⟨_, _, rfl⟩
theorem tw_X11_row : ∀ (as : List AV) (h : AH) (K : Int32 → AH → Prop), T_X11_row as h K → (ini as).length ≤ mNL M_X11_row ∧ AW M_X11_row (.inl K) 0 (initL (mNL M_X11_row) as) [] h 0 0 := by
  intro as h K hk
  match as, hk with
  | [.inr (.inr (.inl q0)), .inl q1, .inl q2, .inl q3], hk =>
    obtain ⟨hb, hk⟩ := tif_inv hk
    simp only [Bool.and_eq_true] at hb
    obtain ⟨e0, e1⟩ := hb
    obtain ⟨a0, b0⟩ := q0
    have f0 : a0 = 15 := Nat.eq_of_beq_eq_true e0
    subst f0
    have f1 : b0 = 0 := Nat.eq_of_beq_eq_true e1
    subst f1
    exact ⟨Nat.le_of_ble_eq_true rfl, snd_X11_row q1 q2 q3 hk⟩
end
section
/-! ===== the reference: rows put, copied; costs, failures; sheep bought ===== -/
def cutS (s : Nat) (v : Int32) : Int32 := if s = 0 then v.toInt8.toInt32 else if s = 1 then v.toInt16.toInt32 else v
def uE (S : Sm) (d i : Nat) (x : Int32) : Sm := (S.1, fun a j => if a = d ∧ j = i then x else S.2 a j)
def M_put (S : Sm) (d i v : Int32) : Int32 × Sm := if rwR S d (iI (-1)) ≠ nI 0 then (rwR S d (iI (-1)), S) else if ¬ (nI 0 ≤ i ∧ i ≤ nI (S.1 4 (nN d)) - nI 1) then (iI (-13), S) else (nI 0, uE S (nN d) (nN i) (cutS (S.1 3 (nN d)) v))
def S_X11_put (d i v : Int32) (h : AH) (K : Int32 → AH → Prop) : Prop := ∃ S, MSh h S ∧ WS S ∧ ∀ h', onlyS h h' → MSh h' (M_put S d i v).2 → K (M_put S d i v).1 h'
def T_X11_put : List AV → AH → (Int32 → AH → Prop) → Prop := fun as h K => match as with
  | [.inr (.inr (.inl q0)), .inl q1, .inl q2, .inl q3] => tif (Nat.beq q0.1 15 && Nat.beq q0.2 0) (S_X11_put q1 q2 q3 h K)
  | _ => False

def M_X11_put : MI := (RX11, cX11_put, 5, [(0, .aload_n 0, []), (1, .iload_n 1, []), (2, .iconst (-1), []), (3, .invokevirtual 141, []), (6, .istore 4, []), (8, .iload 4, []), (10, .ifCond .eq 6, [16]), (13, .iload 4, []), (15, .ireturn, []), (16, .iload_n 2, []), (17, .iconst 0, []), (18, .aload_n 0, []), (19, .getfield 47, []), (22, .iload_n 1, []), (23, .iaload, []), (24, .iconst 1, []), (25, .isub, []), (26, .invokestatic 53, []), (29, .ifCond .ne 6, [35]), (32, .bipush (-13), []), (34, .ireturn, []), (35, .aload_n 0, []), (36, .getfield 50, []), (39, .bipush 100, []), (41, .iload_n 1, []), (42, .imul, []), (43, .iload_n 2, []), (44, .iadd, []), (45, .aload_n 0, []), (46, .getfield 44, []), (49, .iload_n 1, []), (50, .iaload, []), (51, .ifCond .ne 8, [59]), (54, .iload_n 3, []), (55, .i2b, []), (56, .goto 19, [75]), (59, .aload_n 0, []), (60, .getfield 44, []), (63, .iload_n 1, []), (64, .iaload, []), (65, .iconst 1, []), (66, .if_icmp .ne 8, [74]), (69, .iload_n 3, []), (70, .i2s, []), (71, .goto 4, [75]), (74, .iload_n 3, []), (75, .iastore, []), (76, .iconst 0, []), (77, .ireturn, [])], [(47, (15, 20, 1, 21, 4)), (50, (15, 21, 1, 22, 0)), (44, (15, 19, 1, 21, 3))], [], [], [(423, (3, 3, 64, 0, 0, .inl T_X11_wrongRow)), (160, (3, 1, 22, 0, 0, .inl T_X11_isIn))], 3, 64, 0, 0)
theorem ok_X11_put : MOK M_X11_put := ⟨by decide +kernel, List.forall_mem_cons.mpr ⟨fl_RX11_47, List.forall_mem_cons.mpr ⟨fl_RX11_50, List.forall_mem_cons.mpr ⟨fl_RX11_44, fun _ h => absurd h List.not_mem_nil⟩⟩⟩, fun _ h => absurd h List.not_mem_nil, fun _ h => absurd h List.not_mem_nil, List.forall_mem_cons.mpr ⟨⟨Nat.le_of_ble_eq_true rfl, Nat.le_of_ble_eq_true rfl, cr_RX11_423⟩, List.forall_mem_cons.mpr ⟨⟨Nat.le_of_ble_eq_true rfl, Nat.le_of_ble_eq_true rfl, cr_RX11_160⟩, fun _ h => absurd h List.not_mem_nil⟩⟩⟩
set_option maxRecDepth 100000 in
theorem vc_X11_put {K : Int32 → AH → Prop} {h : AH} (p1 : Int32) (p2 : Int32) (p3 : Int32) (H : S_X11_wrongRow p1 (iI (-1)) h (fun x2 h1 => ((x2 = 0) → inR p1 8 ∧ S_X11_isIn p2 (nI 0) ((h1.1 21 4 p1.toNatClampNeg) - (nI 1)) h1 (fun x4 h3 => ((¬ x4 = 0) → inR p1 8 ∧ ((¬ (h3.1 21 3 p1.toNatClampNeg) = 0) → inR p1 8 ∧ ((¬ (h3.1 21 3 p1.toNatClampNeg) = (nI 1)) → inR (((nI 100) * p1) + p2) 800 ∧ K (nI 0) (wI h3 22 0 (((nI 100) * p1) + p2).toNatClampNeg p3)) ∧ (¬ (¬ (h3.1 21 3 p1.toNatClampNeg) = (nI 1)) → inR (((nI 100) * p1) + p2) 800 ∧ K (nI 0) (wI h3 22 0 (((nI 100) * p1) + p2).toNatClampNeg p3.toInt16.toInt32))) ∧ (¬ (¬ (h3.1 21 3 p1.toNatClampNeg) = 0) → inR (((nI 100) * p1) + p2) 800 ∧ K (nI 0) (wI h3 22 0 (((nI 100) * p1) + p2).toNatClampNeg p3.toInt8.toInt32))) ∧ (¬ (¬ x4 = 0) → K (iI (-13)) h3))) ∧ (¬ (x2 = 0) → K x2 h1))) : AW M_X11_put (.inl K) 0 [some (aR 15 0), some (aI p1), some (aI p2), some (aI p3), none] [] h 0 0 := AW_go (cuts := []) ok_X11_put 400 H

theorem MSh_uE {h : AH} {S : Sm} {m i : Nat} {x : Int32} (hs : MSh h S) (hm : m < 8) (hi : i < 100) : MSh (wI h 22 0 (100 * m + i) x) (uE S m i x) := by
  intro d hd
  obtain ⟨a, b, c⟩ := hs d hd
  have g : ∀ b j, (wI h 22 0 (100 * m + i) x).1 21 b j = h.1 21 b j := fun b j => wI_nt (by omega)
  rw [g, g, g, g, g]
  refine ⟨a, b, fun q => ⟨(c q).1, (c q).2.1, fun j hj => ?_⟩⟩
  show uI h.1 22 0 (100 * m + i) x 22 0 (100 * d + j) = if d = m ∧ j = i then x else S.2 d j
  by_cases e : d = m ∧ j = i
  · rw [if_pos e, e.1, e.2, uI_at]
  · rw [if_neg e, uI_ni (by omega)]
    exact (c q).2.2 j hj
theorem snd_X11_put (d i v : Int32) {h : AH} {K : Int32 → AH → Prop} (k : S_X11_put d i v h K) : AW M_X11_put (.inl K) 0 [some (aR 15 0), some (aI d), some (aI i), some (aI v), none] [] h 0 0 := by
  obtain ⟨S, hs, hw, k⟩ := k
  refine vc_X11_put d i v ⟨S, hs, hw, ?_⟩
  unfold S_X11_isIn
  unfold M_put at k
  rcases rwR_cases hw d with ⟨m, hm, rfl, h2, e⟩ | e
  case inr =>
    rw [if_pos e] at k
    exact ⟨fun q => absurd q e, fun _ => k h (onlyS_rfl h) hs⟩
  refine ⟨fun _ => ?_, fun q => absurd e q⟩
  rw [if_neg (fun z => z e)] at k
  unfold nN at k
  rw [n_cl (show m < 2147483648 by omega)] at k
  obtain ⟨a, b, c⟩ := hs m hm
  obtain ⟨c1, c2, c3⟩ := c h2
  have hw3 := (hw m hm).2.2 h2
  simp (disch := omega) only [n_inT, n_cl, true_and, c1, c2, if10_eq, n_eq0, n_eq]
  refine ⟨fun q => ?_, fun q => ?_⟩
  · have q := Decidable.not_not.mp q
    rw [if_neg (fun z => z q)] at k
    obtain ⟨j, hj, rfl⟩ := (in_iff (by omega)).mp q
    rw [n_cl (show j < 2147483648 by omega)] at k
    simp (disch := omega) only [pk_mul, nI_add, n_inT, n_cl, true_and]
    have k2 := k _ (onlyS_w (h := h) (t := 22) (p := 0) (i := 100 * m + j) (x := cutS (S.1 3 m) v) (by omega)) (MSh_uE hs hm (by omega))
    unfold cutS at k2
    refine ⟨fun q1 => ⟨fun q2 => ?_, fun q2 => ?_⟩, fun q1 => ?_⟩
    · rw [if_neg q1, if_neg q2] at k2; exact k2
    · rw [if_neg q1, if_pos (Decidable.not_not.mp q2)] at k2; exact k2
    · rw [if_pos (Decidable.not_not.mp q1)] at k2; exact k2
  · rw [if_pos (fun z => q (fun y => y z))] at k; exact k h (onlyS_rfl h) hs
theorem tr_X11_put : ∀ (as : List AV) (h : AH) (K : Int32 → AH → Prop), T_X11_put as h K → ∃ (q : Nat) (r : List AV), as = aR 15 q :: r := by
  intro as h K hk
  match as, hk with
  | [.inr (.inr (.inl q0)), .inl q1, .inl q2, .inl q3], hk =>
    obtain ⟨hb, hk⟩ := tif_inv hk
    simp only [Bool.and_eq_true] at hb
    obtain ⟨e0, e1⟩ := hb
    obtain ⟨a0, b0⟩ := q0
    have f0 : a0 = 15 := Nat.eq_of_beq_eq_true e0
    subst f0
    have f1 : b0 = 0 := Nat.eq_of_beq_eq_true e1
    subst f1
    exact ⟨_, _, rfl⟩
theorem tw_X11_put : ∀ (as : List AV) (h : AH) (K : Int32 → AH → Prop), T_X11_put as h K → (ini as).length ≤ mNL M_X11_put ∧ AW M_X11_put (.inl K) 0 (initL (mNL M_X11_put) as) [] h 0 0 := by
  intro as h K hk
  match as, hk with
  | [.inr (.inr (.inl q0)), .inl q1, .inl q2, .inl q3], hk =>
    obtain ⟨hb, hk⟩ := tif_inv hk
    simp only [Bool.and_eq_true] at hb
    obtain ⟨e0, e1⟩ := hb
    obtain ⟨a0, b0⟩ := q0
    have f0 : a0 = 15 := Nat.eq_of_beq_eq_true e0
    subst f0
    have f1 : b0 = 0 := Nat.eq_of_beq_eq_true e1
    subst f1
    exact ⟨Nat.le_of_ble_eq_true rfl, snd_X11_put q1 q2 q3 hk⟩

def elT (S : Sm) (d i : Int32) : Nat := if ¬ cel d then 1 else if S.1 0 (nN d) ≠ 2 ∨ ¬ (nI 0 ≤ i ∧ i ≤ nI (S.1 4 (nN d)) - nI 1) then 2 else 0
def elV (S : Sm) (d i : Int32) : Int64 := if elT S d i = 0 then (S.2 (nN d) (nN i)).toInt64 else Int64.ofNat 0
def S_X11_element (d i : Int32) (h : AH) (K : Int64 → AH → Prop) : Prop := ∃ S, MSh h S ∧ WS S ∧ K (elV S d i) (wI h 15 0 22 (nI (elT S d i)))
def T_X11_element : List AV → AH → (Int64 → AH → Prop) → Prop := fun as h K => match as with
  | [.inr (.inr (.inl q0)), .inl q1, .inl q2] => tif (Nat.beq q0.1 15 && Nat.beq q0.2 0) (S_X11_element q1 q2 h K)
  | _ => False

def M_X11_element : MI := (RX11, cX11_element, 3, [(0, .aload_n 0, []), (1, .iload_n 1, []), (2, .invokestatic 226, []), (5, .ifCond .ne 7, [12]), (8, .iconst 1, []), (9, .goto 34, [43]), (12, .aload_n 0, []), (13, .getfield 35, []), (16, .iload_n 1, []), (17, .iaload, []), (18, .iconst 2, []), (19, .if_icmp .ne 19, [38]), (22, .iload_n 2, []), (23, .iconst 0, []), (24, .aload_n 0, []), (25, .getfield 47, []), (28, .iload_n 1, []), (29, .iaload, []), (30, .iconst 1, []), (31, .isub, []), (32, .invokestatic 53, []), (35, .ifCond .ne 7, [42]), (38, .iconst 2, []), (39, .goto 4, [43]), (42, .iconst 0, []), (43, .putfield 245, []), (46, .aload_n 0, []), (47, .getfield 245, []), (50, .ifCond .ne 18, [68]), (53, .aload_n 0, []), (54, .getfield 50, []), (57, .bipush 100, []), (59, .iload_n 1, []), (60, .imul, []), (61, .iload_n 2, []), (62, .iadd, []), (63, .iaload, []), (64, .i2l, []), (65, .goto 4, [69]), (68, .lconst 0, []), (69, .lreturn, [])], [(35, (15, 16, 1, 21, 0)), (47, (15, 20, 1, 21, 4)), (245, (15, 22, 0, 0, 0)), (50, (15, 21, 1, 22, 0))], [], [], [(679, (1, 2, 42, 0, 0, .inl T_X11_isShelf)), (160, (3, 1, 22, 0, 0, .inl T_X11_isIn))], 2, 42, 0, 0)
theorem ok_X11_element : MOK M_X11_element := ⟨by decide +kernel, List.forall_mem_cons.mpr ⟨fl_RX11_35, List.forall_mem_cons.mpr ⟨fl_RX11_47, List.forall_mem_cons.mpr ⟨fl_RX11_245, List.forall_mem_cons.mpr ⟨fl_RX11_50, fun _ h => absurd h List.not_mem_nil⟩⟩⟩⟩, fun _ h => absurd h List.not_mem_nil, fun _ h => absurd h List.not_mem_nil, List.forall_mem_cons.mpr ⟨⟨Nat.le_of_ble_eq_true rfl, Nat.le_of_ble_eq_true rfl, cr_RX11_679⟩, List.forall_mem_cons.mpr ⟨⟨Nat.le_of_ble_eq_true rfl, Nat.le_of_ble_eq_true rfl, cr_RX11_160⟩, fun _ h => absurd h List.not_mem_nil⟩⟩⟩
set_option maxRecDepth 100000 in
theorem vc_X11_element {K : Int64 → AH → Prop} {h : AH} (p1 : Int32) (p2 : Int32) (H : S_X11_isShelf p1 h (fun x2 h1 => ((¬ x2 = 0) → inR p1 8 ∧ ((¬ (h1.1 21 0 p1.toNatClampNeg) = (nI 2)) → ((¬ ((wI h1 15 0 22 (nI 2)).1 15 0 22) = 0) → K (Int64.ofNat 0) (wI h1 15 0 22 (nI 2))) ∧ (¬ (¬ ((wI h1 15 0 22 (nI 2)).1 15 0 22) = 0) → inR (((nI 100) * p1) + p2) 800 ∧ K (((wI h1 15 0 22 (nI 2)).1 22 0 (((nI 100) * p1) + p2).toNatClampNeg).toInt64) (wI h1 15 0 22 (nI 2)))) ∧ (¬ (¬ (h1.1 21 0 p1.toNatClampNeg) = (nI 2)) → inR p1 8 ∧ S_X11_isIn p2 (nI 0) ((h1.1 21 4 p1.toNatClampNeg) - (nI 1)) h1 (fun x4 h3 => ((¬ x4 = 0) → ((¬ ((wI h3 15 0 22 (nI 0)).1 15 0 22) = 0) → K (Int64.ofNat 0) (wI h3 15 0 22 (nI 0))) ∧ (¬ (¬ ((wI h3 15 0 22 (nI 0)).1 15 0 22) = 0) → inR (((nI 100) * p1) + p2) 800 ∧ K (((wI h3 15 0 22 (nI 0)).1 22 0 (((nI 100) * p1) + p2).toNatClampNeg).toInt64) (wI h3 15 0 22 (nI 0)))) ∧ (¬ (¬ x4 = 0) → ((¬ ((wI h3 15 0 22 (nI 2)).1 15 0 22) = 0) → K (Int64.ofNat 0) (wI h3 15 0 22 (nI 2))) ∧ (¬ (¬ ((wI h3 15 0 22 (nI 2)).1 15 0 22) = 0) → inR (((nI 100) * p1) + p2) 800 ∧ K (((wI h3 15 0 22 (nI 2)).1 22 0 (((nI 100) * p1) + p2).toNatClampNeg).toInt64) (wI h3 15 0 22 (nI 2))))))) ∧ (¬ (¬ x2 = 0) → ((¬ ((wI h1 15 0 22 (nI 1)).1 15 0 22) = 0) → K (Int64.ofNat 0) (wI h1 15 0 22 (nI 1))) ∧ (¬ (¬ ((wI h1 15 0 22 (nI 1)).1 15 0 22) = 0) → inR (((nI 100) * p1) + p2) 800 ∧ K (((wI h1 15 0 22 (nI 1)).1 22 0 (((nI 100) * p1) + p2).toNatClampNeg).toInt64) (wI h1 15 0 22 (nI 1)))))) : AW M_X11_element (.inr (.inr (.inl K))) 0 [some (aR 15 0), some (aI p1), some (aI p2)] [] h 0 0 := AW_go (cuts := []) ok_X11_element 400 H

theorem snd_X11_element (d i : Int32) {h : AH} {K : Int64 → AH → Prop} (k : S_X11_element d i h K) : AW M_X11_element (.inr (.inr (.inl K))) 0 [some (aR 15 0), some (aI d), some (aI i)] [] h 0 0 := by
  obtain ⟨S, hs, hw, k⟩ := k
  refine vc_X11_element d i ?_
  unfold S_X11_isIn S_X11_isShelf
  simp only [if10_eq, wI_at]
  refine ⟨fun q => ?_, fun q => ⟨fun _ => ?_, fun z => absurd (fun z2 => by cases z2) z⟩⟩
  · have q := Decidable.not_not.mp q
    obtain ⟨m, hm, rfl⟩ := in8_iff.mp q
    obtain ⟨a, b, c⟩ := hs m hm
    have hw1 := (hw m hm).1
    simp (disch := omega) only [n_inT, n_cl, true_and, a, n_eq]
    refine ⟨fun q1 => ⟨fun _ => ?_, fun z => absurd (fun z2 => by cases z2) z⟩, fun q1 => ?_⟩
    · have e : elT S (nI m) i = 2 := by unfold elT; rw [if_neg (fun z => z q)]; unfold nN; rw [n_cl (by omega), if_pos (Or.inl q1)]
      unfold elV at k
      rw [e, if_neg (by decide)] at k
      exact k
    · have q1 := Decidable.not_not.mp q1
      obtain ⟨c1, c2, c3⟩ := c q1
      rw [c2]
      have hw3 := (hw m hm).2.2 q1
      refine ⟨fun q2 => ⟨fun z => absurd rfl z, fun _ => ?_⟩, fun q2 => ⟨fun _ => ?_, fun z => absurd (fun z2 => by cases z2) z⟩⟩
      · have q2 := Decidable.not_not.mp q2
        have e : elT S (nI m) i = 0 := by unfold elT; rw [if_neg (fun z => z q)]; unfold nN; rw [n_cl (by omega), if_neg (by rintro (z | z); exact z q1; exact z q2)]
        obtain ⟨j, hj, rfl⟩ := (in_iff (by omega)).mp q2
        unfold elV at k
        rw [e, if_pos rfl] at k
        unfold nN at k
        rw [n_cl (by omega), n_cl (by omega)] at k
        simp (disch := omega) only [pk_mul, nI_add, n_inT, n_cl, true_and]
        rw [uI_nt (by omega), c3 j (by omega)]
        exact k
      · have e : elT S (nI m) i = 2 := by unfold elT; rw [if_neg (fun z => z q)]; unfold nN; rw [n_cl (by omega), if_pos (Or.inr (fun z => q2 (fun y => y z)))]
        unfold elV at k
        rw [e, if_neg (by decide)] at k
        exact k
  · have e : elT S d i = 1 := by unfold elT; rw [if_pos (fun z => q (fun y => y z))]
    unfold elV at k
    rw [e, if_neg (by decide)] at k
    exact k
theorem tr_X11_element : ∀ (as : List AV) (h : AH) (K : Int64 → AH → Prop), T_X11_element as h K → ∃ (q : Nat) (r : List AV), as = aR 15 q :: r := by
  intro as h K hk
  match as, hk with
  | [.inr (.inr (.inl q0)), .inl q1, .inl q2], hk =>
    obtain ⟨hb, hk⟩ := tif_inv hk
    simp only [Bool.and_eq_true] at hb
    obtain ⟨e0, e1⟩ := hb
    obtain ⟨a0, b0⟩ := q0
    have f0 : a0 = 15 := Nat.eq_of_beq_eq_true e0
    subst f0
    have f1 : b0 = 0 := Nat.eq_of_beq_eq_true e1
    subst f1
    exact ⟨_, _, rfl⟩
theorem tw_X11_element : ∀ (as : List AV) (h : AH) (K : Int64 → AH → Prop), T_X11_element as h K → (ini as).length ≤ mNL M_X11_element ∧ AW M_X11_element (.inr (.inr (.inl K))) 0 (initL (mNL M_X11_element) as) [] h 0 0 := by
  intro as h K hk
  match as, hk with
  | [.inr (.inr (.inl q0)), .inl q1, .inl q2], hk =>
    obtain ⟨hb, hk⟩ := tif_inv hk
    simp only [Bool.and_eq_true] at hb
    obtain ⟨e0, e1⟩ := hb
    obtain ⟨a0, b0⟩ := q0
    have f0 : a0 = 15 := Nat.eq_of_beq_eq_true e0
    subst f0
    have f1 : b0 = 0 := Nat.eq_of_beq_eq_true e1
    subst f1
    exact ⟨Nat.le_of_ble_eq_true rfl, snd_X11_element q1 q2 hk⟩

def S_X11_thrown (h : AH) (K : Int32 → AH → Prop) : Prop := K (h.1 15 0 22) h
def T_X11_thrown : List AV → AH → (Int32 → AH → Prop) → Prop := fun as h K => match as with
  | [.inr (.inr (.inl q0))] => tif (Nat.beq q0.1 15 && Nat.beq q0.2 0) (S_X11_thrown h K)
  | _ => False

def M_X11_thrown : MI := (RX11, cX11_thrown, 1, [(0, .aload_n 0, []), (1, .getfield 245, []), (4, .ireturn, [])], [(245, (15, 22, 0, 0, 0))], [], [], [], 0, 0, 0, 0)
theorem ok_X11_thrown : MOK M_X11_thrown := ⟨by decide +kernel, List.forall_mem_cons.mpr ⟨fl_RX11_245, fun _ h => absurd h List.not_mem_nil⟩, fun _ h => absurd h List.not_mem_nil, fun _ h => absurd h List.not_mem_nil, fun _ h => absurd h List.not_mem_nil⟩
set_option maxRecDepth 100000 in
theorem vc_X11_thrown {K : Int32 → AH → Prop} {h : AH}  (H : K (h.1 15 0 22) h) : AW M_X11_thrown (.inl K) 0 [some (aR 15 0)] [] h 0 0 := AW_go (cuts := []) ok_X11_thrown 400 H

theorem snd_X11_thrown {h : AH} {K : Int32 → AH → Prop} (k : S_X11_thrown h K) : AW M_X11_thrown (.inl K) 0 [some (aR 15 0)] [] h 0 0 := vc_X11_thrown k
theorem tr_X11_thrown : ∀ (as : List AV) (h : AH) (K : Int32 → AH → Prop), T_X11_thrown as h K → ∃ (q : Nat) (r : List AV), as = aR 15 q :: r := by
  intro as h K hk
  match as, hk with
  | [.inr (.inr (.inl q0))], hk =>
    obtain ⟨hb, hk⟩ := tif_inv hk
    simp only [Bool.and_eq_true] at hb
    obtain ⟨e0, e1⟩ := hb
    obtain ⟨a0, b0⟩ := q0
    have f0 : a0 = 15 := Nat.eq_of_beq_eq_true e0
    subst f0
    have f1 : b0 = 0 := Nat.eq_of_beq_eq_true e1
    subst f1
    exact ⟨_, _, rfl⟩
theorem tw_X11_thrown : ∀ (as : List AV) (h : AH) (K : Int32 → AH → Prop), T_X11_thrown as h K → (ini as).length ≤ mNL M_X11_thrown ∧ AW M_X11_thrown (.inl K) 0 (initL (mNL M_X11_thrown) as) [] h 0 0 := by
  intro as h K hk
  match as, hk with
  | [.inr (.inr (.inl q0))], hk =>
    obtain ⟨hb, hk⟩ := tif_inv hk
    simp only [Bool.and_eq_true] at hb
    obtain ⟨e0, e1⟩ := hb
    obtain ⟨a0, b0⟩ := q0
    have f0 : a0 = 15 := Nat.eq_of_beq_eq_true e0
    subst f0
    have f1 : b0 = 0 := Nat.eq_of_beq_eq_true e1
    subst f1
    exact ⟨Nat.le_of_ble_eq_true rfl, snd_X11_thrown  hk⟩

def S_X11_costBy (k f : Int32) (h : AH) (K : Int32 → AH → Prop) : Prop := ∃ i j, i ≤ 7 ∧ j ≤ 9 ∧ k = nI i ∧ f = nI j ∧ K (nI (cstk i j)) h
def T_X11_costBy : List AV → AH → (Int32 → AH → Prop) → Prop := fun as h K => match as with
  | [.inl q0, .inl q1] => S_X11_costBy q0 q1 h K
  | _ => False

def M_X11_costBy : MI := (RX11, cX11_costBy, 2, [(0, .iload_n 0, []), (1, .tableswitch 65 1 7 #[43, 45, 49, 56, 59, 63, 63], [66, 44, 46, 50, 57, 60, 64, 64]), (44, .iconst 2, []), (45, .ireturn, []), (46, .iconst 3, []), (47, .iload_n 1, []), (48, .iadd, []), (49, .ireturn, []), (50, .bipush 6, []), (52, .iconst 2, []), (53, .iload_n 1, []), (54, .imul, []), (55, .iadd, []), (56, .ireturn, []), (57, .bipush 6, []), (59, .ireturn, []), (60, .iconst 4, []), (61, .iload_n 1, []), (62, .iadd, []), (63, .ireturn, []), (64, .iconst 1, []), (65, .ireturn, []), (66, .iconst 3, []), (67, .ireturn, [])], [], [], [], [], 0, 0, 0, 0)
theorem ok_X11_costBy : MOK M_X11_costBy := ⟨by decide +kernel, fun _ h => absurd h List.not_mem_nil, fun _ h => absurd h List.not_mem_nil, fun _ h => absurd h List.not_mem_nil, fun _ h => absurd h List.not_mem_nil⟩
set_option maxRecDepth 100000 in
theorem vc_X11_costBy {K : Int32 → AH → Prop} {h : AH} (p0 : Int32) (p1 : Int32) (H : (p0.toInt < 1 ∨ 7 < p0.toInt → K (nI 3) h) ∧ (p0 = nI 1 → K (nI 2) h) ∧ (p0 = nI 2 → K ((nI 3) + p1) h) ∧ (p0 = nI 3 → K ((nI 6) + ((nI 2) * p1)) h) ∧ (p0 = nI 4 → K (nI 6) h) ∧ (p0 = nI 5 → K ((nI 4) + p1) h) ∧ (p0 = nI 6 → K (nI 1) h) ∧ (p0 = nI 7 → K (nI 1) h) ∧ True) : AW M_X11_costBy (.inl K) 0 [some (aI p0), some (aI p1)] [] h 0 0 := AW_go (cuts := []) ok_X11_costBy 400 H

theorem snd_X11_costBy (k f : Int32) {h : AH} {K : Int32 → AH → Prop} (kk : S_X11_costBy k f h K) : AW M_X11_costBy (.inl K) 0 [some (aI k), some (aI f)] [] h 0 0 := by
  obtain ⟨i, j, hi, hj, rfl, rfl, kk⟩ := kk
  refine vc_X11_costBy (nI i) (nI j) ?_
  unfold cstk at kk
  simp (disch := omega) only [n_toInt, n_eq, nI_add, pk_mul]
  grind
theorem tw_X11_costBy : ∀ (as : List AV) (h : AH) (K : Int32 → AH → Prop), T_X11_costBy as h K → (ini as).length ≤ mNL M_X11_costBy ∧ AW M_X11_costBy (.inl K) 0 (initL (mNL M_X11_costBy) as) [] h 0 0 := by
  intro as h K hk
  match as, hk with
  | [.inl q0, .inl q1], hk =>
    exact ⟨Nat.le_of_ble_eq_true rfl, snd_X11_costBy q0 q1 hk⟩
theorem cr_RX11_745 : CR RX11 (kIns 745) (2, 1, 21, 0, 0, .inl T_X11_costBy) := crS_i (M := M_X11_costBy) (by decide) rfl (inG (i := 1320) (w := Cond.methodLink RX11 248 yX11_costBy) (by decide +kernel) rfl) (inG (i := 1321) (w := Cond.static yX11_costBy) (by decide +kernel) rfl) (inG (i := 40) (w := Cond.initialized RX11) (by decide +kernel) rfl) (inG (i := 1322) (w := Cond.code yX11_costBy cX11_costBy 2 (some .int)) (by decide +kernel) rfl) ⟨by decide +kernel, by decide +kernel, by decide +kernel⟩ tw_X11_costBy

def R_cost (S : Sm) (d : Int32) : Int32 := if rwK S d ≠ nI 0 then rwK S d else nI (cstk (S.1 1 (nN d)) (S.1 2 (nN d)))
def S_X11_cost (d : Int32) (h : AH) (K : Int32 → AH → Prop) : Prop := ∃ S, MSh h S ∧ WS S ∧ K (R_cost S d) h
def T_X11_cost : List AV → AH → (Int32 → AH → Prop) → Prop := fun as h K => match as with
  | [.inr (.inr (.inl q0)), .inl q1] => tif (Nat.beq q0.1 15 && Nat.beq q0.2 0) (S_X11_cost q1 h K)
  | _ => False

def M_X11_cost : MI := (RX11, cX11_cost, 3, [(0, .aload_n 0, []), (1, .iload_n 1, []), (2, .invokevirtual 161, []), (5, .istore_n 2, []), (6, .iload_n 2, []), (7, .ifCond .eq 7, [14]), (10, .iload_n 2, []), (11, .goto 18, [29]), (14, .aload_n 0, []), (15, .getfield 38, []), (18, .iload_n 1, []), (19, .iaload, []), (20, .aload_n 0, []), (21, .getfield 41, []), (24, .iload_n 1, []), (25, .iaload, []), (26, .invokestatic 248, []), (29, .ireturn, [])], [(38, (15, 17, 1, 21, 1)), (41, (15, 18, 1, 21, 2))], [], [], [(483, (2, 3, 63, 0, 0, .inl T_X11_wrongKept)), (745, (2, 1, 21, 0, 0, .inl T_X11_costBy))], 3, 63, 0, 0)
theorem ok_X11_cost : MOK M_X11_cost := ⟨by decide +kernel, List.forall_mem_cons.mpr ⟨fl_RX11_38, List.forall_mem_cons.mpr ⟨fl_RX11_41, fun _ h => absurd h List.not_mem_nil⟩⟩, fun _ h => absurd h List.not_mem_nil, fun _ h => absurd h List.not_mem_nil, List.forall_mem_cons.mpr ⟨⟨Nat.le_of_ble_eq_true rfl, Nat.le_of_ble_eq_true rfl, cr_RX11_483⟩, List.forall_mem_cons.mpr ⟨⟨Nat.le_of_ble_eq_true rfl, Nat.le_of_ble_eq_true rfl, cr_RX11_745⟩, fun _ h => absurd h List.not_mem_nil⟩⟩⟩
set_option maxRecDepth 100000 in
theorem vc_X11_cost {K : Int32 → AH → Prop} {h : AH} (p1 : Int32) (H : S_X11_wrongKept p1 h (fun x2 h1 => ((x2 = 0) → inR p1 8 ∧ inR p1 8 ∧ S_X11_costBy (h1.1 21 1 p1.toNatClampNeg) (h1.1 21 2 p1.toNatClampNeg) h1 (fun x4 h3 => K x4 h3)) ∧ (¬ (x2 = 0) → K x2 h1))) : AW M_X11_cost (.inl K) 0 [some (aR 15 0), some (aI p1), none] [] h 0 0 := AW_go (cuts := []) ok_X11_cost 400 H

theorem snd_X11_cost (d : Int32) {h : AH} {K : Int32 → AH → Prop} (k : S_X11_cost d h K) : AW M_X11_cost (.inl K) 0 [some (aR 15 0), some (aI d), none] [] h 0 0 := by
  obtain ⟨S, hs, hw, k⟩ := k
  refine vc_X11_cost d ⟨S, hs, hw, ?_⟩
  unfold R_cost at k
  rcases rwK_cases hw d with ⟨m, hm, rfl, h2, e⟩ | e
  case inr =>
    rw [if_pos e] at k
    exact ⟨fun q => absurd q e, fun _ => k⟩
  refine ⟨fun _ => ?_, fun q => absurd e q⟩
  rw [if_neg (fun z => z e)] at k
  unfold nN at k
  rw [n_cl (show m < 2147483648 by omega)] at k
  obtain ⟨a, b, c⟩ := hs m hm
  obtain ⟨b1, b2⟩ := b h2
  have hb := (hw m hm).2.1 h2
  simp (disch := omega) only [n_inT, n_cl, true_and, b1, b2]
  exact ⟨_, _, hb.1, hb.2, rfl, rfl, k⟩
theorem tr_X11_cost : ∀ (as : List AV) (h : AH) (K : Int32 → AH → Prop), T_X11_cost as h K → ∃ (q : Nat) (r : List AV), as = aR 15 q :: r := by
  intro as h K hk
  match as, hk with
  | [.inr (.inr (.inl q0)), .inl q1], hk =>
    obtain ⟨hb, hk⟩ := tif_inv hk
    simp only [Bool.and_eq_true] at hb
    obtain ⟨e0, e1⟩ := hb
    obtain ⟨a0, b0⟩ := q0
    have f0 : a0 = 15 := Nat.eq_of_beq_eq_true e0
    subst f0
    have f1 : b0 = 0 := Nat.eq_of_beq_eq_true e1
    subst f1
    exact ⟨_, _, rfl⟩
theorem tw_X11_cost : ∀ (as : List AV) (h : AH) (K : Int32 → AH → Prop), T_X11_cost as h K → (ini as).length ≤ mNL M_X11_cost ∧ AW M_X11_cost (.inl K) 0 (initL (mNL M_X11_cost) as) [] h 0 0 := by
  intro as h K hk
  match as, hk with
  | [.inr (.inr (.inl q0)), .inl q1], hk =>
    obtain ⟨hb, hk⟩ := tif_inv hk
    simp only [Bool.and_eq_true] at hb
    obtain ⟨e0, e1⟩ := hb
    obtain ⟨a0, b0⟩ := q0
    have f0 : a0 = 15 := Nat.eq_of_beq_eq_true e0
    subst f0
    have f1 : b0 = 0 := Nat.eq_of_beq_eq_true e1
    subst f1
    exact ⟨Nat.le_of_ble_eq_true rfl, snd_X11_cost q1 hk⟩

def R_toss (S : Sm) (d : Int32) : Int32 := if rwK S d ≠ nI 0 then rwK S d else if S.1 1 (nN d) = 7 ∨ S.1 2 (nN d) = 0 then iI (-15) else if S.1 1 (nN d) = 3 then nI (200 + cstk (S.1 1 (nN d)) (S.1 2 (nN d))) else if S.1 1 (nN d) = 2 ∨ S.1 1 (nN d) = 5 then nI (100 + S.1 2 (nN d)) else nI (S.1 2 (nN d))
def S_X11_toss (d : Int32) (h : AH) (K : Int32 → AH → Prop) : Prop := ∃ S, MSh h S ∧ WS S ∧ K (R_toss S d) h
def T_X11_toss : List AV → AH → (Int32 → AH → Prop) → Prop := fun as h K => match as with
  | [.inr (.inr (.inl q0)), .inl q1] => tif (Nat.beq q0.1 15 && Nat.beq q0.2 0) (S_X11_toss q1 h K)
  | _ => False

def M_X11_toss : MI := (RX11, cX11_toss, 5, [(0, .aload_n 0, []), (1, .iload_n 1, []), (2, .invokevirtual 161, []), (5, .istore_n 2, []), (6, .iload_n 2, []), (7, .ifCond .eq 5, [12]), (10, .iload_n 2, []), (11, .ireturn, []), (12, .aload_n 0, []), (13, .getfield 38, []), (16, .iload_n 1, []), (17, .iaload, []), (18, .istore_n 3, []), (19, .aload_n 0, []), (20, .getfield 41, []), (23, .iload_n 1, []), (24, .iaload, []), (25, .istore 4, []), (27, .iload_n 3, []), (28, .bipush 7, []), (30, .if_icmp .eq 8, [38]), (33, .iload 4, []), (35, .ifCond .ne 6, [41]), (38, .bipush (-15), []), (40, .ireturn, []), (41, .iload_n 3, []), (42, .iconst 3, []), (43, .if_icmp .ne 16, [59]), (46, .sipush 200, []), (49, .iload_n 3, []), (50, .iload 4, []), (52, .invokestatic 248, []), (55, .iadd, []), (56, .goto 23, [79]), (59, .iload_n 3, []), (60, .iconst 2, []), (61, .if_icmp .eq 8, [69]), (64, .iload_n 3, []), (65, .iconst 5, []), (66, .if_icmp .ne 11, [77]), (69, .bipush 100, []), (71, .iload 4, []), (73, .iadd, []), (74, .goto 5, [79]), (77, .iload 4, []), (79, .ireturn, [])], [(38, (15, 17, 1, 21, 1)), (41, (15, 18, 1, 21, 2))], [], [], [(483, (2, 3, 63, 0, 0, .inl T_X11_wrongKept)), (745, (2, 1, 21, 0, 0, .inl T_X11_costBy))], 3, 63, 0, 0)
theorem ok_X11_toss : MOK M_X11_toss := ⟨by decide +kernel, List.forall_mem_cons.mpr ⟨fl_RX11_38, List.forall_mem_cons.mpr ⟨fl_RX11_41, fun _ h => absurd h List.not_mem_nil⟩⟩, fun _ h => absurd h List.not_mem_nil, fun _ h => absurd h List.not_mem_nil, List.forall_mem_cons.mpr ⟨⟨Nat.le_of_ble_eq_true rfl, Nat.le_of_ble_eq_true rfl, cr_RX11_483⟩, List.forall_mem_cons.mpr ⟨⟨Nat.le_of_ble_eq_true rfl, Nat.le_of_ble_eq_true rfl, cr_RX11_745⟩, fun _ h => absurd h List.not_mem_nil⟩⟩⟩
set_option maxRecDepth 100000 in
theorem vc_X11_toss {K : Int32 → AH → Prop} {h : AH} (p1 : Int32) (H : S_X11_wrongKept p1 h (fun x2 h1 => ((x2 = 0) → inR p1 8 ∧ inR p1 8 ∧ (((h1.1 21 1 p1.toNatClampNeg) = (nI 7)) → K (iI (-15)) h1) ∧ (¬ ((h1.1 21 1 p1.toNatClampNeg) = (nI 7)) → ((¬ (h1.1 21 2 p1.toNatClampNeg) = 0) → ((¬ (h1.1 21 1 p1.toNatClampNeg) = (nI 3)) → (((h1.1 21 1 p1.toNatClampNeg) = (nI 2)) → K ((nI 100) + (h1.1 21 2 p1.toNatClampNeg)) h1) ∧ (¬ ((h1.1 21 1 p1.toNatClampNeg) = (nI 2)) → ((¬ (h1.1 21 1 p1.toNatClampNeg) = (nI 5)) → K (h1.1 21 2 p1.toNatClampNeg) h1) ∧ (¬ (¬ (h1.1 21 1 p1.toNatClampNeg) = (nI 5)) → K ((nI 100) + (h1.1 21 2 p1.toNatClampNeg)) h1))) ∧ (¬ (¬ (h1.1 21 1 p1.toNatClampNeg) = (nI 3)) → S_X11_costBy (h1.1 21 1 p1.toNatClampNeg) (h1.1 21 2 p1.toNatClampNeg) h1 (fun x4 h3 => K ((nI 200) + x4) h3))) ∧ (¬ (¬ (h1.1 21 2 p1.toNatClampNeg) = 0) → K (iI (-15)) h1))) ∧ (¬ (x2 = 0) → K x2 h1))) : AW M_X11_toss (.inl K) 0 [some (aR 15 0), some (aI p1), none, none, none] [] h 0 0 := AW_go (cuts := []) ok_X11_toss 400 H

theorem snd_X11_toss (d : Int32) {h : AH} {K : Int32 → AH → Prop} (k : S_X11_toss d h K) : AW M_X11_toss (.inl K) 0 [some (aR 15 0), some (aI d), none, none, none] [] h 0 0 := by
  obtain ⟨S, hs, hw, k⟩ := k
  refine vc_X11_toss d ⟨S, hs, hw, ?_⟩
  unfold R_toss at k
  rcases rwK_cases hw d with ⟨m, hm, rfl, h2, e⟩ | e
  case inr =>
    rw [if_pos e] at k
    exact ⟨fun q => absurd q e, fun _ => k⟩
  refine ⟨fun _ => ?_, fun q => absurd e q⟩
  rw [if_neg (fun z => z e)] at k
  unfold nN at k
  rw [n_cl (show m < 2147483648 by omega)] at k
  obtain ⟨a, b, c⟩ := hs m hm
  obtain ⟨b1, b2⟩ := b h2
  have hb := (hw m hm).2.1 h2
  simp (disch := omega) only [n_inT, n_cl, true_and, b1, b2, n_eq, n_eq0, nI_add]
  refine ⟨fun q1 => ?_, fun q1 => ⟨fun q2 => ⟨fun q3 => ⟨fun q4 => ?_, fun q4 => ⟨fun q5 => ?_, fun q5 => ?_⟩⟩, fun q3 => ⟨_, _, hb.1, hb.2, rfl, rfl, ?_⟩⟩, fun q2 => ?_⟩⟩
  · rw [if_pos (Or.inl q1)] at k; exact k
  · rw [if_neg (by rintro (z | z); exact q1 z; exact q2 z), if_neg q3, if_pos (Or.inl q4)] at k; exact k
  · rw [if_neg (by rintro (z | z); exact q1 z; exact q2 z), if_neg q3, if_neg (by rintro (z | z); exact q4 z; exact q5 z)] at k; exact k
  · rw [if_neg (by rintro (z | z); exact q1 z; exact q2 z), if_neg q3, if_pos (Or.inr (Decidable.not_not.mp q5))] at k; exact k
  · rw [if_neg (by rintro (z | z); exact q1 z; exact q2 z), if_pos (Decidable.not_not.mp q3)] at k
    rw [nI_add]
    exact k
  · rw [if_pos (Or.inr (Decidable.not_not.mp q2))] at k; exact k
theorem tr_X11_toss : ∀ (as : List AV) (h : AH) (K : Int32 → AH → Prop), T_X11_toss as h K → ∃ (q : Nat) (r : List AV), as = aR 15 q :: r := by
  intro as h K hk
  match as, hk with
  | [.inr (.inr (.inl q0)), .inl q1], hk =>
    obtain ⟨hb, hk⟩ := tif_inv hk
    simp only [Bool.and_eq_true] at hb
    obtain ⟨e0, e1⟩ := hb
    obtain ⟨a0, b0⟩ := q0
    have f0 : a0 = 15 := Nat.eq_of_beq_eq_true e0
    subst f0
    have f1 : b0 = 0 := Nat.eq_of_beq_eq_true e1
    subst f1
    exact ⟨_, _, rfl⟩
theorem tw_X11_toss : ∀ (as : List AV) (h : AH) (K : Int32 → AH → Prop), T_X11_toss as h K → (ini as).length ≤ mNL M_X11_toss ∧ AW M_X11_toss (.inl K) 0 (initL (mNL M_X11_toss) as) [] h 0 0 := by
  intro as h K hk
  match as, hk with
  | [.inr (.inr (.inl q0)), .inl q1], hk =>
    obtain ⟨hb, hk⟩ := tif_inv hk
    simp only [Bool.and_eq_true] at hb
    obtain ⟨e0, e1⟩ := hb
    obtain ⟨a0, b0⟩ := q0
    have f0 : a0 = 15 := Nat.eq_of_beq_eq_true e0
    subst f0
    have f1 : b0 = 0 := Nat.eq_of_beq_eq_true e1
    subst f1
    exact ⟨Nat.le_of_ble_eq_true rfl, snd_X11_toss q1 hk⟩

def adS (V : Vm) (i j : Nat) : Vm := uV (uV (uV V 8 (V 10 1) i) 9 (V 10 1) j) 10 1 (V 10 1 + 1)
theorem RV_add {h : AH} {V : Vm} {i j : Nat} (hw : WF V) (hr : RV (h.1 16 0) V) (h7 : V 10 1 < 7) : RV ((wI (wI (wI h 16 0 (48 + 2 * V 10 1) (nI i)) 16 0 (48 + 2 * V 10 1 + 1) (nI j)) 16 0 1 (nI (V 10 1 + 1))).1 16 0) (adS V i j) := by
  have h4 := hw.1
  have l0 : adS V i j 10 0 = V 10 0 := by unfold adS; rw [uV_ne (by omega), uV_ne (by omega), uV_ne (by omega)]
  have l1 : adS V i j 10 1 = V 10 1 + 1 := by unfold adS; rw [uV_at]
  intro t k hk
  show uI (uI (uI h.1 16 0 (48 + 2 * V 10 1) (nI i)) 16 0 (48 + 2 * V 10 1 + 1) (nI j)) 16 0 1 (nI (V 10 1 + 1)) 16 0 (ro t k) = _
  have ht : t ≤ 10 := by
    rcases Nat.lt_or_ge 10 t with h | h
    · unfold vLim at hk; split at hk <;> omega
    · exact h
  match t, ht with
  | 0, _ =>
    have hk2 : k < vLim V 0 := by simp only [vLim, l0, l1] at hk ⊢; omega
    have hlt := hk2
    simp only [vLim] at hlt
    have e := hr 0 k hk2
    simp only [ro] at e ⊢
    rw [uI_ni (by omega), uI_ni (by omega), uI_ni (by omega), e]
    unfold adS
    rw [uV_ne (by omega), uV_ne (by omega), uV_ne (by omega)]
  | 1, _ =>
    have hk2 : k < vLim V 1 := by simp only [vLim, l0, l1] at hk ⊢; omega
    have hlt := hk2
    simp only [vLim] at hlt
    have e := hr 1 k hk2
    simp only [ro] at e ⊢
    rw [uI_ni (by omega), uI_ni (by omega), uI_ni (by omega), e]
    unfold adS
    rw [uV_ne (by omega), uV_ne (by omega), uV_ne (by omega)]
  | 2, _ =>
    have hk2 : k < vLim V 2 := by simp only [vLim, l0, l1] at hk ⊢; omega
    have hlt := hk2
    simp only [vLim] at hlt
    have e := hr 2 k hk2
    simp only [ro] at e ⊢
    rw [uI_ni (by omega), uI_ni (by omega), uI_ni (by omega), e]
    unfold adS
    rw [uV_ne (by omega), uV_ne (by omega), uV_ne (by omega)]
  | 3, _ =>
    have hk2 : k < vLim V 3 := by simp only [vLim, l0, l1] at hk ⊢; omega
    have hlt := hk2
    simp only [vLim] at hlt
    have e := hr 3 k hk2
    simp only [ro] at e ⊢
    rw [uI_ni (by omega), uI_ni (by omega), uI_ni (by omega), e]
    unfold adS
    rw [uV_ne (by omega), uV_ne (by omega), uV_ne (by omega)]
  | 4, _ =>
    have hk2 : k < vLim V 4 := by simp only [vLim, l0, l1] at hk ⊢; omega
    have hlt := hk2
    simp only [vLim] at hlt
    have e := hr 4 k hk2
    simp only [ro] at e ⊢
    rw [uI_ni (by omega), uI_ni (by omega), uI_ni (by omega), e]
    unfold adS
    rw [uV_ne (by omega), uV_ne (by omega), uV_ne (by omega)]
  | 5, _ =>
    have hk2 : k < vLim V 5 := by simp only [vLim, l0, l1] at hk ⊢; omega
    have hlt := hk2
    simp only [vLim] at hlt
    have e := hr 5 k hk2
    simp only [ro] at e ⊢
    rw [uI_ni (by omega), uI_ni (by omega), uI_ni (by omega), e]
    unfold adS
    rw [uV_ne (by omega), uV_ne (by omega), uV_ne (by omega)]
  | 6, _ =>
    have hk2 : k < vLim V 6 := by simp only [vLim, l0, l1] at hk ⊢; omega
    have hlt := hk2
    simp only [vLim] at hlt
    have e := hr 6 k hk2
    simp only [ro] at e ⊢
    rw [uI_ni (by omega), uI_ni (by omega), uI_ni (by omega), e]
    unfold adS
    rw [uV_ne (by omega), uV_ne (by omega), uV_ne (by omega)]
  | 7, _ =>
    have hk2 : k < vLim V 7 := by simp only [vLim, l0, l1] at hk ⊢; omega
    have hlt := hk2
    simp only [vLim] at hlt
    have e := hr 7 k hk2
    simp only [ro] at e ⊢
    rw [uI_ni (by omega), uI_ni (by omega), uI_ni (by omega), e]
    unfold adS
    rw [uV_ne (by omega), uV_ne (by omega), uV_ne (by omega)]
  | 8, _ =>
    simp only [vLim, l1] at hk
    simp only [ro]
    by_cases e : k = V 10 1
    · subst e
      rw [uI_ni (by omega), uI_ni (by omega), uI_at]
      unfold adS
      rw [uV_ne (by omega), uV_ne (by omega), uV_at]
    · have e2 := hr 8 k (show k < V 10 1 by omega)
      simp only [ro] at e2
      rw [uI_ni (by omega), uI_ni (by omega), uI_ni (by omega), e2]
      unfold adS
      rw [uV_ne (by omega), uV_ne (by omega), uV_ne (by omega)]
  | 9, _ =>
    simp only [vLim, l1] at hk
    simp only [ro]
    by_cases e : k = V 10 1
    · subst e
      rw [uI_ni (by omega), uI_at]
      unfold adS
      rw [uV_ne (by omega), uV_at]
    · have e2 := hr 9 k (show k < V 10 1 by omega)
      simp only [ro] at e2
      rw [uI_ni (by omega), uI_ni (by omega), uI_ni (by omega), e2]
      unfold adS
      rw [uV_ne (by omega), uV_ne (by omega), uV_ne (by omega)]
  | 10, _ =>
    simp only [vLim] at hk
    simp only [ro]
    by_cases e : k = 1
    · subst e
      rw [uI_at, l1]
    · have e2 := hr 10 k (show k < 4 by omega)
      simp only [ro] at e2
      rw [uI_ni (by omega), uI_ni (by omega), uI_ni (by omega), e2]
      unfold adS
      rw [uV_ne (by omega), uV_ne (by omega), uV_ne (by omega)]
theorem WF_add {V : Vm} {i j : Nat} (hw : WF V) (h7 : V 10 1 < 7) (hi : i ≤ 7) (hj : j ≤ 9) : WF (adS V i j) := by
  have l0 : adS V i j 10 0 = V 10 0 := by unfold adS; rw [uV_ne (by omega), uV_ne (by omega), uV_ne (by omega)]
  have l1 : adS V i j 10 1 = V 10 1 + 1 := by unfold adS; rw [uV_at]
  have l2 : adS V i j 10 2 = V 10 2 := by unfold adS; rw [uV_ne (by omega), uV_ne (by omega), uV_ne (by omega)]
  have l3 : adS V i j 10 3 = V 10 3 := by unfold adS; rw [uV_ne (by omega), uV_ne (by omega), uV_ne (by omega)]
  have lo : ∀ t k, t < 8 → adS V i j t k = V t k := fun t k ht => by unfold adS; rw [uV_ne (by omega), uV_ne (by omega), uV_ne (by omega)]
  obtain ⟨a, b, c, d, e, f, g⟩ := hw
  unfold WF
  rw [l0, l1, l2, l3]
  refine ⟨a, by omega, c, d, fun k hk => ?_, fun k hk => ?_, fun k hk => ?_⟩
  · rw [lo 0 k (by omega), lo 1 k (by omega), lo 2 k (by omega)]; exact e k hk
  · rw [lo 4 k (by omega), lo 5 k (by omega), lo 6 k (by omega), lo 7 k (by omega)]; exact f k hk
  · unfold adS
    rw [uV_ne (by omega), uV_ne (by omega)]
    by_cases ek : k = V 10 1
    · subst ek
      rw [uV_at, uV_ne (by omega), uV_at]
      exact ⟨hi, hj⟩
    · rw [uV_ne (by omega), uV_ne (by omega), uV_ne (by omega), uV_ne (by omega)]
      exact g k (by omega)
def S_X11_addsSheep (k f : Int32) (h : AH) (K : AH → Prop) : Prop := ∃ V i j, RV (h.1 16 0) V ∧ WF V ∧ V 10 1 < 7 ∧ k = nI i ∧ f = nI j ∧ ∀ h', only 16 0 h h' → RV (h'.1 16 0) (adS V i j) → K h'
def T_X11_addsSheep : List AV → AH → (AH → Prop) → Prop := fun as h K => match as with
  | [.inr (.inr (.inl q0)), .inl q1, .inl q2] => tif (Nat.beq q0.1 15 && Nat.beq q0.2 0) (S_X11_addsSheep q1 q2 h K)
  | _ => False

def M_X11_addsSheep : MI := (RX11, cX11_addsSheep, 3, [(0, .aload_n 0, []), (1, .getfield 9, []), (4, .bipush 48, []), (6, .iconst 2, []), (7, .aload_n 0, []), (8, .getfield 9, []), (11, .iconst 1, []), (12, .iaload, []), (13, .imul, []), (14, .iadd, []), (15, .iload_n 1, []), (16, .iastore, []), (17, .aload_n 0, []), (18, .getfield 9, []), (21, .bipush 48, []), (23, .iconst 2, []), (24, .aload_n 0, []), (25, .getfield 9, []), (28, .iconst 1, []), (29, .iaload, []), (30, .imul, []), (31, .iadd, []), (32, .iconst 1, []), (33, .iadd, []), (34, .iload_n 2, []), (35, .iastore, []), (36, .aload_n 0, []), (37, .getfield 9, []), (40, .iconst 1, []), (41, .dup2, []), (42, .iaload, []), (43, .iconst 1, []), (44, .iadd, []), (45, .iastore, []), (46, .return_, [])], [(9, (15, 0, 1, 16, 0))], [], [], [], 0, 0, 0, 0)
theorem ok_X11_addsSheep : MOK M_X11_addsSheep := ⟨by decide +kernel, List.forall_mem_cons.mpr ⟨fl_RX11_9, fun _ h => absurd h List.not_mem_nil⟩, fun _ h => absurd h List.not_mem_nil, fun _ h => absurd h List.not_mem_nil, fun _ h => absurd h List.not_mem_nil⟩
set_option maxRecDepth 100000 in
theorem vc_X11_addsSheep {K : AH → Prop} {h : AH} (p1 : Int32) (p2 : Int32) (H : inR (nI 1) 62 ∧ inR ((nI 48) + ((nI 2) * (h.1 16 0 (nI 1).toNatClampNeg))) 62 ∧ inR (nI 1) 62 ∧ inR (((nI 48) + ((nI 2) * ((wI h 16 0 ((nI 48) + ((nI 2) * (h.1 16 0 (nI 1).toNatClampNeg))).toNatClampNeg p1).1 16 0 (nI 1).toNatClampNeg))) + (nI 1)) 62 ∧ inR (nI 1) 62 ∧ inR (nI 1) 62 ∧ K (wI (wI (wI h 16 0 ((nI 48) + ((nI 2) * (h.1 16 0 (nI 1).toNatClampNeg))).toNatClampNeg p1) 16 0 (((nI 48) + ((nI 2) * ((wI h 16 0 ((nI 48) + ((nI 2) * (h.1 16 0 (nI 1).toNatClampNeg))).toNatClampNeg p1).1 16 0 (nI 1).toNatClampNeg))) + (nI 1)).toNatClampNeg p2) 16 0 (nI 1).toNatClampNeg (((wI (wI h 16 0 ((nI 48) + ((nI 2) * (h.1 16 0 (nI 1).toNatClampNeg))).toNatClampNeg p1) 16 0 (((nI 48) + ((nI 2) * ((wI h 16 0 ((nI 48) + ((nI 2) * (h.1 16 0 (nI 1).toNatClampNeg))).toNatClampNeg p1).1 16 0 (nI 1).toNatClampNeg))) + (nI 1)).toNatClampNeg p2).1 16 0 (nI 1).toNatClampNeg) + (nI 1)))) : AW M_X11_addsSheep (.inr (.inl K)) 0 [some (aR 15 0), some (aI p1), some (aI p2)] [] h 0 0 := AW_go (cuts := []) ok_X11_addsSheep 400 H

theorem snd_X11_addsSheep (k f : Int32) {h : AH} {K : AH → Prop} (kk : S_X11_addsSheep k f h K) : AW M_X11_addsSheep (.inr (.inl K)) 0 [some (aR 15 0), some (aI k), some (aI f)] [] h 0 0 := by
  obtain ⟨V, i, j, hr, hw, h7, rfl, rfl, kk⟩ := kk
  refine vc_X11_addsSheep (nI i) (nI j) ?_
  have e1 := (RVs hr).2.2.2.2.2.2.2.2.2.2.2.1
  simp (disch := omega) only [n_inT, n_cl, true_and, e1, pk_mul, nI_add, uI_ni]
  exact kk _ (only_tr (only_tr (only_wI ..) (only_wI ..)) (only_wI ..)) (RV_add hw hr h7)
theorem tr_X11_addsSheep : ∀ (as : List AV) (h : AH) (K : AH → Prop), T_X11_addsSheep as h K → ∃ (q : Nat) (r : List AV), as = aR 15 q :: r := by
  intro as h K hk
  match as, hk with
  | [.inr (.inr (.inl q0)), .inl q1, .inl q2], hk =>
    obtain ⟨hb, hk⟩ := tif_inv hk
    simp only [Bool.and_eq_true] at hb
    obtain ⟨e0, e1⟩ := hb
    obtain ⟨a0, b0⟩ := q0
    have f0 : a0 = 15 := Nat.eq_of_beq_eq_true e0
    subst f0
    have f1 : b0 = 0 := Nat.eq_of_beq_eq_true e1
    subst f1
    exact ⟨_, _, rfl⟩
theorem tw_X11_addsSheep : ∀ (as : List AV) (h : AH) (K : AH → Prop), T_X11_addsSheep as h K → (ini as).length ≤ mNL M_X11_addsSheep ∧ AW M_X11_addsSheep (.inr (.inl K)) 0 (initL (mNL M_X11_addsSheep) as) [] h 0 0 := by
  intro as h K hk
  match as, hk with
  | [.inr (.inr (.inl q0)), .inl q1, .inl q2], hk =>
    obtain ⟨hb, hk⟩ := tif_inv hk
    simp only [Bool.and_eq_true] at hb
    obtain ⟨e0, e1⟩ := hb
    obtain ⟨a0, b0⟩ := q0
    have f0 : a0 = 15 := Nat.eq_of_beq_eq_true e0
    subst f0
    have f1 : b0 = 0 := Nat.eq_of_beq_eq_true e1
    subst f1
    exact ⟨Nat.le_of_ble_eq_true rfl, snd_X11_addsSheep q1 q2 hk⟩
theorem cr_RX11_372 : CR RX11 (kIns 372) (3, 1, 22, 0, 0, .inr (.inl T_X11_addsSheep)) := crV_v (t := 15) (M := M_X11_addsSheep) (by decide) rfl (by decide) rfl (inG (i := 1027) (w := Cond.methodLink RX11 124 yX11_addsSheep) (by decide +kernel) rfl) (inG (i := 1029) (w := Cond.instanceMethod yX11_addsSheep) (by decide +kernel) rfl) (inG (i := 40) (w := Cond.initialized RX11) (by decide +kernel) rfl) (inG (i := 20) (w := Cond.selects RX11 yX11_addsSheep yX11_addsSheep) (by decide +kernel) rfl) (inG (i := 1030) (w := Cond.code yX11_addsSheep cX11_addsSheep 3 (none)) (by decide +kernel) rfl) ⟨by decide +kernel, by decide +kernel, by decide +kernel⟩ tr_X11_addsSheep tw_X11_addsSheep

def M_buys (S : Sm) (V : Vm) (d : Int32) : Int32 × Vm := if rwK S d ≠ nI 0 then (rwK S d, V) else if V 10 1 = 7 then (iI (-2), V) else (nI (V 10 1), adS V (S.1 1 (nN d)) (S.1 2 (nN d)))
def S_X11_buys (d : Int32) (h : AH) (K : Int32 → AH → Prop) : Prop := ∃ S V, MSh h S ∧ WS S ∧ RV (h.1 16 0) V ∧ WF V ∧ ∀ h', only 16 0 h h' → RV (h'.1 16 0) (M_buys S V d).2 → K (M_buys S V d).1 h'
def T_X11_buys : List AV → AH → (Int32 → AH → Prop) → Prop := fun as h K => match as with
  | [.inr (.inr (.inl q0)), .inl q1] => tif (Nat.beq q0.1 15 && Nat.beq q0.2 0) (S_X11_buys q1 h K)
  | _ => False

def M_X11_buys : MI := (RX11, cX11_buys, 3, [(0, .aload_n 0, []), (1, .iload_n 1, []), (2, .invokevirtual 161, []), (5, .istore_n 2, []), (6, .iload_n 2, []), (7, .ifCond .eq 5, [12]), (10, .iload_n 2, []), (11, .ireturn, []), (12, .aload_n 0, []), (13, .getfield 9, []), (16, .iconst 1, []), (17, .iaload, []), (18, .bipush 7, []), (20, .if_icmp .ne 6, [26]), (23, .bipush (-2), []), (25, .ireturn, []), (26, .aload_n 0, []), (27, .aload_n 0, []), (28, .getfield 38, []), (31, .iload_n 1, []), (32, .iaload, []), (33, .aload_n 0, []), (34, .getfield 41, []), (37, .iload_n 1, []), (38, .iaload, []), (39, .invokevirtual 124, []), (42, .aload_n 0, []), (43, .getfield 9, []), (46, .iconst 1, []), (47, .iaload, []), (48, .iconst 1, []), (49, .isub, []), (50, .ireturn, [])], [(9, (15, 0, 1, 16, 0)), (38, (15, 17, 1, 21, 1)), (41, (15, 18, 1, 21, 2))], [], [], [(483, (2, 3, 63, 0, 0, .inl T_X11_wrongKept)), (372, (3, 1, 22, 0, 0, .inr (.inl T_X11_addsSheep)))], 3, 63, 0, 0)
theorem ok_X11_buys : MOK M_X11_buys := ⟨by decide +kernel, List.forall_mem_cons.mpr ⟨fl_RX11_9, List.forall_mem_cons.mpr ⟨fl_RX11_38, List.forall_mem_cons.mpr ⟨fl_RX11_41, fun _ h => absurd h List.not_mem_nil⟩⟩⟩, fun _ h => absurd h List.not_mem_nil, fun _ h => absurd h List.not_mem_nil, List.forall_mem_cons.mpr ⟨⟨Nat.le_of_ble_eq_true rfl, Nat.le_of_ble_eq_true rfl, cr_RX11_483⟩, List.forall_mem_cons.mpr ⟨⟨Nat.le_of_ble_eq_true rfl, Nat.le_of_ble_eq_true rfl, cr_RX11_372⟩, fun _ h => absurd h List.not_mem_nil⟩⟩⟩
set_option maxRecDepth 100000 in
theorem vc_X11_buys {K : Int32 → AH → Prop} {h : AH} (p1 : Int32) (H : S_X11_wrongKept p1 h (fun x2 h1 => ((x2 = 0) → inR (nI 1) 62 ∧ ((¬ (h1.1 16 0 (nI 1).toNatClampNeg) = (nI 7)) → inR p1 8 ∧ inR p1 8 ∧ S_X11_addsSheep (h1.1 21 1 p1.toNatClampNeg) (h1.1 21 2 p1.toNatClampNeg) h1 (fun h3 => inR (nI 1) 62 ∧ K ((h3.1 16 0 (nI 1).toNatClampNeg) - (nI 1)) h3)) ∧ (¬ (¬ (h1.1 16 0 (nI 1).toNatClampNeg) = (nI 7)) → K (iI (-2)) h1)) ∧ (¬ (x2 = 0) → K x2 h1))) : AW M_X11_buys (.inl K) 0 [some (aR 15 0), some (aI p1), none] [] h 0 0 := AW_go (cuts := []) ok_X11_buys 400 H

theorem snd_X11_buys (d : Int32) {h : AH} {K : Int32 → AH → Prop} (k : S_X11_buys d h K) : AW M_X11_buys (.inl K) 0 [some (aR 15 0), some (aI d), none] [] h 0 0 := by
  obtain ⟨S, V, hs, hw, hr, hv, k⟩ := k
  refine vc_X11_buys d ⟨S, hs, hw, ?_⟩
  have h7 := hv.2.1
  unfold M_buys at k
  rcases rwK_cases hw d with ⟨m, hm, rfl, h2, e⟩ | e
  case inr =>
    rw [if_pos e] at k
    exact ⟨fun q => absurd q e, fun _ => k h (only_rfl ..) hr⟩
  refine ⟨fun _ => ?_, fun q => absurd e q⟩
  rw [if_neg (fun z => z e)] at k
  unfold nN at k
  rw [n_cl (show m < 2147483648 by omega)] at k
  obtain ⟨a, b, c⟩ := hs m hm
  obtain ⟨b1, b2⟩ := b h2
  have e1 := (RVs hr).2.2.2.2.2.2.2.2.2.2.2.1
  simp (disch := omega) only [n_inT, n_cl, true_and, b1, b2, e1, n_eq]
  refine ⟨fun q => ⟨V, _, _, hr, hv, by omega, rfl, rfl, fun h' o q' => ?_⟩, fun q => ?_⟩
  · rw [if_neg q] at k
    have e2 := (RVs q').2.2.2.2.2.2.2.2.2.2.2.1
    rw [e2, show adS V (S.1 1 m) (S.1 2 m) 10 1 = V 10 1 + 1 by unfold adS; rw [uV_at], n_sub (by omega), Nat.add_sub_cancel]
    exact k h' o q'
  · rw [if_pos (Decidable.not_not.mp q)] at k
    exact k h (only_rfl ..) hr
theorem tr_X11_buys : ∀ (as : List AV) (h : AH) (K : Int32 → AH → Prop), T_X11_buys as h K → ∃ (q : Nat) (r : List AV), as = aR 15 q :: r := by
  intro as h K hk
  match as, hk with
  | [.inr (.inr (.inl q0)), .inl q1], hk =>
    obtain ⟨hb, hk⟩ := tif_inv hk
    simp only [Bool.and_eq_true] at hb
    obtain ⟨e0, e1⟩ := hb
    obtain ⟨a0, b0⟩ := q0
    have f0 : a0 = 15 := Nat.eq_of_beq_eq_true e0
    subst f0
    have f1 : b0 = 0 := Nat.eq_of_beq_eq_true e1
    subst f1
    exact ⟨_, _, rfl⟩
theorem tw_X11_buys : ∀ (as : List AV) (h : AH) (K : Int32 → AH → Prop), T_X11_buys as h K → (ini as).length ≤ mNL M_X11_buys ∧ AW M_X11_buys (.inl K) 0 (initL (mNL M_X11_buys) as) [] h 0 0 := by
  intro as h K hk
  match as, hk with
  | [.inr (.inr (.inl q0)), .inl q1], hk =>
    obtain ⟨hb, hk⟩ := tif_inv hk
    simp only [Bool.and_eq_true] at hb
    obtain ⟨e0, e1⟩ := hb
    obtain ⟨a0, b0⟩ := q0
    have f0 : a0 = 15 := Nat.eq_of_beq_eq_true e0
    subst f0
    have f1 : b0 = 0 := Nat.eq_of_beq_eq_true e1
    subst f1
    exact ⟨Nat.le_of_ble_eq_true rfl, snd_X11_buys q1 hk⟩
end
section
/-! ===== the reference: rows copied, judged throws, seasons ===== -/
def cpS (S : Sm) (d i e j n : Nat) : Sm := (S.1, fun a t => if a = e ∧ j ≤ t ∧ t < j + n then S.2 d (i + (t - j)) else S.2 a t)
def M_copy (S : Sm) (d i e j n : Int32) : Int32 × Sm := if ¬ cel d ∨ ¬ cel e then (iI (-1), S) else if S.1 0 (nN d) = 0 ∨ S.1 0 (nN e) = 0 then (iI (-11), S) else if S.1 0 (nN d) ≠ 2 ∨ S.1 0 (nN e) ≠ 2 ∨ S.1 3 (nN d) ≠ S.1 3 (nN e) then (iI (-12), S) else if n < 0 ∨ i < 0 ∨ j < 0 ∨ nI (S.1 4 (nN d)) - i < n ∨ ¬ n ≤ nI (S.1 4 (nN e)) - j then (iI (-13), S) else (n, cpS S (nN d) (nN i) (nN e) (nN j) (nN n))
def S_X11_copy (d i e j n : Int32) (h : AH) (K : Int32 → AH → Prop) : Prop := ∃ S, MSh h S ∧ WS S ∧ ∀ h', onlyS h h' → MSh h' (M_copy S d i e j n).2 → K (M_copy S d i e j n).1 h'
def T_X11_copy : List AV → AH → (Int32 → AH → Prop) → Prop := fun as h K => match as with
  | [.inr (.inr (.inl q0)), .inl q1, .inl q2, .inl q3, .inl q4, .inl q5] => tif (Nat.beq q0.1 15 && Nat.beq q0.2 0) (S_X11_copy q1 q2 q3 q4 q5 h K)
  | _ => False

def M_X11_copy : MI := (RX11, cX11_copy, 8, [(0, .iload_n 1, []), (1, .invokestatic 226, []), (4, .ifCond .eq 10, [14]), (7, .iload_n 3, []), (8, .invokestatic 226, []), (11, .ifCond .ne 5, [16]), (14, .iconst (-1), []), (15, .ireturn, []), (16, .aload_n 0, []), (17, .getfield 35, []), (20, .iload_n 1, []), (21, .iaload, []), (22, .ifCond .eq 12, [34]), (25, .aload_n 0, []), (26, .getfield 35, []), (29, .iload_n 3, []), (30, .iaload, []), (31, .ifCond .ne 6, [37]), (34, .bipush (-11), []), (36, .ireturn, []), (37, .aload_n 0, []), (38, .getfield 35, []), (41, .iload_n 1, []), (42, .iaload, []), (43, .iconst 2, []), (44, .if_icmp .ne 28, [72]), (47, .aload_n 0, []), (48, .getfield 35, []), (51, .iload_n 3, []), (52, .iaload, []), (53, .iconst 2, []), (54, .if_icmp .ne 18, [72]), (57, .aload_n 0, []), (58, .getfield 44, []), (61, .iload_n 1, []), (62, .iaload, []), (63, .aload_n 0, []), (64, .getfield 44, []), (67, .iload_n 3, []), (68, .iaload, []), (69, .if_icmp .eq 6, [75]), (72, .bipush (-12), []), (74, .ireturn, []), (75, .iload 5, []), (77, .ifCond .lt 39, [116]), (80, .iload_n 2, []), (81, .ifCond .lt 35, [116]), (84, .iload 4, []), (86, .ifCond .lt 30, [116]), (89, .iload 5, []), (91, .aload_n 0, []), (92, .getfield 47, []), (95, .iload_n 1, []), (96, .iaload, []), (97, .iload_n 2, []), (98, .isub, []), (99, .if_icmp .gt 17, [116]), (102, .iload 5, []), (104, .aload_n 0, []), (105, .getfield 47, []), (108, .iload_n 3, []), (109, .iaload, []), (110, .iload 4, []), (112, .isub, []), (113, .if_icmp .le 6, [119]), (116, .bipush (-13), []), (118, .ireturn, []), (119, .iconst 0, []), (120, .istore 6, []), (122, .iload 6, []), (124, .iload 5, []), (126, .if_icmp .ge 58, [184]), (129, .iload_n 2, []), (130, .iload 4, []), (132, .if_icmp .le 8, [140]), (135, .iload 6, []), (137, .goto 10, [147]), (140, .iload 5, []), (142, .iconst 1, []), (143, .isub, []), (144, .iload 6, []), (146, .isub, []), (147, .istore 7, []), (149, .aload_n 0, []), (150, .getfield 50, []), (153, .bipush 100, []), (155, .iload_n 3, []), (156, .imul, []), (157, .iload 4, []), (159, .iadd, []), (160, .iload 7, []), (162, .iadd, []), (163, .aload_n 0, []), (164, .getfield 50, []), (167, .bipush 100, []), (169, .iload_n 1, []), (170, .imul, []), (171, .iload_n 2, []), (172, .iadd, []), (173, .iload 7, []), (175, .iadd, []), (176, .iaload, []), (177, .iastore, []), (178, .iinc 6 1, []), (181, .goto (-59), [122]), (184, .iload 5, []), (186, .ireturn, [])], [(35, (15, 16, 1, 21, 0)), (44, (15, 19, 1, 21, 3)), (47, (15, 20, 1, 21, 4)), (50, (15, 21, 1, 22, 0))], [], [], [(679, (1, 2, 42, 0, 0, .inl T_X11_isShelf))], 2, 42, 0, 0)
theorem ok_X11_copy : MOK M_X11_copy := ⟨by decide +kernel, List.forall_mem_cons.mpr ⟨fl_RX11_35, List.forall_mem_cons.mpr ⟨fl_RX11_44, List.forall_mem_cons.mpr ⟨fl_RX11_47, List.forall_mem_cons.mpr ⟨fl_RX11_50, fun _ h => absurd h List.not_mem_nil⟩⟩⟩⟩, fun _ h => absurd h List.not_mem_nil, fun _ h => absurd h List.not_mem_nil, List.forall_mem_cons.mpr ⟨⟨Nat.le_of_ble_eq_true rfl, Nat.le_of_ble_eq_true rfl, cr_RX11_679⟩, fun _ h => absurd h List.not_mem_nil⟩⟩
set_option maxRecDepth 100000 in
theorem vc_X11_copy {K : Int32 → AH → Prop} {h : AH} (p1 : Int32) (p2 : Int32) (p3 : Int32) (p4 : Int32) (p5 : Int32) (H : S_X11_isShelf p1 h (fun x2 h1 => ((x2 = 0) → K (iI (-1)) h1) ∧ (¬ (x2 = 0) → S_X11_isShelf p3 h1 (fun x4 h3 => ((¬ x4 = 0) → inR p1 8 ∧ (((h3.1 21 0 p1.toNatClampNeg) = 0) → K (iI (-11)) h3) ∧ (¬ ((h3.1 21 0 p1.toNatClampNeg) = 0) → inR p3 8 ∧ ((¬ (h3.1 21 0 p3.toNatClampNeg) = 0) → inR p1 8 ∧ ((¬ (h3.1 21 0 p1.toNatClampNeg) = (nI 2)) → K (iI (-12)) h3) ∧ (¬ (¬ (h3.1 21 0 p1.toNatClampNeg) = (nI 2)) → inR p3 8 ∧ ((¬ (h3.1 21 0 p3.toNatClampNeg) = (nI 2)) → K (iI (-12)) h3) ∧ (¬ (¬ (h3.1 21 0 p3.toNatClampNeg) = (nI 2)) → inR p1 8 ∧ inR p3 8 ∧ (((h3.1 21 3 p1.toNatClampNeg) = (h3.1 21 3 p3.toNatClampNeg)) → ((p5 < 0) → K (iI (-13)) h3) ∧ (¬ (p5 < 0) → ((p2 < 0) → K (iI (-13)) h3) ∧ (¬ (p2 < 0) → ((p4 < 0) → K (iI (-13)) h3) ∧ (¬ (p4 < 0) → inR p1 8 ∧ ((((h3.1 21 4 p1.toNatClampNeg) - p2) < p5) → K (iI (-13)) h3) ∧ (¬ (((h3.1 21 4 p1.toNatClampNeg) - p2) < p5) → inR p3 8 ∧ ((p5 ≤ ((h3.1 21 4 p3.toNatClampNeg) - p4)) → AW M_X11_copy (.inl K) 122 [some (aR 15 0), some (aI p1), some (aI p2), some (aI p3), some (aI p4), some (aI p5), some (aI (nI 0)), none] [] h3 0 0) ∧ (¬ (p5 ≤ ((h3.1 21 4 p3.toNatClampNeg) - p4)) → K (iI (-13)) h3)))))) ∧ (¬ ((h3.1 21 3 p1.toNatClampNeg) = (h3.1 21 3 p3.toNatClampNeg)) → K (iI (-12)) h3)))) ∧ (¬ (¬ (h3.1 21 0 p3.toNatClampNeg) = 0) → K (iI (-11)) h3))) ∧ (¬ (¬ x4 = 0) → K (iI (-1)) h3))))) : AW M_X11_copy (.inl K) 0 [some (aR 15 0), some (aI p1), some (aI p2), some (aI p3), some (aI p4), some (aI p5), none, none] [] h 0 0 := AW_go (cuts := [(122, [true, true, true, true, true, true, true, false])]) ok_X11_copy 400 H
set_option maxRecDepth 100000 in
theorem vc_X11_copy_122 {K : Int32 → AH → Prop} {h : AH}  (l1 : Int32) (l2 : Int32) (l3 : Int32) (l4 : Int32) (l5 : Int32) (l6 : Int32) (H : ((l5 ≤ l6) → K l5 h) ∧ (¬ (l5 ≤ l6) → ((l2 ≤ l4) → inR ((((nI 100) * l1) + l2) + ((l5 - (nI 1)) - l6)) 800 ∧ inR ((((nI 100) * l3) + l4) + ((l5 - (nI 1)) - l6)) 800 ∧ AW M_X11_copy (.inl K) 122 [some (aR 15 0), some (aI l1), some (aI l2), some (aI l3), some (aI l4), some (aI l5), some (aI (l6 + (nI 1))), none] [] (wI h 22 0 ((((nI 100) * l3) + l4) + ((l5 - (nI 1)) - l6)).toNatClampNeg (h.1 22 0 ((((nI 100) * l1) + l2) + ((l5 - (nI 1)) - l6)).toNatClampNeg)) 0 0) ∧ (¬ (l2 ≤ l4) → inR ((((nI 100) * l1) + l2) + l6) 800 ∧ inR ((((nI 100) * l3) + l4) + l6) 800 ∧ AW M_X11_copy (.inl K) 122 [some (aR 15 0), some (aI l1), some (aI l2), some (aI l3), some (aI l4), some (aI l5), some (aI (l6 + (nI 1))), none] [] (wI h 22 0 ((((nI 100) * l3) + l4) + l6).toNatClampNeg (h.1 22 0 ((((nI 100) * l1) + l2) + l6).toNatClampNeg)) 0 0))) : AW M_X11_copy (.inl K) 122 [some (aR 15 0), some (aI l1), some (aI l2), some (aI l3), some (aI l4), some (aI l5), some (aI l6), none] [] h 0 0 := AW_go (cuts := [(122, [true, true, true, true, true, true, true, false])]) ok_X11_copy 400 H

theorem lp_X11_copy {d i e j n : Nat} {h0 : AH} {K : Int32 → AH → Prop} (hd : d < 8) (he : e < 8) (hi : i + n ≤ 100) (hj : j + n ≤ 100) (k : ∀ h', h'.2 = h0.2 → (∀ a b q, ¬ (a = 22 ∧ b = 0) → h'.1 a b q = h0.1 a b q) → (∀ q, h'.1 22 0 q = if 100 * e + j ≤ q ∧ q < 100 * e + j + n then h0.1 22 0 (100 * d + i + (q - (100 * e + j))) else h0.1 22 0 q) → K (nI n) h') : ∀ r c h, c + r = n → h.2 = h0.2 → (∀ a b q, ¬ (a = 22 ∧ b = 0) → h.1 a b q = h0.1 a b q) → (∀ q, h.1 22 0 q = if (if i ≤ j then 100 * e + j + n - c ≤ q ∧ q < 100 * e + j + n else 100 * e + j ≤ q ∧ q < 100 * e + j + c) then h0.1 22 0 (100 * d + i + (q - (100 * e + j))) else h0.1 22 0 q) → AW M_X11_copy (.inl K) 122 [some (aR 15 0), some (aI (nI d)), some (aI (nI i)), some (aI (nI e)), some (aI (nI j)), some (aI (nI n)), some (aI (nI c)), none] [] h 0 0 := by
  intro r
  induction r with
  | zero =>
    intro c h hc h1 h2 h3
    refine vc_X11_copy_122 (nI d) (nI i) (nI e) (nI j) (nI n) (nI c) ?_
    simp (disch := omega) only [n_le]
    refine ⟨fun _ => k h h1 h2 (fun q => ?_), fun q => absurd (by omega) q⟩
    rw [h3 q]
    have : c = n := by omega
    subst this
    grind
  | succ r ih =>
    intro c h hc h1 h2 h3
    refine vc_X11_copy_122 (nI d) (nI i) (nI e) (nI j) (nI n) (nI c) ?_
    simp (disch := omega) only [n_le, pk_mul, nI_add, n_sub, n_inT, n_cl, true_and]
    refine ⟨fun q => by omega, fun _ => ⟨fun q => ih (c + 1) _ (by omega) h1 (fun a b z hz => ?_) (fun z => ?_), fun q => ih (c + 1) _ (by omega) h1 (fun a b z hz => ?_) (fun z => ?_)⟩⟩
    · show uI h.1 22 0 _ _ a b z = _
      unfold uI
      rw [if_neg (fun y => hz ⟨y.1, y.2.1⟩)]
      exact h2 a b z hz
    · have hsrc := h3 (100 * d + i + (n - 1 - c))
      rw [if_neg (by rw [if_pos q]; omega)] at hsrc
      show uI h.1 22 0 (100 * e + j + (n - 1 - c)) (h.1 22 0 (100 * d + i + (n - 1 - c))) 22 0 z = _
      rw [hsrc]
      simp only [if_pos q]
      by_cases hz : z = 100 * e + j + (n - 1 - c)
      · subst hz
        rw [uI_at, if_pos (by omega), show 100 * d + i + (100 * e + j + (n - 1 - c) - (100 * e + j)) = 100 * d + i + (n - 1 - c) by omega]
      · rw [uI_ni hz, h3 z]
        simp only [if_pos q]
        grind
    · show uI h.1 22 0 _ _ a b z = _
      unfold uI
      rw [if_neg (fun y => hz ⟨y.1, y.2.1⟩)]
      exact h2 a b z hz
    · have hsrc := h3 (100 * d + i + c)
      rw [if_neg (by rw [if_neg q]; omega)] at hsrc
      show uI h.1 22 0 (100 * e + j + c) (h.1 22 0 (100 * d + i + c)) 22 0 z = _
      rw [hsrc]
      simp only [if_neg q]
      by_cases hz : z = 100 * e + j + c
      · subst hz
        rw [uI_at, if_pos (by omega), show 100 * d + i + (100 * e + j + c - (100 * e + j)) = 100 * d + i + c by omega]
      · rw [uI_ni hz, h3 z]
        simp only [if_neg q]
        grind
theorem snd_X11_copy (d i e j n : Int32) {h : AH} {K : Int32 → AH → Prop} (k : S_X11_copy d i e j n h K) : AW M_X11_copy (.inl K) 0 [some (aR 15 0), some (aI d), some (aI i), some (aI e), some (aI j), some (aI n), none, none] [] h 0 0 := by
  obtain ⟨S, hs, hw, k⟩ := k
  refine vc_X11_copy d i e j n ?_
  unfold S_X11_isShelf
  simp only [if10_eq]
  unfold M_copy at k
  refine ⟨fun q => ?_, fun q => ⟨fun q2 => ?_, fun q2 => ?_⟩⟩
  · rw [if_pos (Or.inl q)] at k; exact k h (onlyS_rfl h) hs
  · have q := Decidable.not_not.mp q
    have q2 := Decidable.not_not.mp q2
    rw [if_neg (by rintro (z | z); exact z q; exact z q2)] at k
    obtain ⟨m, hm, rfl⟩ := in8_iff.mp q
    obtain ⟨l, hl, rfl⟩ := in8_iff.mp q2
    unfold nN at k
    rw [n_cl (show m < 2147483648 by omega), n_cl (show l < 2147483648 by omega)] at k
    obtain ⟨a, -, c⟩ := hs m hm
    obtain ⟨a2, -, c2⟩ := hs l hl
    obtain ⟨w1, -, w3⟩ := hw m hm
    obtain ⟨v1, -, v3⟩ := hw l hl
    simp (disch := omega) only [n_inT, n_cl, true_and, a, a2, n_eq0, n_eq]
    refine ⟨fun z1 => ?_, fun z1 => ⟨fun z2 => ⟨fun z3 => ?_, fun z3 => ⟨fun z4 => ?_, fun z4 => ?_⟩⟩, fun z2 => ?_⟩⟩
    · rw [if_pos (Or.inl z1)] at k; exact k h (onlyS_rfl h) hs
    · rw [if_neg (by rintro (z | z); exact z1 z; exact z2 z), if_pos (Or.inl z3)] at k; exact k h (onlyS_rfl h) hs
    · rw [if_neg (by rintro (z | z); exact z1 z; exact z2 z), if_pos (Or.inr (Or.inl z4))] at k; exact k h (onlyS_rfl h) hs
    · have z3 := Decidable.not_not.mp z3
      have z4 := Decidable.not_not.mp z4
      obtain ⟨c3, c4, c5⟩ := c z3
      obtain ⟨d3, d4, d5⟩ := c2 z4
      have w3 := w3 z3
      have v3 := v3 z4
      rw [c3, d3, c4, d4]
      rw [if_neg (by rintro (z | z); exact z1 z; exact z2 z)] at k
      rw [n_eq (by omega) (by omega)]
      refine ⟨fun z5 => ?_, fun z5 => ?_⟩
      · rw [if_neg (by rintro (z | z | z); exact z z3; exact z z4; exact z z5)] at k
        refine ⟨fun y1 => ?_, fun y1 => ⟨fun y2 => ?_, fun y2 => ⟨fun y3 => ?_, fun y3 => ⟨fun y4 => ?_, fun y4 => ⟨fun y5 => ?_, fun y5 => ?_⟩⟩⟩⟩⟩
        · rw [if_pos (Or.inl y1)] at k; exact k h (onlyS_rfl h) hs
        · rw [if_pos (Or.inr (Or.inl y2))] at k; exact k h (onlyS_rfl h) hs
        · rw [if_pos (Or.inr (Or.inr (Or.inl y3)))] at k; exact k h (onlyS_rfl h) hs
        · rw [if_pos (Or.inr (Or.inr (Or.inr (Or.inl y4))))] at k; exact k h (onlyS_rfl h) hs
        · rw [if_neg (by rintro (z | z | z | z | z); exact y1 z; exact y2 z; exact y3 z; exact y4 z; exact z y5)] at k
          obtain ⟨n', hn', rfl⟩ := nI_of y1
          obtain ⟨i', hi', rfl⟩ := nI_of y2
          obtain ⟨j', hj', rfl⟩ := nI_of y3
          have b1 : i' + n' ≤ S.1 4 m := by
            rw [n_subI, nI_iI n', i_lt (by omega) (by omega) (by omega) (by omega)] at y4
            omega
          have b2 : j' + n' ≤ S.1 4 l := by
            rw [n_subI, nI_iI n', i_le (by omega) (by omega) (by omega) (by omega)] at y5
            omega
          rw [n_cl (by omega), n_cl (by omega), n_cl (by omega)] at k
          refine lp_X11_copy (h0 := h) hm hl (by omega) (by omega) (fun h' e1 e2 e3 => k h' ⟨e1, fun a b y1 y2 => ?_⟩ ?_) n' 0 h (by omega) rfl (fun _ _ _ _ => rfl) (fun q => by rw [if_neg (by split <;> omega)])
          · funext t
            exact e2 a b t (by omega)
          · intro dd hdd
            obtain ⟨p1, p2, p3⟩ := hs dd hdd
            rw [e2 21 0 dd (by omega), e2 21 1 dd (by omega), e2 21 2 dd (by omega), e2 21 3 dd (by omega), e2 21 4 dd (by omega)]
            refine ⟨p1, p2, fun q => ⟨(p3 q).1, (p3 q).2.1, fun t ht => ?_⟩⟩
            rw [e3]
            show _ = if dd = l ∧ j' ≤ t ∧ t < j' + n' then S.2 m (i' + (t - j')) else S.2 dd t
            by_cases hc : dd = l ∧ j' ≤ t ∧ t < j' + n'
            · rw [if_pos hc, if_pos (by omega), ← c5 (i' + (t - j')) (by omega), show 100 * m + i' + (100 * dd + t - (100 * l + j')) = 100 * m + (i' + (t - j')) by omega]
            · rw [if_neg hc, if_neg (by omega)]
              exact (p3 q).2.2 t ht
        · rw [if_pos (Or.inr (Or.inr (Or.inr (Or.inr y5))))] at k; exact k h (onlyS_rfl h) hs
      · rw [if_pos (Or.inr (Or.inr z5))] at k; exact k h (onlyS_rfl h) hs
    · rw [if_pos (Or.inr (Decidable.not_not.mp z2))] at k; exact k h (onlyS_rfl h) hs
  · rw [if_pos (Or.inr (fun z => q2 (fun y => y z)))] at k; exact k h (onlyS_rfl h) hs
theorem tr_X11_copy : ∀ (as : List AV) (h : AH) (K : Int32 → AH → Prop), T_X11_copy as h K → ∃ (q : Nat) (r : List AV), as = aR 15 q :: r := by
  intro as h K hk
  match as, hk with
  | [.inr (.inr (.inl q0)), .inl q1, .inl q2, .inl q3, .inl q4, .inl q5], hk =>
    obtain ⟨hb, hk⟩ := tif_inv hk
    simp only [Bool.and_eq_true] at hb
    obtain ⟨e0, e1⟩ := hb
    obtain ⟨a0, b0⟩ := q0
    have f0 : a0 = 15 := Nat.eq_of_beq_eq_true e0
    subst f0
    have f1 : b0 = 0 := Nat.eq_of_beq_eq_true e1
    subst f1
    exact ⟨_, _, rfl⟩
theorem tw_X11_copy : ∀ (as : List AV) (h : AH) (K : Int32 → AH → Prop), T_X11_copy as h K → (ini as).length ≤ mNL M_X11_copy ∧ AW M_X11_copy (.inl K) 0 (initL (mNL M_X11_copy) as) [] h 0 0 := by
  intro as h K hk
  match as, hk with
  | [.inr (.inr (.inl q0)), .inl q1, .inl q2, .inl q3, .inl q4, .inl q5], hk =>
    obtain ⟨hb, hk⟩ := tif_inv hk
    simp only [Bool.and_eq_true] at hb
    obtain ⟨e0, e1⟩ := hb
    obtain ⟨a0, b0⟩ := q0
    have f0 : a0 = 15 := Nat.eq_of_beq_eq_true e0
    subst f0
    have f1 : b0 = 0 := Nat.eq_of_beq_eq_true e1
    subst f1
    exact ⟨Nat.le_of_ble_eq_true rfl, snd_X11_copy q1 q2 q3 q4 q5 hk⟩

def lstO (s : Nat) : Int32 := if s = 0 then iI (-128) else if s = 1 then iI (-32768) else (-2147483648 : Int32)
def S_X11_leastOf (s : Int32) (h : AH) (K : Int32 → AH → Prop) : Prop := ∃ n, n ≤ 2 ∧ s = nI n ∧ K (lstO n) h
def T_X11_leastOf : List AV → AH → (Int32 → AH → Prop) → Prop := fun as h K => match as with
  | [.inl q0] => S_X11_leastOf q0 h K
  | _ => False

def M_X11_leastOf : MI := (RX11, cX11_leastOf, 1, [(0, .iload_n 0, []), (1, .ifCond .ne 8, [9]), (4, .bipush (-128), []), (6, .goto 16, [22]), (9, .iload_n 0, []), (10, .iconst 1, []), (11, .if_icmp .ne 9, [20]), (14, .sipush (-32768), []), (17, .goto 5, [22]), (20, .ldc 225, []), (22, .ireturn, [])], [], [(225, (-2147483648))], [], [], 0, 0, 0, 0)
theorem ok_X11_leastOf : MOK M_X11_leastOf := ⟨by decide +kernel, fun _ h => absurd h List.not_mem_nil, List.forall_mem_cons.mpr ⟨(inG (i := 1268) (w := Cond.constant RX11 225 (-2147483648)) (by decide +kernel) rfl), fun _ h => absurd h List.not_mem_nil⟩, fun _ h => absurd h List.not_mem_nil, fun _ h => absurd h List.not_mem_nil⟩
set_option maxRecDepth 100000 in
theorem vc_X11_leastOf {K : Int32 → AH → Prop} {h : AH} (p0 : Int32) (H : ((¬ p0 = 0) → ((¬ p0 = (nI 1)) → K (-2147483648 : Int32) h) ∧ (¬ (¬ p0 = (nI 1)) → K (iI (-32768)) h)) ∧ (¬ (¬ p0 = 0) → K (iI (-128)) h)) : AW M_X11_leastOf (.inl K) 0 [some (aI p0)] [] h 0 0 := AW_go (cuts := []) ok_X11_leastOf 400 H

theorem snd_X11_leastOf (s : Int32) {h : AH} {K : Int32 → AH → Prop} (k : S_X11_leastOf s h K) : AW M_X11_leastOf (.inl K) 0 [some (aI s)] [] h 0 0 := by
  obtain ⟨n, hn, rfl, k⟩ := k
  refine vc_X11_leastOf (nI n) ?_
  unfold lstO at k
  simp (disch := omega) only [n_eq0, n_eq]
  refine ⟨fun q => ⟨fun q2 => ?_, fun q2 => ?_⟩, fun q => ?_⟩
  · rw [if_neg q, if_neg q2] at k; exact k
  · rw [if_neg q, if_pos (Decidable.not_not.mp q2)] at k; exact k
  · rw [if_pos (Decidable.not_not.mp q)] at k; exact k
theorem tw_X11_leastOf : ∀ (as : List AV) (h : AH) (K : Int32 → AH → Prop), T_X11_leastOf as h K → (ini as).length ≤ mNL M_X11_leastOf ∧ AW M_X11_leastOf (.inl K) 0 (initL (mNL M_X11_leastOf) as) [] h 0 0 := by
  intro as h K hk
  match as, hk with
  | [.inl q0], hk =>
    exact ⟨Nat.le_of_ble_eq_true rfl, snd_X11_leastOf q0 hk⟩
theorem cr_RX11_688 : CR RX11 (kIns 688) (1, 1, 20, 0, 0, .inl T_X11_leastOf) := crS_i (M := M_X11_leastOf) (by decide) rfl (inG (i := 1265) (w := Cond.methodLink RX11 229 yX11_leastOf) (by decide +kernel) rfl) (inG (i := 1266) (w := Cond.static yX11_leastOf) (by decide +kernel) rfl) (inG (i := 40) (w := Cond.initialized RX11) (by decide +kernel) rfl) (inG (i := 1267) (w := Cond.code yX11_leastOf cX11_leastOf 1 (some .int)) (by decide +kernel) rfl) ⟨by decide +kernel, by decide +kernel, by decide +kernel⟩ tw_X11_leastOf

def jd (E : Nat → Int32) (lo : Int32) (s c : Nat) : Nat → Nat → Vm → Option Nat
  | 0, _, _ => none
  | r + 1, k, W => if E k ≠ lo ∧ E k ≠ nI (brg W s c) then some k else jd E lo s c r (k + 1) (thr W s c)
def R_judge (S : Sm) (V : Vm) (a c d : Int32) : Int32 := if ¬ cel d then iI (-1) else if rfT V a c ≠ nI 0 then rfT V a c else if rwR S d (iI (-1)) ≠ nI 0 then rwR S d (iI (-1)) else oI (jd (S.2 (nN d)) (lstO (S.1 3 (nN d))) (nN a) (nN c) (S.1 4 (nN d)) 0 V)
def S_X11_judge (a c d : Int32) (h : AH) (K : Int32 → AH → Prop) : Prop := ∃ S V, MSh h S ∧ WS S ∧ RV (h.1 16 0) V ∧ WF V ∧ ∀ h', keepM h h' → K (R_judge S V a c d) h'
def T_X11_judge : List AV → AH → (Int32 → AH → Prop) → Prop := fun as h K => match as with
  | [.inr (.inr (.inl q0)), .inl q1, .inl q2, .inl q3] => tif (Nat.beq q0.1 15 && Nat.beq q0.2 0) (S_X11_judge q1 q2 q3 h K)
  | _ => False

def M_X11_judge : MI := (RX11, cX11_judge, 7, [(0, .iload_n 3, []), (1, .invokestatic 226, []), (4, .ifCond .ne 5, [9]), (7, .iconst (-1), []), (8, .ireturn, []), (9, .aload_n 0, []), (10, .iload_n 1, []), (11, .iload_n 2, []), (12, .invokevirtual 165, []), (15, .istore 4, []), (17, .iload 4, []), (19, .ifCond .ne 11, [30]), (22, .aload_n 0, []), (23, .iload_n 3, []), (24, .iconst (-1), []), (25, .invokevirtual 141, []), (28, .istore 4, []), (30, .iload 4, []), (32, .ifCond .eq 6, [38]), (35, .iload 4, []), (37, .ireturn, []), (38, .aload_n 0, []), (39, .getfield 9, []), (42, .aload_n 0, []), (43, .getfield 13, []), (46, .invokestatic 148, []), (49, .iconst 0, []), (50, .istore 5, []), (52, .iload 5, []), (54, .aload_n 0, []), (55, .getfield 47, []), (58, .iload_n 3, []), (59, .iaload, []), (60, .if_icmp .ge 64, [124]), (63, .aload_n 0, []), (64, .getfield 13, []), (67, .iload_n 1, []), (68, .iload_n 2, []), (69, .invokestatic 138, []), (72, .istore 6, []), (74, .aload_n 0, []), (75, .getfield 50, []), (78, .bipush 100, []), (80, .iload_n 3, []), (81, .imul, []), (82, .iload 5, []), (84, .iadd, []), (85, .iaload, []), (86, .aload_n 0, []), (87, .getfield 44, []), (90, .iload_n 3, []), (91, .iaload, []), (92, .invokestatic 229, []), (95, .if_icmp .eq 23, [118]), (98, .aload_n 0, []), (99, .getfield 50, []), (102, .bipush 100, []), (104, .iload_n 3, []), (105, .imul, []), (106, .iload 5, []), (108, .iadd, []), (109, .iaload, []), (110, .iload 6, []), (112, .if_icmp .eq 6, [118]), (115, .iload 5, []), (117, .ireturn, []), (118, .iinc 5 1, []), (121, .goto (-69), [52]), (124, .bipush (-4), []), (126, .ireturn, [])], [(9, (15, 0, 1, 16, 0)), (13, (15, 1, 1, 16, 1)), (47, (15, 20, 1, 21, 4)), (50, (15, 21, 1, 22, 0)), (44, (15, 19, 1, 21, 3))], [], [], [(679, (1, 2, 42, 0, 0, .inl T_X11_isShelf)), (495, (3, 3, 65, 0, 0, .inl T_X11_wrongThrow)), (423, (3, 3, 64, 0, 0, .inl T_X11_wrongRow)), (445, (2, 1, 22, 0, 0, .inr (.inl T_X11_copies))), (415, (3, 5, 116, 0, 0, .inl T_X11_throwIn)), (688, (1, 1, 20, 0, 0, .inl T_X11_leastOf))], 5, 116, 0, 0)
theorem ok_X11_judge : MOK M_X11_judge := ⟨by decide +kernel, List.forall_mem_cons.mpr ⟨fl_RX11_9, List.forall_mem_cons.mpr ⟨fl_RX11_13, List.forall_mem_cons.mpr ⟨fl_RX11_47, List.forall_mem_cons.mpr ⟨fl_RX11_50, List.forall_mem_cons.mpr ⟨fl_RX11_44, fun _ h => absurd h List.not_mem_nil⟩⟩⟩⟩⟩, fun _ h => absurd h List.not_mem_nil, fun _ h => absurd h List.not_mem_nil, List.forall_mem_cons.mpr ⟨⟨Nat.le_of_ble_eq_true rfl, Nat.le_of_ble_eq_true rfl, cr_RX11_679⟩, List.forall_mem_cons.mpr ⟨⟨Nat.le_of_ble_eq_true rfl, Nat.le_of_ble_eq_true rfl, cr_RX11_495⟩, List.forall_mem_cons.mpr ⟨⟨Nat.le_of_ble_eq_true rfl, Nat.le_of_ble_eq_true rfl, cr_RX11_423⟩, List.forall_mem_cons.mpr ⟨⟨Nat.le_of_ble_eq_true rfl, Nat.le_of_ble_eq_true rfl, cr_RX11_445⟩, List.forall_mem_cons.mpr ⟨⟨Nat.le_of_ble_eq_true rfl, Nat.le_of_ble_eq_true rfl, cr_RX11_415⟩, List.forall_mem_cons.mpr ⟨⟨Nat.le_of_ble_eq_true rfl, Nat.le_of_ble_eq_true rfl, cr_RX11_688⟩, fun _ h => absurd h List.not_mem_nil⟩⟩⟩⟩⟩⟩⟩
set_option maxRecDepth 100000 in
theorem vc_X11_judge {K : Int32 → AH → Prop} {h : AH} (p1 : Int32) (p2 : Int32) (p3 : Int32) (H : S_X11_isShelf p3 h (fun x2 h1 => ((¬ x2 = 0) → S_X11_wrongThrow p1 p2 h1 (fun x4 h3 => ((¬ x4 = 0) → ((x4 = 0) → S_X11_copies 0 1 h3 (fun h5 => AW M_X11_judge (.inl K) 52 [some (aR 15 0), some (aI p1), some (aI p2), some (aI p3), none, some (aI (nI 0)), none] [] h5 0 0)) ∧ (¬ (x4 = 0) → K x4 h3)) ∧ (¬ (¬ x4 = 0) → S_X11_wrongRow p3 (iI (-1)) h3 (fun x7 h6 => ((x7 = 0) → S_X11_copies 0 1 h6 (fun h8 => AW M_X11_judge (.inl K) 52 [some (aR 15 0), some (aI p1), some (aI p2), some (aI p3), none, some (aI (nI 0)), none] [] h8 0 0)) ∧ (¬ (x7 = 0) → K x7 h6))))) ∧ (¬ (¬ x2 = 0) → K (iI (-1)) h1))) : AW M_X11_judge (.inl K) 0 [some (aR 15 0), some (aI p1), some (aI p2), some (aI p3), none, none, none] [] h 0 0 := AW_go (cuts := [(52, [true, true, true, true, false, true, false])]) ok_X11_judge 400 H
set_option maxRecDepth 100000 in
theorem vc_X11_judge_52 {K : Int32 → AH → Prop} {h : AH}  (l1 : Int32) (l2 : Int32) (l3 : Int32) (l5 : Int32) (H : inR l3 8 ∧ (((h.1 21 4 l3.toNatClampNeg) ≤ l5) → K (iI (-4)) h) ∧ (¬ ((h.1 21 4 l3.toNatClampNeg) ≤ l5) → S_X11_throwIn 1 l1 l2 h (fun x2 h1 => inR (((nI 100) * l3) + l5) 800 ∧ inR l3 8 ∧ S_X11_leastOf (h1.1 21 3 l3.toNatClampNeg) h1 (fun x4 h3 => (((h1.1 22 0 (((nI 100) * l3) + l5).toNatClampNeg) = x4) → AW M_X11_judge (.inl K) 52 [some (aR 15 0), some (aI l1), some (aI l2), some (aI l3), none, some (aI (l5 + (nI 1))), none] [] h3 0 0) ∧ (¬ ((h1.1 22 0 (((nI 100) * l3) + l5).toNatClampNeg) = x4) → inR (((nI 100) * l3) + l5) 800 ∧ (((h3.1 22 0 (((nI 100) * l3) + l5).toNatClampNeg) = x2) → AW M_X11_judge (.inl K) 52 [some (aR 15 0), some (aI l1), some (aI l2), some (aI l3), none, some (aI (l5 + (nI 1))), none] [] h3 0 0) ∧ (¬ ((h3.1 22 0 (((nI 100) * l3) + l5).toNatClampNeg) = x2) → K l5 h3)))))) : AW M_X11_judge (.inl K) 52 [some (aR 15 0), some (aI l1), some (aI l2), some (aI l3), none, some (aI l5), none] [] h 0 0 := AW_go (cuts := [(52, [true, true, true, true, false, true, false])]) ok_X11_judge 400 H

theorem lp_X11_judge {S : Sm} {s c m : Nat} {h0 : AH} {K : Int32 → AH → Prop} (hs : MSh h0 S) (hw : WS S) (hm : m < 8) (h2 : S.1 0 m = 2) (hc : c < 8) : ∀ r t W h, t + r = S.1 4 m → WF W → s < W 10 1 → RV (h.1 16 1) W → keepM h0 h → (∀ h', keepM h0 h' → K (oI (jd (S.2 m) (lstO (S.1 3 m)) s c r t W)) h') → AW M_X11_judge (.inl K) 52 [some (aR 15 0), some (aI (nI s)), some (aI (nI c)), some (aI (nI m)), none, some (aI (nI t)), none] [] h 0 0 := by
  have hw3 := (hw m hm).2.2 h2
  intro r
  induction r with
  | zero =>
    intro t W h ht hW hsW hr hk k
    refine vc_X11_judge_52 (nI s) (nI c) (nI m) (nI t) ?_
    obtain ⟨-, -, q⟩ := MSh_keep hk hs m hm
    obtain ⟨c1, c2, c3⟩ := q h2
    simp (disch := omega) only [n_inT, n_cl, true_and, c2, n_le]
    exact ⟨fun _ => k h hk, fun q => absurd (by omega) q⟩
  | succ r ih =>
    intro t W h ht hW hsW hr hk k
    refine vc_X11_judge_52 (nI s) (nI c) (nI m) (nI t) ?_
    obtain ⟨-, -, q⟩ := MSh_keep hk hs m hm
    obtain ⟨c1, c2, c3⟩ := q h2
    simp (disch := omega) only [n_inT, n_cl, true_and, c2, n_le, pk_mul, nI_add]
    refine ⟨fun q => by omega, fun _ => ⟨W, s, c, ⟨hr, hW, hsW, rfl⟩, hc, rfl, fun h1 o1 q1 => ?_⟩⟩
    have k1 := keepM_tr hk (keepM_o (by decide) (by decide) o1)
    obtain ⟨-, -, q⟩ := MSh_keep k1 hs m hm
    obtain ⟨c1, c2, c3⟩ := q h2
    dsimp only
    rw [c1, c3 t (by omega)]
    refine ⟨S.1 3 m, hw3.1, rfl, ?_⟩
    dsimp only
    rw [c3 t (by omega)]
    have nx : (¬ (S.2 m t ≠ lstO (S.1 3 m) ∧ S.2 m t ≠ nI (brg W s c))) → AW M_X11_judge (.inl K) 52 [some (aR 15 0), some (aI (nI s)), some (aI (nI c)), some (aI (nI m)), none, some (aI (nI (t + 1))), none] [] h1 0 0 := fun hn => ih (t + 1) (thr W s c) h1 (by omega) (WF_thr hW hc) (by rw [thr_10 (by omega)]; exact hsW) q1 k1 (fun h' q' => by
      have := k h' q'
      rw [jd, if_neg hn] at this
      exact this)
    refine ⟨fun q => nx (fun z => z.1 q), fun q => ⟨fun q2 => nx (fun z => z.2 q2), fun q2 => ?_⟩⟩
    have := k h1 k1
    rw [jd, if_pos ⟨q, q2⟩] at this
    exact this
theorem snd_X11_judge (a c d : Int32) {h : AH} {K : Int32 → AH → Prop} (k : S_X11_judge a c d h K) : AW M_X11_judge (.inl K) 0 [some (aR 15 0), some (aI a), some (aI c), some (aI d), none, none, none] [] h 0 0 := by
  obtain ⟨S, V, hs, hw, hr, hv, k⟩ := k
  refine vc_X11_judge a c d ?_
  unfold S_X11_isShelf
  simp only [if10_eq]
  unfold R_judge at k
  by_cases hd : cel d
  case neg =>
    refine ⟨fun q => absurd hd q, fun _ => ?_⟩
    rw [if_pos hd] at k
    exact k h (keepM_rfl h)
  rw [if_neg (fun z => z hd)] at k
  refine ⟨fun _ => wT_use hr hv ?_, fun q => absurd (fun z => z hd) q⟩
  rcases rfT_cases hv a c with ⟨n, m, hn, hm, hf, rfl, rfl, e⟩ | e
  case inr =>
    rw [if_pos e] at k
    exact ⟨fun _ => ⟨fun z => absurd z e, fun _ => k h (keepM_rfl h)⟩, fun z => absurd e z⟩
  rw [if_neg (fun z => z e)] at k
  refine ⟨fun z => absurd e z, fun _ => ⟨S, hs, hw, ?_⟩⟩
  rcases rwR_cases hw d with ⟨l, hl, rfl, h2, e2⟩ | e2
  case inr =>
    rw [if_pos e2] at k
    exact ⟨fun z => absurd z e2, fun _ => k h (keepM_rfl h)⟩
  rw [if_neg (fun z => z e2)] at k
  have h7 := hv.2.1
  unfold nN at k
  rw [n_cl (show l < 2147483648 by omega), n_cl (show n < 2147483648 by omega), n_cl (show m < 2147483648 by omega)] at k
  refine ⟨fun _ => ⟨by decide, fun h1 o1 c1 => ?_⟩, fun z => absurd e2 z⟩
  exact lp_X11_judge hs hw hl h2 hm (S.1 4 l) 0 V h1 (by omega) hv hn (RV_cp hv hr c1) (keepM_o (by decide) (by decide) o1) k
theorem tr_X11_judge : ∀ (as : List AV) (h : AH) (K : Int32 → AH → Prop), T_X11_judge as h K → ∃ (q : Nat) (r : List AV), as = aR 15 q :: r := by
  intro as h K hk
  match as, hk with
  | [.inr (.inr (.inl q0)), .inl q1, .inl q2, .inl q3], hk =>
    obtain ⟨hb, hk⟩ := tif_inv hk
    simp only [Bool.and_eq_true] at hb
    obtain ⟨e0, e1⟩ := hb
    obtain ⟨a0, b0⟩ := q0
    have f0 : a0 = 15 := Nat.eq_of_beq_eq_true e0
    subst f0
    have f1 : b0 = 0 := Nat.eq_of_beq_eq_true e1
    subst f1
    exact ⟨_, _, rfl⟩
theorem tw_X11_judge : ∀ (as : List AV) (h : AH) (K : Int32 → AH → Prop), T_X11_judge as h K → (ini as).length ≤ mNL M_X11_judge ∧ AW M_X11_judge (.inl K) 0 (initL (mNL M_X11_judge) as) [] h 0 0 := by
  intro as h K hk
  match as, hk with
  | [.inr (.inr (.inl q0)), .inl q1, .inl q2, .inl q3], hk =>
    obtain ⟨hb, hk⟩ := tif_inv hk
    simp only [Bool.and_eq_true] at hb
    obtain ⟨e0, e1⟩ := hb
    obtain ⟨a0, b0⟩ := q0
    have f0 : a0 = 15 := Nat.eq_of_beq_eq_true e0
    subst f0
    have f1 : b0 = 0 := Nat.eq_of_beq_eq_true e1
    subst f1
    exact ⟨Nat.le_of_ble_eq_true rfl, snd_X11_judge q1 q2 q3 hk⟩

def nxs (z : Int32) : Int32 := z * (1103515245 : Int32) + nI 12345
def dr (z : Int32) (k : Nat) : Nat := (z.toBitVec.toNat % 2147483648 / 65536) % k
theorem dr_eq (z : Int32) {k : Nat} (h0 : 0 < k) (hk : k < 2147483648) : (z &&& (2147483647 : Int32)) / (65536 : Int32) - (z &&& (2147483647 : Int32)) / (65536 : Int32) / nI k * nI k = nI (dr z k) := by
  rw [pk_and z (m := 2147483647) 31 (by decide), show (65536 : Int32) = nI 65536 from rfl, n_div (by omega) (by omega) (by omega), n_rem (by omega) h0 hk]
  rfl
def S_X11_drawn (n : Int32) (h : AH) (K : Int32 → AH → Prop) : Prop := ∃ k, 0 < k ∧ k < 2147483648 ∧ n = nI k ∧ K (nI (dr (nxs (h.1 15 0 15)) k)) (wI h 15 0 15 (nxs (h.1 15 0 15)))
def T_X11_drawn : List AV → AH → (Int32 → AH → Prop) → Prop := fun as h K => match as with
  | [.inr (.inr (.inl q0)), .inl q1] => tif (Nat.beq q0.1 15 && Nat.beq q0.2 0) (S_X11_drawn q1 h K)
  | _ => False

def M_X11_drawn : MI := (RX11, cX11_drawn, 2, [(0, .aload_n 0, []), (1, .aload_n 0, []), (2, .getfield 232, []), (5, .ldc 235, []), (7, .imul, []), (8, .sipush 12345, []), (11, .iadd, []), (12, .putfield 232, []), (15, .aload_n 0, []), (16, .getfield 232, []), (19, .ldc 236, []), (21, .iand, []), (22, .ldc 237, []), (24, .idiv, []), (25, .iload_n 1, []), (26, .irem, []), (27, .ireturn, [])], [(232, (15, 15, 0, 0, 0))], [(235, 1103515245), (236, 2147483647), (237, 65536)], [], [], 0, 0, 0, 0)
theorem ok_X11_drawn : MOK M_X11_drawn := ⟨by decide +kernel, List.forall_mem_cons.mpr ⟨fl_RX11_232, fun _ h => absurd h List.not_mem_nil⟩, List.forall_mem_cons.mpr ⟨(inG (i := 1277) (w := Cond.constant RX11 235 1103515245) (by decide +kernel) rfl), List.forall_mem_cons.mpr ⟨(inG (i := 1278) (w := Cond.constant RX11 236 2147483647) (by decide +kernel) rfl), List.forall_mem_cons.mpr ⟨(inG (i := 1279) (w := Cond.constant RX11 237 65536) (by decide +kernel) rfl), fun _ h => absurd h List.not_mem_nil⟩⟩⟩, fun _ h => absurd h List.not_mem_nil, fun _ h => absurd h List.not_mem_nil⟩
set_option maxRecDepth 100000 in
theorem vc_X11_drawn {K : Int32 → AH → Prop} {h : AH} (p1 : Int32) (H : (¬ (65536 : Int32) = 0) ∧ (¬ p1 = 0) ∧ K (((((wI h 15 0 15 (((h.1 15 0 15) * (1103515245 : Int32)) + (nI 12345))).1 15 0 15) &&& (2147483647 : Int32)) / (65536 : Int32)) - ((((wI h 15 0 15 (((h.1 15 0 15) * (1103515245 : Int32)) + (nI 12345))).1 15 0 15) &&& (2147483647 : Int32)) / (65536 : Int32)) / p1 * p1) (wI h 15 0 15 (((h.1 15 0 15) * (1103515245 : Int32)) + (nI 12345)))) : AW M_X11_drawn (.inl K) 0 [some (aR 15 0), some (aI p1)] [] h 0 0 := AW_go (cuts := []) ok_X11_drawn 400 H

theorem snd_X11_drawn (n : Int32) {h : AH} {K : Int32 → AH → Prop} (k : S_X11_drawn n h K) : AW M_X11_drawn (.inl K) 0 [some (aR 15 0), some (aI n)] [] h 0 0 := by
  obtain ⟨k, h0, hk, rfl, kk⟩ := k
  refine vc_X11_drawn (nI k) ⟨by decide, fun z => ?_, ?_⟩
  · rw [n_eq0 hk] at z; omega
  · rw [wI_at]
    have := dr_eq (nxs (h.1 15 0 15)) h0 hk
    unfold nxs at this kk
    rw [this]
    exact kk
theorem tr_X11_drawn : ∀ (as : List AV) (h : AH) (K : Int32 → AH → Prop), T_X11_drawn as h K → ∃ (q : Nat) (r : List AV), as = aR 15 q :: r := by
  intro as h K hk
  match as, hk with
  | [.inr (.inr (.inl q0)), .inl q1], hk =>
    obtain ⟨hb, hk⟩ := tif_inv hk
    simp only [Bool.and_eq_true] at hb
    obtain ⟨e0, e1⟩ := hb
    obtain ⟨a0, b0⟩ := q0
    have f0 : a0 = 15 := Nat.eq_of_beq_eq_true e0
    subst f0
    have f1 : b0 = 0 := Nat.eq_of_beq_eq_true e1
    subst f1
    exact ⟨_, _, rfl⟩
theorem tw_X11_drawn : ∀ (as : List AV) (h : AH) (K : Int32 → AH → Prop), T_X11_drawn as h K → (ini as).length ≤ mNL M_X11_drawn ∧ AW M_X11_drawn (.inl K) 0 (initL (mNL M_X11_drawn) as) [] h 0 0 := by
  intro as h K hk
  match as, hk with
  | [.inr (.inr (.inl q0)), .inl q1], hk =>
    obtain ⟨hb, hk⟩ := tif_inv hk
    simp only [Bool.and_eq_true] at hb
    obtain ⟨e0, e1⟩ := hb
    obtain ⟨a0, b0⟩ := q0
    have f0 : a0 = 15 := Nat.eq_of_beq_eq_true e0
    subst f0
    have f1 : b0 = 0 := Nat.eq_of_beq_eq_true e1
    subst f1
    exact ⟨Nat.le_of_ble_eq_true rfl, snd_X11_drawn q1 hk⟩
theorem cr_RX11_714 : CR RX11 (kIns 714) (2, 1, 21, 0, 0, .inl T_X11_drawn) := crV_i (t := 15) (M := M_X11_drawn) (by decide) rfl (by decide) rfl (inG (i := 1273) (w := Cond.methodLink RX11 238 yX11_drawn) (by decide +kernel) rfl) (inG (i := 1275) (w := Cond.instanceMethod yX11_drawn) (by decide +kernel) rfl) (inG (i := 40) (w := Cond.initialized RX11) (by decide +kernel) rfl) (inG (i := 35) (w := Cond.selects RX11 yX11_drawn yX11_drawn) (by decide +kernel) rfl) (inG (i := 1276) (w := Cond.code yX11_drawn cX11_drawn 2 (some .int)) (by decide +kernel) rfl) ⟨by decide +kernel, by decide +kernel, by decide +kernel⟩ tr_X11_drawn tw_X11_drawn

def ss (V : Vm) : Nat → Int32 × Nat × Nat × Vm → Int32 × Nat × Nat × Vm
  | 0, p => p
  | k + 1, p => (nxs (nxs (ss V k p).1), (ss V k p).2.1 + brg (ss V k p).2.2.2 (dr (nxs (ss V k p).1) (V 10 1)) (dr (nxs (nxs (ss V k p).1)) (1 + vFl V (dr (nxs (ss V k p).1) (V 10 1)))), (ss V k p).2.2.1 + (if eat (ss V k p).2.2.2 (dr (nxs (ss V k p).1) (V 10 1)) (dr (nxs (nxs (ss V k p).1)) (1 + vFl V (dr (nxs (ss V k p).1) (V 10 1)))) then 1 else 0), thr (ss V k p).2.2.2 (dr (nxs (ss V k p).1) (V 10 1)) (dr (nxs (nxs (ss V k p).1)) (1 + vFl V (dr (nxs (ss V k p).1) (V 10 1)))))
def sea (V : Vm) (z : Int32) : Nat → Int32 × Nat × Nat
  | 0 => (z, 0, 0)
  | k + 1 => ((ss V 10 ((sea V z k).1, (sea V z k).2.1, (sea V z k).2.2, V)).1, (ss V 10 ((sea V z k).1, (sea V z k).2.1, (sea V z k).2.2, V)).2.1, (ss V 10 ((sea V z k).1, (sea V z k).2.1, (sea V z k).2.2, V)).2.2.1)
theorem ss_ok {V : Vm} {p : Int32 × Nat × Nat × Vm} (hV : WF V) (hs : 0 < V 10 1) (hw : WF p.2.2.2) (h1 : p.2.2.2 10 1 = V 10 1) : ∀ k, WF (ss V k p).2.2.2 ∧ (ss V k p).2.2.2 10 1 = V 10 1
  | 0 => ⟨hw, h1⟩
  | k + 1 => by
    obtain ⟨a, b⟩ := ss_ok hV hs hw h1 k
    have hd : dr (nxs (nxs (ss V k p).1)) (1 + vFl V (dr (nxs (ss V k p).1) (V 10 1))) < 8 := by
      have := fly_le (V 8 (dr (nxs (ss V k p).1) (V 10 1)))
      have h2 : dr (nxs (nxs (ss V k p).1)) (1 + vFl V (dr (nxs (ss V k p).1) (V 10 1))) < 1 + vFl V (dr (nxs (ss V k p).1) (V 10 1)) := Nat.mod_lt _ (by omega)
      have h3 : vFl V (dr (nxs (ss V k p).1) (V 10 1)) ≤ 7 := this
      omega
    exact ⟨WF_thr a hd, by show thr _ _ _ 10 1 = _; rw [thr_10 (by omega), b]⟩
def R_seasons (V : Vm) (n z w : Int32) : Int32 := if ¬ (nI 1 ≤ n ∧ n ≤ nI 20) ∨ ¬ w01 w then iI (-1) else if V 10 1 = 0 then iI (-3) else if w = 0 then nI (sea V z (nN n)).2.1 else nI (sea V z (nN n)).2.2
def S_X11_seasons (n z w : Int32) (h : AH) (K : Int32 → AH → Prop) : Prop := ∃ V, RV (h.1 16 0) V ∧ WF V ∧ ∀ h', keepM h h' → K (R_seasons V n z w) h'
def T_X11_seasons : List AV → AH → (Int32 → AH → Prop) → Prop := fun as h K => match as with
  | [.inr (.inr (.inl q0)), .inl q1, .inl q2, .inl q3] => tif (Nat.beq q0.1 15 && Nat.beq q0.2 0) (S_X11_seasons q1 q2 q3 h K)
  | _ => False

def M_X11_seasons : MI := (RX11, cX11_seasons, 10, [(0, .iload_n 1, []), (1, .iconst 1, []), (2, .bipush 20, []), (4, .invokestatic 53, []), (7, .ifCond .eq 12, [19]), (10, .iload_n 3, []), (11, .iconst 0, []), (12, .iconst 1, []), (13, .invokestatic 53, []), (16, .ifCond .ne 5, [21]), (19, .iconst (-1), []), (20, .ireturn, []), (21, .aload_n 0, []), (22, .getfield 9, []), (25, .iconst 1, []), (26, .iaload, []), (27, .ifCond .ne 6, [33]), (30, .bipush (-3), []), (32, .ireturn, []), (33, .aload_n 0, []), (34, .iload_n 2, []), (35, .putfield 232, []), (38, .iconst 0, []), (39, .istore 4, []), (41, .iconst 0, []), (42, .istore 5, []), (44, .iconst 0, []), (45, .istore 6, []), (47, .iload 6, []), (49, .iload_n 1, []), (50, .if_icmp .ge 105, [155]), (53, .aload_n 0, []), (54, .getfield 9, []), (57, .aload_n 0, []), (58, .getfield 13, []), (61, .invokestatic 148, []), (64, .iconst 0, []), (65, .istore 7, []), (67, .iload 7, []), (69, .bipush 10, []), (71, .if_icmp .ge 78, [149]), (74, .aload_n 0, []), (75, .aload_n 0, []), (76, .getfield 9, []), (79, .iconst 1, []), (80, .iaload, []), (81, .invokevirtual 238, []), (84, .istore 8, []), (86, .aload_n 0, []), (87, .iconst 1, []), (88, .aload_n 0, []), (89, .getfield 9, []), (92, .iload 8, []), (94, .invokestatic 135, []), (97, .iadd, []), (98, .invokevirtual 238, []), (101, .istore 9, []), (103, .iload 5, []), (105, .aload_n 0, []), (106, .getfield 13, []), (109, .iload 8, []), (111, .iload 9, []), (113, .invokestatic 78, []), (116, .ifCond .eq 7, [123]), (119, .iconst 1, []), (120, .goto 4, [124]), (123, .iconst 0, []), (124, .iadd, []), (125, .istore 5, []), (127, .iload 4, []), (129, .aload_n 0, []), (130, .getfield 13, []), (133, .iload 8, []), (135, .iload 9, []), (137, .invokestatic 138, []), (140, .iadd, []), (141, .istore 4, []), (143, .iinc 7 1, []), (146, .goto (-79), [67]), (149, .iinc 6 1, []), (152, .goto (-105), [47]), (155, .iload_n 3, []), (156, .ifCond .ne 8, [164]), (159, .iload 4, []), (161, .goto 5, [166]), (164, .iload 5, []), (166, .ireturn, [])], [(9, (15, 0, 1, 16, 0)), (232, (15, 15, 0, 0, 0)), (13, (15, 1, 1, 16, 1))], [], [], [(160, (3, 1, 22, 0, 0, .inl T_X11_isIn)), (445, (2, 1, 22, 0, 0, .inr (.inl T_X11_copies))), (714, (2, 1, 21, 0, 0, .inl T_X11_drawn)), (406, (2, 2, 42, 0, 0, .inl T_X11_flies)), (235, (3, 3, 65, 0, 0, .inl T_X11_isEaten)), (415, (3, 5, 116, 0, 0, .inl T_X11_throwIn))], 5, 116, 0, 0)
theorem ok_X11_seasons : MOK M_X11_seasons := ⟨by decide +kernel, List.forall_mem_cons.mpr ⟨fl_RX11_9, List.forall_mem_cons.mpr ⟨fl_RX11_232, List.forall_mem_cons.mpr ⟨fl_RX11_13, fun _ h => absurd h List.not_mem_nil⟩⟩⟩, fun _ h => absurd h List.not_mem_nil, fun _ h => absurd h List.not_mem_nil, List.forall_mem_cons.mpr ⟨⟨Nat.le_of_ble_eq_true rfl, Nat.le_of_ble_eq_true rfl, cr_RX11_160⟩, List.forall_mem_cons.mpr ⟨⟨Nat.le_of_ble_eq_true rfl, Nat.le_of_ble_eq_true rfl, cr_RX11_445⟩, List.forall_mem_cons.mpr ⟨⟨Nat.le_of_ble_eq_true rfl, Nat.le_of_ble_eq_true rfl, cr_RX11_714⟩, List.forall_mem_cons.mpr ⟨⟨Nat.le_of_ble_eq_true rfl, Nat.le_of_ble_eq_true rfl, cr_RX11_406⟩, List.forall_mem_cons.mpr ⟨⟨Nat.le_of_ble_eq_true rfl, Nat.le_of_ble_eq_true rfl, cr_RX11_235⟩, List.forall_mem_cons.mpr ⟨⟨Nat.le_of_ble_eq_true rfl, Nat.le_of_ble_eq_true rfl, cr_RX11_415⟩, fun _ h => absurd h List.not_mem_nil⟩⟩⟩⟩⟩⟩⟩
set_option maxRecDepth 100000 in
theorem vc_X11_seasons {K : Int32 → AH → Prop} {h : AH} (p1 : Int32) (p2 : Int32) (p3 : Int32) (H : S_X11_isIn p1 (nI 1) (nI 20) h (fun x2 h1 => ((x2 = 0) → K (iI (-1)) h1) ∧ (¬ (x2 = 0) → S_X11_isIn p3 (nI 0) (nI 1) h1 (fun x4 h3 => ((¬ x4 = 0) → inR (nI 1) 62 ∧ ((¬ (h3.1 16 0 (nI 1).toNatClampNeg) = 0) → AW M_X11_seasons (.inl K) 47 [some (aR 15 0), some (aI p1), none, some (aI p3), some (aI (nI 0)), some (aI (nI 0)), some (aI (nI 0)), none, none, none] [] (wI h3 15 0 15 p2) 0 0) ∧ (¬ (¬ (h3.1 16 0 (nI 1).toNatClampNeg) = 0) → K (iI (-3)) h3)) ∧ (¬ (¬ x4 = 0) → K (iI (-1)) h3))))) : AW M_X11_seasons (.inl K) 0 [some (aR 15 0), some (aI p1), some (aI p2), some (aI p3), none, none, none, none, none, none] [] h 0 0 := AW_go (cuts := [(47, [true, true, false, true, true, true, true, false, false, false]), (67, [true, true, false, true, true, true, true, true, false, false])]) ok_X11_seasons 400 H
set_option maxRecDepth 100000 in
theorem vc_X11_seasons_47 {K : Int32 → AH → Prop} {h : AH}  (l1 : Int32) (l3 : Int32) (l4 : Int32) (l5 : Int32) (l6 : Int32) (H : ((l1 ≤ l6) → ((¬ l3 = 0) → K l5 h) ∧ (¬ (¬ l3 = 0) → K l4 h)) ∧ (¬ (l1 ≤ l6) → S_X11_copies 0 1 h (fun h1 => AW M_X11_seasons (.inl K) 67 [some (aR 15 0), some (aI l1), none, some (aI l3), some (aI l4), some (aI l5), some (aI l6), some (aI (nI 0)), none, none] [] h1 0 0))) : AW M_X11_seasons (.inl K) 47 [some (aR 15 0), some (aI l1), none, some (aI l3), some (aI l4), some (aI l5), some (aI l6), none, none, none] [] h 0 0 := AW_go (cuts := [(47, [true, true, false, true, true, true, true, false, false, false]), (67, [true, true, false, true, true, true, true, true, false, false])]) ok_X11_seasons 400 H
set_option maxRecDepth 100000 in
theorem vc_X11_seasons_67 {K : Int32 → AH → Prop} {h : AH}  (l1 : Int32) (l3 : Int32) (l4 : Int32) (l5 : Int32) (l6 : Int32) (l7 : Int32) (H : (((nI 10) ≤ l7) → AW M_X11_seasons (.inl K) 47 [some (aR 15 0), some (aI l1), none, some (aI l3), some (aI l4), some (aI l5), some (aI (l6 + (nI 1))), none, none, none] [] h 0 0) ∧ (¬ ((nI 10) ≤ l7) → inR (nI 1) 62 ∧ S_X11_drawn (h.1 16 0 (nI 1).toNatClampNeg) h (fun x2 h1 => S_X11_flies 0 x2 h1 (fun x4 h3 => S_X11_drawn ((nI 1) + x4) h3 (fun x6 h5 => S_X11_isEaten 1 x2 x6 h5 (fun x8 h7 => ((x8 = 0) → S_X11_throwIn 1 x2 x6 h7 (fun x10 h9 => AW M_X11_seasons (.inl K) 67 [some (aR 15 0), some (aI l1), none, some (aI l3), some (aI (l4 + x10)), some (aI (l5 + (nI 0))), some (aI l6), some (aI (l7 + (nI 1))), none, none] [] h9 0 0)) ∧ (¬ (x8 = 0) → S_X11_throwIn 1 x2 x6 h7 (fun x12 h11 => AW M_X11_seasons (.inl K) 67 [some (aR 15 0), some (aI l1), none, some (aI l3), some (aI (l4 + x12)), some (aI (l5 + (nI 1))), some (aI l6), some (aI (l7 + (nI 1))), none, none] [] h11 0 0)))))))) : AW M_X11_seasons (.inl K) 67 [some (aR 15 0), some (aI l1), none, some (aI l3), some (aI l4), some (aI l5), some (aI l6), some (aI l7), none, none] [] h 0 0 := AW_go (cuts := [(47, [true, true, false, true, true, true, true, false, false, false]), (67, [true, true, false, true, true, true, true, true, false, false])]) ok_X11_seasons 400 H

theorem lp_X11_seasons {V : Vm} {N : Nat} {z w : Int32} {h0 : AH} {K : Int32 → AH → Prop} (hr : RV (h0.1 16 0) V) (hw : WF V) (hs : 0 < V 10 1) (hN : N ≤ 20) (k : ∀ h', keepM h0 h' → K (if w = 0 then nI (sea V z N).2.1 else nI (sea V z N).2.2) h') : ∀ r c h, c + r = N → keepM h0 h → h.1 15 0 15 = (sea V z c).1 → AW M_X11_seasons (.inl K) 47 [some (aR 15 0), some (aI (nI N)), none, some (aI w), some (aI (nI (sea V z c).2.1)), some (aI (nI (sea V z c).2.2)), some (aI (nI c)), none, none, none] [] h 0 0 := by
  have h7 := hw.2.1
  intro r
  induction r with
  | zero =>
    intro c h hc hk hz
    refine vc_X11_seasons_47 (nI N) w _ _ (nI c) ?_
    have : c = N := by omega
    subst this
    simp (disch := omega) only [n_le]
    have := k h hk
    refine ⟨fun _ => ⟨fun q => ?_, fun q => ?_⟩, fun q => absurd (by omega) q⟩
    · rw [if_neg q] at this; exact this
    · rw [if_pos (Decidable.not_not.mp q)] at this; exact this
  | succ r ih =>
    intro c h hc hk hz
    refine vc_X11_seasons_47 (nI N) w _ _ (nI c) ?_
    simp (disch := omega) only [n_le]
    refine ⟨fun q => by omega, fun _ => ⟨by decide, fun h2 o2 c2 => ?_⟩⟩
    have hr2 : RV (h2.1 16 1) V := RV_cp hw hr (fun i hi => by rw [c2 i hi, keepM_r0 hk])
    have k2 := keepM_tr hk (keepM_o (by decide) (by decide) o2)
    have z2 : h2.1 15 0 15 = (sea V z c).1 := by rw [o2.2 15 0 (by omega)]; exact hz
    have inner : ∀ r2 e h, e + r2 = 10 → keepM h0 h → RV (h.1 16 1) (ss V e ((sea V z c).1, (sea V z c).2.1, (sea V z c).2.2, V)).2.2.2 → h.1 15 0 15 = (ss V e ((sea V z c).1, (sea V z c).2.1, (sea V z c).2.2, V)).1 → AW M_X11_seasons (.inl K) 67 [some (aR 15 0), some (aI (nI N)), none, some (aI w), some (aI (nI (ss V e ((sea V z c).1, (sea V z c).2.1, (sea V z c).2.2, V)).2.1)), some (aI (nI (ss V e ((sea V z c).1, (sea V z c).2.1, (sea V z c).2.2, V)).2.2.1)), some (aI (nI c)), some (aI (nI e)), none, none] [] h 0 0 := by
      intro r2
      induction r2 with
      | zero =>
        intro e h he hk hr hz
        refine vc_X11_seasons_67 (nI N) w _ _ (nI c) (nI e) ?_
        have : e = 10 := by omega
        subst this
        simp (disch := omega) only [n_le, nI_add]
        exact ⟨fun _ => ih (c + 1) h (by omega) hk hz, fun q => absurd (by omega) q⟩
      | succ r2 ih2 =>
        intro e h he hk hr' hz
        refine vc_X11_seasons_67 (nI N) w _ _ (nI c) (nI e) ?_
        have ih2 := ih2 (e + 1)
        rw [ss] at ih2
        obtain ⟨so1, so2⟩ := ss_ok (p := ((sea V z c).1, (sea V z c).2.1, (sea V z c).2.2, V)) hw hs hw rfl e
        generalize ss V e ((sea V z c).1, (sea V z c).2.1, (sea V z c).2.2, V) = P at *
        have hrs := hr
        rw [← keepM_r0 hk] at hrs
        have e1 := (RVs hrs).2.2.2.2.2.2.2.2.2.2.2.1
        have ha : dr (nxs P.1) (V 10 1) < V 10 1 := Nat.mod_lt _ hs
        simp (disch := omega) only [n_inT, n_cl, true_and, e1, n_le, nI_add]
        refine ⟨fun q => by omega, fun _ => ⟨V 10 1, hs, by omega, rfl, ?_⟩⟩
        rw [hz]
        generalize hA : dr (nxs P.1) (V 10 1) = A at *
        have k1 : keepM h0 (wI h 15 0 15 (nxs P.1)) := keepM_tr hk (keepM_w (by omega))
        have hr1 := hr
        rw [← keepM_r0 k1] at hr1
        have hf : vFl V A ≤ 7 := fly_le _
        refine ⟨V, A, ⟨hr1, hw, ha, rfl⟩, 1 + vFl V A, by omega, by omega, by rw [nI_add], ?_⟩
        rw [wI_at]
        have hC : dr (nxs (nxs P.1)) (1 + vFl V A) < 1 + vFl V A := Nat.mod_lt _ (by omega)
        generalize hCe : dr (nxs (nxs P.1)) (1 + vFl V A) = C at *
        have k3 : keepM h0 (wI (wI h 15 0 15 (nxs P.1)) 15 0 15 (nxs (nxs P.1))) := keepM_tr k1 (keepM_w (by omega))
        have r3 : (wI (wI h 15 0 15 (nxs P.1)) 15 0 15 (nxs (nxs P.1))).1 16 1 = h.1 16 1 := by
          funext i
          show uI (uI h.1 15 0 15 (nxs P.1)) 15 0 15 (nxs (nxs P.1)) 16 1 i = _
          rw [uI_nt (by omega), uI_nt (by omega)]
        generalize hh3 : wI (wI h 15 0 15 (nxs P.1)) 15 0 15 (nxs (nxs P.1)) = h3 at *
        have z3 : h3.1 15 0 15 = nxs (nxs P.1) := by rw [← hh3]; exact wI_at ..
        rw [← r3] at hr'
        have hp : rPre 1 (nI A) h3 P.2.2.2 A := ⟨hr', so1, by rw [so2]; exact ha, rfl⟩
        refine ⟨P.2.2.2, A, C, hp, by omega, rfl, ?_⟩
        simp only [if10_eq]
        refine ⟨fun q => ⟨P.2.2.2, A, C, hp, by omega, rfl, fun h4 o4 q4 => ?_⟩, fun q => ⟨P.2.2.2, A, C, hp, by omega, rfl, fun h4 o4 q4 => ?_⟩⟩
        · have := ih2 h4 (by omega) (keepM_tr k3 (keepM_o (by decide) (by decide) o4)) q4 (by rw [o4.2 15 0 (by omega), z3])
          rw [if_neg q] at this
          dsimp only
          rw [nI_add]
          exact this
        · have := ih2 h4 (by omega) (keepM_tr k3 (keepM_o (by decide) (by decide) o4)) q4 (by rw [o4.2 15 0 (by omega), z3])
          rw [if_pos (Decidable.not_not.mp q)] at this
          dsimp only
          rw [nI_add]
          exact this
    exact inner 10 0 h2 (by omega) k2 hr2 z2
theorem snd_X11_seasons (n z w : Int32) {h : AH} {K : Int32 → AH → Prop} (k : S_X11_seasons n z w h K) : AW M_X11_seasons (.inl K) 0 [some (aR 15 0), some (aI n), some (aI z), some (aI w), none, none, none, none, none, none] [] h 0 0 := by
  obtain ⟨V, hr, hw, k⟩ := k
  have h7 := hw.2.1
  refine vc_X11_seasons n z w ?_
  unfold S_X11_isIn
  simp only [if10_eq]
  unfold R_seasons at k
  have e1 := (RVs hr).2.2.2.2.2.2.2.2.2.2.2.1
  simp (disch := omega) only [n_inT, n_cl, true_and, e1, n_eq0]
  refine ⟨fun q => ?_, fun q => ⟨fun q2 => ⟨fun q3 => ?_, fun q3 => ?_⟩, fun q2 => ?_⟩⟩
  · rw [if_pos (Or.inl q)] at k; exact k h (keepM_rfl h)
  · have q := Decidable.not_not.mp q
    rw [if_neg (by rintro (y | y); exact y q; exact q2 y), if_neg q3] at k
    have h0 : nI 0 ≤ n := Int32.le_iff_toInt_le.mpr (by have := Int32.le_iff_toInt_le.mp q.1; rw [n_toInt (by omega)] at this ⊢; omega)
    obtain ⟨i, hi, rfl⟩ := n_of (by omega) h0 q.2
    unfold nN at k
    rw [n_cl (by omega)] at k
    exact lp_X11_seasons (h0 := h) hr hw (by omega) hi k i 0 _ (by omega) (keepM_w (by omega)) (wI_at ..)
  · have q := Decidable.not_not.mp q
    rw [if_neg (by rintro (y | y); exact y q; exact q2 y), if_pos (Decidable.not_not.mp q3)] at k; exact k h (keepM_rfl h)
  · rw [if_pos (Or.inr (fun y => q2 (fun x => x y)))] at k; exact k h (keepM_rfl h)
theorem tr_X11_seasons : ∀ (as : List AV) (h : AH) (K : Int32 → AH → Prop), T_X11_seasons as h K → ∃ (q : Nat) (r : List AV), as = aR 15 q :: r := by
  intro as h K hk
  match as, hk with
  | [.inr (.inr (.inl q0)), .inl q1, .inl q2, .inl q3], hk =>
    obtain ⟨hb, hk⟩ := tif_inv hk
    simp only [Bool.and_eq_true] at hb
    obtain ⟨e0, e1⟩ := hb
    obtain ⟨a0, b0⟩ := q0
    have f0 : a0 = 15 := Nat.eq_of_beq_eq_true e0
    subst f0
    have f1 : b0 = 0 := Nat.eq_of_beq_eq_true e1
    subst f1
    exact ⟨_, _, rfl⟩
theorem tw_X11_seasons : ∀ (as : List AV) (h : AH) (K : Int32 → AH → Prop), T_X11_seasons as h K → (ini as).length ≤ mNL M_X11_seasons ∧ AW M_X11_seasons (.inl K) 0 (initL (mNL M_X11_seasons) as) [] h 0 0 := by
  intro as h K hk
  match as, hk with
  | [.inr (.inr (.inl q0)), .inl q1, .inl q2, .inl q3], hk =>
    obtain ⟨hb, hk⟩ := tif_inv hk
    simp only [Bool.and_eq_true] at hb
    obtain ⟨e0, e1⟩ := hb
    obtain ⟨a0, b0⟩ := q0
    have f0 : a0 = 15 := Nat.eq_of_beq_eq_true e0
    subst f0
    have f1 : b0 = 0 := Nat.eq_of_beq_eq_true e1
    subst f1
    exact ⟨Nat.le_of_ble_eq_true rfl, snd_X11_seasons q1 q2 q3 hk⟩
end
section
/-! ===== the reference: what came up ===== -/
def tkB (k b : Nat) : Nat := min k b
def tkS (k b s : Nat) : Nat := min (k - min k b) s
def tkV (k b s : Nat) : Nat := 5 * tkB k b + tkS k b s
theorem tk_le (k b s : Nat) : tkB k b ≤ b ∧ tkB k b ≤ k ∧ tkS k b s ≤ s := by unfold tkB tkS; omega
def S_X11_takes (a : Int32) (h : AH) (K : Int32 → AH → Prop) : Prop := ∃ V n b s, rPre 0 a h V n ∧ b ≤ 9 ∧ s ≤ 9 ∧ h.1 15 0 11 = nI b ∧ h.1 15 0 12 = nI s ∧ K (nI (tkV (vSt V n) b s)) (wI (wI h 15 0 11 (nI (b - tkB (vSt V n) b))) 15 0 12 (nI (s - tkS (vSt V n) b s)))
def T_X11_takes : List AV → AH → (Int32 → AH → Prop) → Prop := fun as h K => match as with
  | [.inr (.inr (.inl q0)), .inl q1] => tif (Nat.beq q0.1 15 && Nat.beq q0.2 0) (S_X11_takes q1 h K)
  | _ => False

def M_X11_takes : MI := (RX11, cX11_takes, 4, [(0, .aload_n 0, []), (1, .getfield 9, []), (4, .iload_n 1, []), (5, .invokestatic 95, []), (8, .aload_n 0, []), (9, .getfield 184, []), (12, .invokestatic 85, []), (15, .istore_n 2, []), (16, .aload_n 0, []), (17, .getfield 9, []), (20, .iload_n 1, []), (21, .invokestatic 95, []), (24, .iload_n 2, []), (25, .isub, []), (26, .aload_n 0, []), (27, .getfield 187, []), (30, .invokestatic 85, []), (33, .istore_n 3, []), (34, .aload_n 0, []), (35, .dup, []), (36, .getfield 184, []), (39, .iload_n 2, []), (40, .isub, []), (41, .putfield 184, []), (44, .aload_n 0, []), (45, .dup, []), (46, .getfield 187, []), (49, .iload_n 3, []), (50, .isub, []), (51, .putfield 187, []), (54, .iconst 5, []), (55, .iload_n 2, []), (56, .imul, []), (57, .iload_n 3, []), (58, .iadd, []), (59, .ireturn, [])], [(9, (15, 0, 1, 16, 0)), (184, (15, 11, 0, 0, 0)), (187, (15, 12, 0, 0, 0))], [], [], [(286, (2, 2, 43, 0, 0, .inl T_X11_sticks)), (256, (2, 1, 21, 0, 0, .inl T_X11_least))], 2, 43, 0, 0)
theorem ok_X11_takes : MOK M_X11_takes := ⟨by decide +kernel, List.forall_mem_cons.mpr ⟨fl_RX11_9, List.forall_mem_cons.mpr ⟨fl_RX11_184, List.forall_mem_cons.mpr ⟨fl_RX11_187, fun _ h => absurd h List.not_mem_nil⟩⟩⟩, fun _ h => absurd h List.not_mem_nil, fun _ h => absurd h List.not_mem_nil, List.forall_mem_cons.mpr ⟨⟨Nat.le_of_ble_eq_true rfl, Nat.le_of_ble_eq_true rfl, cr_RX11_286⟩, List.forall_mem_cons.mpr ⟨⟨Nat.le_of_ble_eq_true rfl, Nat.le_of_ble_eq_true rfl, cr_RX11_256⟩, fun _ h => absurd h List.not_mem_nil⟩⟩⟩
set_option maxRecDepth 100000 in
theorem vc_X11_takes {K : Int32 → AH → Prop} {h : AH} (p1 : Int32) (H : S_X11_sticks 0 p1 h (fun x2 h1 => S_X11_least x2 (h1.1 15 0 11) h1 (fun x4 h3 => S_X11_sticks 0 p1 h3 (fun x6 h5 => S_X11_least (x6 - x4) (h5.1 15 0 12) h5 (fun x8 h7 => K (((nI 5) * x4) + x8) (wI (wI h7 15 0 11 ((h7.1 15 0 11) - x4)) 15 0 12 (((wI h7 15 0 11 ((h7.1 15 0 11) - x4)).1 15 0 12) - x8))))))) : AW M_X11_takes (.inl K) 0 [some (aR 15 0), some (aI p1), none, none] [] h 0 0 := AW_go (cuts := []) ok_X11_takes 400 H

theorem snd_X11_takes (a : Int32) {h : AH} {K : Int32 → AH → Prop} (k : S_X11_takes a h K) : AW M_X11_takes (.inl K) 0 [some (aR 15 0), some (aI a), none, none] [] h 0 0 := by
  obtain ⟨V, n, b, s, hp, hb, hs, e1, e2, k⟩ := k
  refine vc_X11_takes a ?_
  have hst : vSt V n ≤ 12 := stk_le (hp.2.1.2.2.2.2.2.2 n hp.2.2.1).2
  have ht := tk_le (vSt V n) b s
  refine ⟨V, n, hp, ?_⟩
  simp (disch := omega) only [S_X11_least, e1, least_n]
  refine ⟨V, n, hp, ?_⟩
  rw [show nI (min (vSt V n) b) = nI (tkB (vSt V n) b) from rfl]
  simp (disch := omega) only [e1, e2, least_n, n_sub, pk_mul, nI_add, uI_ni]
  rw [show min (vSt V n - tkB (vSt V n) b) s = tkS (vSt V n) b s from rfl]
  exact k
theorem tr_X11_takes : ∀ (as : List AV) (h : AH) (K : Int32 → AH → Prop), T_X11_takes as h K → ∃ (q : Nat) (r : List AV), as = aR 15 q :: r := by
  intro as h K hk
  match as, hk with
  | [.inr (.inr (.inl q0)), .inl q1], hk =>
    obtain ⟨hb, hk⟩ := tif_inv hk
    simp only [Bool.and_eq_true] at hb
    obtain ⟨e0, e1⟩ := hb
    obtain ⟨a0, b0⟩ := q0
    have f0 : a0 = 15 := Nat.eq_of_beq_eq_true e0
    subst f0
    have f1 : b0 = 0 := Nat.eq_of_beq_eq_true e1
    subst f1
    exact ⟨_, _, rfl⟩
theorem tw_X11_takes : ∀ (as : List AV) (h : AH) (K : Int32 → AH → Prop), T_X11_takes as h K → (ini as).length ≤ mNL M_X11_takes ∧ AW M_X11_takes (.inl K) 0 (initL (mNL M_X11_takes) as) [] h 0 0 := by
  intro as h K hk
  match as, hk with
  | [.inr (.inr (.inl q0)), .inl q1], hk =>
    obtain ⟨hb, hk⟩ := tif_inv hk
    simp only [Bool.and_eq_true] at hb
    obtain ⟨e0, e1⟩ := hb
    obtain ⟨a0, b0⟩ := q0
    have f0 : a0 = 15 := Nat.eq_of_beq_eq_true e0
    subst f0
    have f1 : b0 = 0 := Nat.eq_of_beq_eq_true e1
    subst f1
    exact ⟨Nat.le_of_ble_eq_true rfl, snd_X11_takes q1 hk⟩
theorem cr_RX11_570 : CR RX11 (kIns 570) (2, 3, 66, 0, 0, .inl T_X11_takes) := crV_i (t := 15) (M := M_X11_takes) (by decide) rfl (by decide) rfl (inG (i := 1206) (w := Cond.methodLink RX11 190 yX11_takes) (by decide +kernel) rfl) (inG (i := 1208) (w := Cond.instanceMethod yX11_takes) (by decide +kernel) rfl) (inG (i := 40) (w := Cond.initialized RX11) (by decide +kernel) rfl) (inG (i := 29) (w := Cond.selects RX11 yX11_takes yX11_takes) (by decide +kernel) rfl) (inG (i := 1209) (w := Cond.code yX11_takes cX11_takes 4 (some .int)) (by decide +kernel) rfl) ⟨by decide +kernel, by decide +kernel, by decide +kernel⟩ tr_X11_takes tw_X11_takes

/-- the first told throw that a pair does not bring, and what is left then -/
def wa (E : Nat → Int32) (k : Nat) : Nat → Nat → Nat → Nat → Nat × Nat × Nat
  | 0, t, b, s => (t, b, s)
  | r + 1, t, b, s => if nI (tkV k b s) = E t then wa E k r (t + 1) (b - tkB k b) (s - tkS k b s) else (t, b - tkB k b, s - tkS k b s)
theorem wa_b {E : Nat → Int32} {k : Nat} : ∀ r t b s, b ≤ 9 → s ≤ 9 → t ≤ (wa E k r t b s).1 ∧ (wa E k r t b s).1 ≤ t + r ∧ (wa E k r t b s).2.1 ≤ 9 ∧ (wa E k r t b s).2.2 ≤ 9
  | 0, t, b, s, hb, hs => ⟨Nat.le_refl _, Nat.le_refl _, hb, hs⟩
  | r + 1, t, b, s, hb, hs => by
    unfold wa
    split
    · have := wa_b (E := E) (k := k) r (t + 1) (b - tkB k b) (s - tkS k b s) (by omega) (by omega)
      omega
    · exact ⟨Nat.le_refl _, by show t ≤ _; omega, by show b - _ ≤ 9; omega, by show s - _ ≤ 9; omega⟩
def waP (E : Nat → Int32) (k sz P : Nat) : Nat × Nat × Nat := wa E k sz 0 (P / 10) (P % 10)
def pPre (h : AH) (S : Sm) (V : Vm) (a d : Int32) (n m : Nat) : Prop := MSh h S ∧ WS S ∧ RV (h.1 16 0) V ∧ WF V ∧ n < V 10 1 ∧ a = nI n ∧ m < 8 ∧ d = nI m ∧ S.1 0 m = 2
theorem pPre_k {h h' : AH} {S : Sm} {V : Vm} {a d : Int32} {n m : Nat} (q : keepM h h') (p : pPre h S V a d n m) : pPre h' S V a d n m := by
  obtain ⟨p1, p2, p3, p4⟩ := p
  exact ⟨MSh_keep q p1, p2, by rw [keepM_r0 q]; exact p3, p4⟩
/-- only what is left of the pair has changed -/
def keepP (h h' : AH) : Prop := h'.2 = h.2 ∧ ∀ t p i, ¬ (t = 15 ∧ p = 0 ∧ (i = 11 ∨ i = 12)) → h'.1 t p i = h.1 t p i
theorem keepP_rfl (h : AH) : keepP h h := ⟨rfl, fun _ _ _ _ => rfl⟩
theorem keepP_tr {h h1 h2 : AH} (a : keepP h h1) (b : keepP h1 h2) : keepP h h2 := ⟨b.1.trans a.1, fun x y i q => (b.2 x y i q).trans (a.2 x y i q)⟩
theorem keepP_w {h : AH} {i : Nat} {x : Int32} (hq : i = 11 ∨ i = 12) : keepP h (wI h 15 0 i x) := ⟨rfl, fun a b j q => by
  rw [wI_get, if_neg (fun e => q ⟨e.1, e.2.1, by omega⟩)]⟩
theorem keepP_M {h h1 : AH} (a : keepP h h1) : keepM h h1 := ⟨a.1, fun x y i q => a.2 x y i (fun e => q (by omega))⟩
def S_X11_wrongAt (a d p : Int32) (h : AH) (K : Int32 → AH → Prop) : Prop := ∃ S V n m P, pPre h S V a d n m ∧ P < 100 ∧ p = nI P ∧ ∀ h', keepP h h' → h'.1 15 0 11 = nI (waP (S.2 m) (vSt V n) (S.1 4 m) P).2.1 → h'.1 15 0 12 = nI (waP (S.2 m) (vSt V n) (S.1 4 m) P).2.2 → K (nI (waP (S.2 m) (vSt V n) (S.1 4 m) P).1) h'
def T_X11_wrongAt : List AV → AH → (Int32 → AH → Prop) → Prop := fun as h K => match as with
  | [.inr (.inr (.inl q0)), .inl q1, .inl q2, .inl q3] => tif (Nat.beq q0.1 15 && Nat.beq q0.2 0) (S_X11_wrongAt q1 q2 q3 h K)
  | _ => False

def M_X11_wrongAt : MI := (RX11, cX11_wrongAt, 5, [(0, .aload_n 0, []), (1, .iload_n 3, []), (2, .bipush 10, []), (4, .idiv, []), (5, .putfield 184, []), (8, .aload_n 0, []), (9, .iload_n 3, []), (10, .bipush 10, []), (12, .irem, []), (13, .putfield 187, []), (16, .iconst 0, []), (17, .istore 4, []), (19, .iload 4, []), (21, .aload_n 0, []), (22, .getfield 47, []), (25, .iload_n 2, []), (26, .iaload, []), (27, .if_icmp .ge 32, [59]), (30, .aload_n 0, []), (31, .iload_n 1, []), (32, .invokevirtual 190, []), (35, .aload_n 0, []), (36, .getfield 50, []), (39, .bipush 100, []), (41, .iload_n 2, []), (42, .imul, []), (43, .iload 4, []), (45, .iadd, []), (46, .iaload, []), (47, .if_icmp .eq 6, [53]), (50, .iload 4, []), (52, .ireturn, []), (53, .iinc 4 1, []), (56, .goto (-37), [19]), (59, .aload_n 0, []), (60, .getfield 47, []), (63, .iload_n 2, []), (64, .iaload, []), (65, .ireturn, [])], [(184, (15, 11, 0, 0, 0)), (187, (15, 12, 0, 0, 0)), (47, (15, 20, 1, 21, 4)), (50, (15, 21, 1, 22, 0))], [], [], [(570, (2, 3, 66, 0, 0, .inl T_X11_takes))], 3, 66, 0, 0)
theorem ok_X11_wrongAt : MOK M_X11_wrongAt := ⟨by decide +kernel, List.forall_mem_cons.mpr ⟨fl_RX11_184, List.forall_mem_cons.mpr ⟨fl_RX11_187, List.forall_mem_cons.mpr ⟨fl_RX11_47, List.forall_mem_cons.mpr ⟨fl_RX11_50, fun _ h => absurd h List.not_mem_nil⟩⟩⟩⟩, fun _ h => absurd h List.not_mem_nil, fun _ h => absurd h List.not_mem_nil, List.forall_mem_cons.mpr ⟨⟨Nat.le_of_ble_eq_true rfl, Nat.le_of_ble_eq_true rfl, cr_RX11_570⟩, fun _ h => absurd h List.not_mem_nil⟩⟩
set_option maxRecDepth 100000 in
theorem vc_X11_wrongAt {K : Int32 → AH → Prop} {h : AH} (p1 : Int32) (p2 : Int32) (p3 : Int32) (H : (¬ (nI 10) = 0) ∧ (¬ (nI 10) = 0) ∧ AW M_X11_wrongAt (.inl K) 19 [some (aR 15 0), some (aI p1), some (aI p2), none, some (aI (nI 0))] [] (wI (wI h 15 0 11 (p3 / (nI 10))) 15 0 12 (p3 - p3 / (nI 10) * (nI 10))) 0 0) : AW M_X11_wrongAt (.inl K) 0 [some (aR 15 0), some (aI p1), some (aI p2), some (aI p3), none] [] h 0 0 := AW_go (cuts := [(19, [true, true, true, false, true])]) ok_X11_wrongAt 400 H
set_option maxRecDepth 100000 in
theorem vc_X11_wrongAt_19 {K : Int32 → AH → Prop} {h : AH}  (l1 : Int32) (l2 : Int32) (l4 : Int32) (H : inR l2 8 ∧ (((h.1 21 4 l2.toNatClampNeg) ≤ l4) → inR l2 8 ∧ K (h.1 21 4 l2.toNatClampNeg) h) ∧ (¬ ((h.1 21 4 l2.toNatClampNeg) ≤ l4) → S_X11_takes l1 h (fun x2 h1 => inR (((nI 100) * l2) + l4) 800 ∧ ((x2 = (h1.1 22 0 (((nI 100) * l2) + l4).toNatClampNeg)) → AW M_X11_wrongAt (.inl K) 19 [some (aR 15 0), some (aI l1), some (aI l2), none, some (aI (l4 + (nI 1)))] [] h1 0 0) ∧ (¬ (x2 = (h1.1 22 0 (((nI 100) * l2) + l4).toNatClampNeg)) → K l4 h1)))) : AW M_X11_wrongAt (.inl K) 19 [some (aR 15 0), some (aI l1), some (aI l2), none, some (aI l4)] [] h 0 0 := AW_go (cuts := [(19, [true, true, true, false, true])]) ok_X11_wrongAt 400 H

theorem lp_X11_wrongAt {S : Sm} {V : Vm} {n m : Nat} {h0 : AH} {K : Int32 → AH → Prop} (hp : pPre h0 S V (nI n) (nI m) n m) : ∀ r t b s h, t + r = S.1 4 m → b ≤ 9 → s ≤ 9 → keepP h0 h → h.1 15 0 11 = nI b → h.1 15 0 12 = nI s → (∀ h', keepP h0 h' → h'.1 15 0 11 = nI (wa (S.2 m) (vSt V n) r t b s).2.1 → h'.1 15 0 12 = nI (wa (S.2 m) (vSt V n) r t b s).2.2 → K (nI (wa (S.2 m) (vSt V n) r t b s).1) h') → AW M_X11_wrongAt (.inl K) 19 [some (aR 15 0), some (aI (nI n)), some (aI (nI m)), none, some (aI (nI t))] [] h 0 0 := by
  intro r
  induction r with
  | zero =>
    intro t b s h ht hb hs hk e1 e2 k
    refine vc_X11_wrongAt_19 (nI n) (nI m) (nI t) ?_
    obtain ⟨p1, p2, p3, p4, p5, -, p7, -, p9⟩ := pPre_k (keepP_M hk) hp
    have hw3 := (p2 m p7).2.2 p9
    obtain ⟨c1, c2, c3⟩ := (p1 m p7).2.2 p9
    simp (disch := omega) only [n_inT, n_cl, true_and, c2, n_le]
    have : t = S.1 4 m := by omega
    rw [← this]
    exact ⟨fun _ => k h hk e1 e2, fun q => absurd (by omega) q⟩
  | succ r ih =>
    intro t b s h ht hb hs hk e1 e2 k
    refine vc_X11_wrongAt_19 (nI n) (nI m) (nI t) ?_
    obtain ⟨p1, p2, p3, p4, p5, -, p7, -, p9⟩ := pPre_k (keepP_M hk) hp
    have hw3 := (p2 m p7).2.2 p9
    obtain ⟨c1, c2, c3⟩ := (p1 m p7).2.2 p9
    have h7 := p4.2.1
    simp (disch := omega) only [n_inT, n_cl, true_and, c2, n_le, pk_mul, nI_add]
    refine ⟨fun q => by omega, fun _ => ⟨V, n, b, s, ⟨p3, p4, p5, rfl⟩, hb, hs, e1, e2, ?_⟩⟩
    have tl := tk_le (vSt V n) b s
    dsimp only
    rw [uI_nt (by omega), uI_nt (by omega), c3 t (by omega)]
    have k1 : keepP h0 (wI (wI h 15 0 11 (nI (b - tkB (vSt V n) b))) 15 0 12 (nI (s - tkS (vSt V n) b s))) := keepP_tr hk (keepP_tr (keepP_w (by omega)) (keepP_w (by omega)))
    have f1 : (wI (wI h 15 0 11 (nI (b - tkB (vSt V n) b))) 15 0 12 (nI (s - tkS (vSt V n) b s))).1 15 0 11 = nI (b - tkB (vSt V n) b) := by
      rw [wI_ni (by omega), wI_at]
    have f2 : (wI (wI h 15 0 11 (nI (b - tkB (vSt V n) b))) 15 0 12 (nI (s - tkS (vSt V n) b s))).1 15 0 12 = nI (s - tkS (vSt V n) b s) := by
      rw [wI_at]
    refine ⟨fun q => ih (t + 1) (b - tkB (vSt V n) b) (s - tkS (vSt V n) b s) _ (by omega) (by omega) (by omega) k1 f1 f2 (fun h' q1 q2 q3 => ?_), fun q => ?_⟩
    · have := k h' q1
      rw [wa, if_pos q] at this
      exact this q2 q3
    · have := k _ k1
      rw [wa, if_neg q] at this
      exact this f1 f2
theorem snd_X11_wrongAt (a d p : Int32) {h : AH} {K : Int32 → AH → Prop} (k : S_X11_wrongAt a d p h K) : AW M_X11_wrongAt (.inl K) 0 [some (aR 15 0), some (aI a), some (aI d), some (aI p), none] [] h 0 0 := by
  obtain ⟨S, V, n, m, P, hp, hP, rfl, k⟩ := k
  obtain ⟨-, -, -, -, -, rfl, -, rfl, -⟩ := id hp
  refine vc_X11_wrongAt (nI n) (nI m) (nI P) ⟨by decide, by decide, ?_⟩
  rw [n_rem (show P < 2147483648 by omega) (by omega) (by omega), n_div (show P < 2147483648 by omega) (by omega) (by omega)]
  refine lp_X11_wrongAt hp (S.1 4 m) 0 (P / 10) (P % 10) _ (by omega) (by omega) (by omega) (keepP_tr (keepP_w (by omega)) (keepP_w (by omega))) ?_ ?_ k
  · first | rw [wI_ni (by omega), wI_at] | rw [uI_ni (by omega), uI_at]
  · first | rw [wI_at] | rw [uI_at]
theorem tr_X11_wrongAt : ∀ (as : List AV) (h : AH) (K : Int32 → AH → Prop), T_X11_wrongAt as h K → ∃ (q : Nat) (r : List AV), as = aR 15 q :: r := by
  intro as h K hk
  match as, hk with
  | [.inr (.inr (.inl q0)), .inl q1, .inl q2, .inl q3], hk =>
    obtain ⟨hb, hk⟩ := tif_inv hk
    simp only [Bool.and_eq_true] at hb
    obtain ⟨e0, e1⟩ := hb
    obtain ⟨a0, b0⟩ := q0
    have f0 : a0 = 15 := Nat.eq_of_beq_eq_true e0
    subst f0
    have f1 : b0 = 0 := Nat.eq_of_beq_eq_true e1
    subst f1
    exact ⟨_, _, rfl⟩
theorem tw_X11_wrongAt : ∀ (as : List AV) (h : AH) (K : Int32 → AH → Prop), T_X11_wrongAt as h K → (ini as).length ≤ mNL M_X11_wrongAt ∧ AW M_X11_wrongAt (.inl K) 0 (initL (mNL M_X11_wrongAt) as) [] h 0 0 := by
  intro as h K hk
  match as, hk with
  | [.inr (.inr (.inl q0)), .inl q1, .inl q2, .inl q3], hk =>
    obtain ⟨hb, hk⟩ := tif_inv hk
    simp only [Bool.and_eq_true] at hb
    obtain ⟨e0, e1⟩ := hb
    obtain ⟨a0, b0⟩ := q0
    have f0 : a0 = 15 := Nat.eq_of_beq_eq_true e0
    subst f0
    have f1 : b0 = 0 := Nat.eq_of_beq_eq_true e1
    subst f1
    exact ⟨Nat.le_of_ble_eq_true rfl, snd_X11_wrongAt q1 q2 q3 hk⟩
theorem cr_RX11_588 : CR RX11 (kIns 588) (4, 4, 90, 0, 0, .inl T_X11_wrongAt) := crV_i (t := 15) (M := M_X11_wrongAt) (by decide) rfl (by decide) rfl (inG (i := 1202) (w := Cond.methodLink RX11 196 yX11_wrongAt) (by decide +kernel) rfl) (inG (i := 1204) (w := Cond.instanceMethod yX11_wrongAt) (by decide +kernel) rfl) (inG (i := 40) (w := Cond.initialized RX11) (by decide +kernel) rfl) (inG (i := 28) (w := Cond.selects RX11 yX11_wrongAt yX11_wrongAt) (by decide +kernel) rfl) (inG (i := 1205) (w := Cond.code yX11_wrongAt cX11_wrongAt 5 (some .int)) (by decide +kernel) rfl) ⟨by decide +kernel, by decide +kernel, by decide +kernel⟩ tr_X11_wrongAt tw_X11_wrongAt

def rsr (S : Sm) (V : Vm) (a d : Int32) : Int32 := if shp V a then rwR S d (iI (-1)) else iI (-1)
def S_X11_wrongSheepRow (a d : Int32) (h : AH) (K : Int32 → AH → Prop) : Prop := ∃ S V, MSh h S ∧ WS S ∧ RV (h.1 16 0) V ∧ WF V ∧ K (rsr S V a d) h
def T_X11_wrongSheepRow : List AV → AH → (Int32 → AH → Prop) → Prop := fun as h K => match as with
  | [.inr (.inr (.inl q0)), .inl q1, .inl q2] => tif (Nat.beq q0.1 15 && Nat.beq q0.2 0) (S_X11_wrongSheepRow q1 q2 h K)
  | _ => False

def M_X11_wrongSheepRow : MI := (RX11, cX11_wrongSheepRow, 3, [(0, .aload_n 0, []), (1, .iload_n 1, []), (2, .invokevirtual 132, []), (5, .ifCond .eq 12, [17]), (8, .aload_n 0, []), (9, .iload_n 2, []), (10, .iconst (-1), []), (11, .invokevirtual 141, []), (14, .goto 4, [18]), (17, .iconst (-1), []), (18, .ireturn, [])], [], [], [], [(396, (2, 2, 43, 0, 0, .inl T_X11_isSheep)), (423, (3, 3, 64, 0, 0, .inl T_X11_wrongRow))], 3, 64, 0, 0)
theorem ok_X11_wrongSheepRow : MOK M_X11_wrongSheepRow := ⟨by decide +kernel, fun _ h => absurd h List.not_mem_nil, fun _ h => absurd h List.not_mem_nil, fun _ h => absurd h List.not_mem_nil, List.forall_mem_cons.mpr ⟨⟨Nat.le_of_ble_eq_true rfl, Nat.le_of_ble_eq_true rfl, cr_RX11_396⟩, List.forall_mem_cons.mpr ⟨⟨Nat.le_of_ble_eq_true rfl, Nat.le_of_ble_eq_true rfl, cr_RX11_423⟩, fun _ h => absurd h List.not_mem_nil⟩⟩⟩
set_option maxRecDepth 100000 in
theorem vc_X11_wrongSheepRow {K : Int32 → AH → Prop} {h : AH} (p1 : Int32) (p2 : Int32) (H : S_X11_isSheep p1 h (fun x2 h1 => ((x2 = 0) → K (iI (-1)) h1) ∧ (¬ (x2 = 0) → S_X11_wrongRow p2 (iI (-1)) h1 (fun x4 h3 => K x4 h3)))) : AW M_X11_wrongSheepRow (.inl K) 0 [some (aR 15 0), some (aI p1), some (aI p2)] [] h 0 0 := AW_go (cuts := []) ok_X11_wrongSheepRow 400 H

theorem snd_X11_wrongSheepRow (a d : Int32) {h : AH} {K : Int32 → AH → Prop} (k : S_X11_wrongSheepRow a d h K) : AW M_X11_wrongSheepRow (.inl K) 0 [some (aR 15 0), some (aI a), some (aI d)] [] h 0 0 := by
  obtain ⟨S, V, hs, hw, hr, hv, k⟩ := k
  refine vc_X11_wrongSheepRow a d ?_
  have e1 := (RVs hr).2.2.2.2.2.2.2.2.2.2.2.1
  unfold S_X11_isSheep
  rw [e1]
  simp only [if10_eq]
  unfold rsr at k
  refine ⟨fun q => ?_, fun q => ⟨S, hs, hw, ?_⟩⟩
  · rw [if_neg q] at k; exact k
  · rw [if_pos (Decidable.not_not.mp q)] at k; exact k
theorem tr_X11_wrongSheepRow : ∀ (as : List AV) (h : AH) (K : Int32 → AH → Prop), T_X11_wrongSheepRow as h K → ∃ (q : Nat) (r : List AV), as = aR 15 q :: r := by
  intro as h K hk
  match as, hk with
  | [.inr (.inr (.inl q0)), .inl q1, .inl q2], hk =>
    obtain ⟨hb, hk⟩ := tif_inv hk
    simp only [Bool.and_eq_true] at hb
    obtain ⟨e0, e1⟩ := hb
    obtain ⟨a0, b0⟩ := q0
    have f0 : a0 = 15 := Nat.eq_of_beq_eq_true e0
    subst f0
    have f1 : b0 = 0 := Nat.eq_of_beq_eq_true e1
    subst f1
    exact ⟨_, _, rfl⟩
theorem tw_X11_wrongSheepRow : ∀ (as : List AV) (h : AH) (K : Int32 → AH → Prop), T_X11_wrongSheepRow as h K → (ini as).length ≤ mNL M_X11_wrongSheepRow ∧ AW M_X11_wrongSheepRow (.inl K) 0 (initL (mNL M_X11_wrongSheepRow) as) [] h 0 0 := by
  intro as h K hk
  match as, hk with
  | [.inr (.inr (.inl q0)), .inl q1, .inl q2], hk =>
    obtain ⟨hb, hk⟩ := tif_inv hk
    simp only [Bool.and_eq_true] at hb
    obtain ⟨e0, e1⟩ := hb
    obtain ⟨a0, b0⟩ := q0
    have f0 : a0 = 15 := Nat.eq_of_beq_eq_true e0
    subst f0
    have f1 : b0 = 0 := Nat.eq_of_beq_eq_true e1
    subst f1
    exact ⟨Nat.le_of_ble_eq_true rfl, snd_X11_wrongSheepRow q1 q2 hk⟩
theorem cr_RX11_579 : CR RX11 (kIns 579) (3, 4, 86, 0, 0, .inl T_X11_wrongSheepRow) := crV_i (t := 15) (M := M_X11_wrongSheepRow) (by decide) rfl (by decide) rfl (inG (i := 1198) (w := Cond.methodLink RX11 193 yX11_wrongSheepRow) (by decide +kernel) rfl) (inG (i := 1200) (w := Cond.instanceMethod yX11_wrongSheepRow) (by decide +kernel) rfl) (inG (i := 40) (w := Cond.initialized RX11) (by decide +kernel) rfl) (inG (i := 27) (w := Cond.selects RX11 yX11_wrongSheepRow yX11_wrongSheepRow) (by decide +kernel) rfl) (inG (i := 1201) (w := Cond.code yX11_wrongSheepRow cX11_wrongSheepRow 3 (some .int)) (by decide +kernel) rfl) ⟨by decide +kernel, by decide +kernel, by decide +kernel⟩ tr_X11_wrongSheepRow tw_X11_wrongSheepRow

theorem rsr_cases {h : AH} {S : Sm} {V : Vm} (hs : MSh h S) (hw : WS S) (hr : RV (h.1 16 0) V) (hv : WF V) (a d : Int32) : (∃ n m, pPre h S V a d n m ∧ rsr S V a d = nI 0) ∨ rsr S V a d ≠ nI 0 := by
  have h7 := hv.2.1
  unfold rsr
  by_cases ha : shp V a
  · rw [if_pos ha]
    obtain ⟨n, hn, rfl⟩ := (in_iff (by omega)).mp ha
    rcases rwR_cases hw d with ⟨m, hm, rfl, h2, e⟩ | e
    · exact Or.inl ⟨n, m, ⟨hs, hw, hr, hv, hn, rfl, hm, rfl, h2⟩, e⟩
    · exact Or.inr e
  · rw [if_neg ha]; exact Or.inr (by decide)
/-- what a pair leaves behind all told throws, if it fits -/
def fitO (E : Nat → Int32) (k sz P : Nat) : Option Nat := if (waP E k sz P).1 = sz then some (10 * (waP E k sz P).2.1 + (waP E k sz P).2.2) else none
/-- pairs from the greatest down: how many fit, the least, what it leaves -/
def stl (f : Nat → Option Nat) : Nat → Nat × Int × Int
  | 0 => (0, -4, -4)
  | r + 1 => match f (99 - r) with
    | none => stl f r
    | some x => ((stl f r).1 + 1, ((99 - r : Nat) : Int), ((5 * (x / 10) + x % 10 : Nat) : Int))
def R_still (S : Sm) (V : Vm) (a d w : Int32) : Int32 := if ¬ (nI 0 ≤ w ∧ w ≤ nI 2) then iI (-1) else if rsr S V a d ≠ nI 0 then rsr S V a d else if w = 0 then nI (stl (fitO (S.2 (nN d)) (vSt V (nN a)) (S.1 4 (nN d))) 100).1 else if w = nI 1 then iI (stl (fitO (S.2 (nN d)) (vSt V (nN a)) (S.1 4 (nN d))) 100).2.1 else iI (stl (fitO (S.2 (nN d)) (vSt V (nN a)) (S.1 4 (nN d))) 100).2.2
def S_X11_still (a d w : Int32) (h : AH) (K : Int32 → AH → Prop) : Prop := ∃ S V, MSh h S ∧ WS S ∧ RV (h.1 16 0) V ∧ WF V ∧ ∀ h', keepM h h' → K (R_still S V a d w) h'
def T_X11_still : List AV → AH → (Int32 → AH → Prop) → Prop := fun as h K => match as with
  | [.inr (.inr (.inl q0)), .inl q1, .inl q2, .inl q3] => tif (Nat.beq q0.1 15 && Nat.beq q0.2 0) (S_X11_still q1 q2 q3 h K)
  | _ => False

def M_X11_still : MI := (RX11, cX11_still, 9, [(0, .iload_n 3, []), (1, .iconst 0, []), (2, .iconst 2, []), (3, .invokestatic 53, []), (6, .ifCond .eq 12, [18]), (9, .aload_n 0, []), (10, .iload_n 1, []), (11, .iload_n 2, []), (12, .invokevirtual 193, []), (15, .goto 4, [19]), (18, .iconst (-1), []), (19, .istore 4, []), (21, .iload 4, []), (23, .ifCond .eq 6, [29]), (26, .iload 4, []), (28, .ireturn, []), (29, .iconst 0, []), (30, .istore 5, []), (32, .bipush (-4), []), (34, .istore 6, []), (36, .bipush (-4), []), (38, .istore 7, []), (40, .bipush 99, []), (42, .istore 8, []), (44, .iload 8, []), (46, .ifCond .lt 49, [95]), (49, .aload_n 0, []), (50, .iload_n 1, []), (51, .iload_n 2, []), (52, .iload 8, []), (54, .invokevirtual 196, []), (57, .aload_n 0, []), (58, .getfield 47, []), (61, .iload_n 2, []), (62, .iaload, []), (63, .if_icmp .ge 6, [69]), (66, .goto 23, [89]), (69, .iinc 5 1, []), (72, .iload 8, []), (74, .istore 6, []), (76, .iconst 5, []), (77, .aload_n 0, []), (78, .getfield 184, []), (81, .imul, []), (82, .aload_n 0, []), (83, .getfield 187, []), (86, .iadd, []), (87, .istore 7, []), (89, .iinc 8 (-1), []), (92, .goto (-48), [44]), (95, .iload_n 3, []), (96, .ifCond .ne 8, [104]), (99, .iload 5, []), (101, .goto 15, [116]), (104, .iload_n 3, []), (105, .iconst 1, []), (106, .if_icmp .ne 8, [114]), (109, .iload 6, []), (111, .goto 5, [116]), (114, .iload 7, []), (116, .ireturn, [])], [(47, (15, 20, 1, 21, 4)), (184, (15, 11, 0, 0, 0)), (187, (15, 12, 0, 0, 0))], [], [], [(160, (3, 1, 22, 0, 0, .inl T_X11_isIn)), (579, (3, 4, 86, 0, 0, .inl T_X11_wrongSheepRow)), (588, (4, 4, 90, 0, 0, .inl T_X11_wrongAt))], 4, 90, 0, 0)
theorem ok_X11_still : MOK M_X11_still := ⟨by decide +kernel, List.forall_mem_cons.mpr ⟨fl_RX11_47, List.forall_mem_cons.mpr ⟨fl_RX11_184, List.forall_mem_cons.mpr ⟨fl_RX11_187, fun _ h => absurd h List.not_mem_nil⟩⟩⟩, fun _ h => absurd h List.not_mem_nil, fun _ h => absurd h List.not_mem_nil, List.forall_mem_cons.mpr ⟨⟨Nat.le_of_ble_eq_true rfl, Nat.le_of_ble_eq_true rfl, cr_RX11_160⟩, List.forall_mem_cons.mpr ⟨⟨Nat.le_of_ble_eq_true rfl, Nat.le_of_ble_eq_true rfl, cr_RX11_579⟩, List.forall_mem_cons.mpr ⟨⟨Nat.le_of_ble_eq_true rfl, Nat.le_of_ble_eq_true rfl, cr_RX11_588⟩, fun _ h => absurd h List.not_mem_nil⟩⟩⟩⟩
set_option maxRecDepth 100000 in
theorem vc_X11_still {K : Int32 → AH → Prop} {h : AH} (p1 : Int32) (p2 : Int32) (p3 : Int32) (H : S_X11_isIn p3 (nI 0) (nI 2) h (fun x2 h1 => ((x2 = 0) → (((iI (-1)) = 0) → AW M_X11_still (.inl K) 44 [some (aR 15 0), some (aI p1), some (aI p2), some (aI p3), none, some (aI (nI 0)), some (aI (iI (-4))), some (aI (iI (-4))), some (aI (nI 99))] [] h1 0 0) ∧ (¬ ((iI (-1)) = 0) → K (iI (-1)) h1)) ∧ (¬ (x2 = 0) → S_X11_wrongSheepRow p1 p2 h1 (fun x4 h3 => ((x4 = 0) → AW M_X11_still (.inl K) 44 [some (aR 15 0), some (aI p1), some (aI p2), some (aI p3), none, some (aI (nI 0)), some (aI (iI (-4))), some (aI (iI (-4))), some (aI (nI 99))] [] h3 0 0) ∧ (¬ (x4 = 0) → K x4 h3))))) : AW M_X11_still (.inl K) 0 [some (aR 15 0), some (aI p1), some (aI p2), some (aI p3), none, none, none, none, none] [] h 0 0 := AW_go (cuts := [(44, [true, true, true, true, false, true, true, true, true])]) ok_X11_still 400 H
set_option maxRecDepth 100000 in
theorem vc_X11_still_44 {K : Int32 → AH → Prop} {h : AH}  (l1 : Int32) (l2 : Int32) (l3 : Int32) (l5 : Int32) (l6 : Int32) (l7 : Int32) (l8 : Int32) (H : ((l8 < 0) → ((¬ l3 = 0) → ((¬ l3 = (nI 1)) → K l7 h) ∧ (¬ (¬ l3 = (nI 1)) → K l6 h)) ∧ (¬ (¬ l3 = 0) → K l5 h)) ∧ (¬ (l8 < 0) → S_X11_wrongAt l1 l2 l8 h (fun x2 h1 => inR l2 8 ∧ (((h1.1 21 4 l2.toNatClampNeg) ≤ x2) → AW M_X11_still (.inl K) 44 [some (aR 15 0), some (aI l1), some (aI l2), some (aI l3), none, some (aI (l5 + (nI 1))), some (aI l8), some (aI (((nI 5) * (h1.1 15 0 11)) + (h1.1 15 0 12))), some (aI (l8 + (iI (-1))))] [] h1 0 0) ∧ (¬ ((h1.1 21 4 l2.toNatClampNeg) ≤ x2) → AW M_X11_still (.inl K) 44 [some (aR 15 0), some (aI l1), some (aI l2), some (aI l3), none, some (aI l5), some (aI l6), some (aI l7), some (aI (l8 + (iI (-1))))] [] h1 0 0)))) : AW M_X11_still (.inl K) 44 [some (aR 15 0), some (aI l1), some (aI l2), some (aI l3), none, some (aI l5), some (aI l6), some (aI l7), some (aI l8)] [] h 0 0 := AW_go (cuts := [(44, [true, true, true, true, false, true, true, true, true])]) ok_X11_still 400 H

theorem lp_X11_still {S : Sm} {V : Vm} {n m : Nat} {w : Int32} {h0 : AH} {K : Int32 → AH → Prop} (hp : pPre h0 S V (nI n) (nI m) n m) (k : ∀ h', keepM h0 h' → K (if w = 0 then nI (stl (fitO (S.2 m) (vSt V n) (S.1 4 m)) 100).1 else if w = nI 1 then iI (stl (fitO (S.2 m) (vSt V n) (S.1 4 m)) 100).2.1 else iI (stl (fitO (S.2 m) (vSt V n) (S.1 4 m)) 100).2.2) h') : ∀ q r h, q + r = 100 → keepM h0 h → AW M_X11_still (.inl K) 44 [some (aR 15 0), some (aI (nI n)), some (aI (nI m)), some (aI w), none, some (aI (nI (stl (fitO (S.2 m) (vSt V n) (S.1 4 m)) r).1)), some (aI (iI (stl (fitO (S.2 m) (vSt V n) (S.1 4 m)) r).2.1)), some (aI (iI (stl (fitO (S.2 m) (vSt V n) (S.1 4 m)) r).2.2)), some (aI (nI q + iI (-1)))] [] h 0 0 := by
  obtain ⟨-, p2, -, p4, p5, -, p7, -, p9⟩ := id hp
  have hw3 := (p2 m p7).2.2 p9
  have h7 := p4.2.1
  intro q
  induction q with
  | zero =>
    intro r h hr hk
    refine vc_X11_still_44 (nI n) (nI m) w _ _ _ _ ?_
    have : r = 100 := by omega
    subst this
    have := k h hk
    refine ⟨fun _ => ⟨fun q => ⟨fun q2 => ?_, fun q2 => ?_⟩, fun q => ?_⟩, fun q => absurd (by decide) q⟩
    · rw [if_neg q, if_neg q2] at this; exact this
    · rw [if_neg q, if_pos (Decidable.not_not.mp q2)] at this; exact this
    · rw [if_pos (Decidable.not_not.mp q)] at this; exact this
  | succ q ih =>
    intro r h hr hk
    refine vc_X11_still_44 (nI n) (nI m) w _ _ _ _ ?_
    have eq1 : nI (q + 1) + iI (-1) = nI q := by rw [nI_iI, i_add, nI_iI]; congr 1; omega
    rw [eq1]
    simp (disch := omega) only [n_lt0]
    refine ⟨fun z => z.elim, fun _ => ⟨S, V, n, m, q, pPre_k hk hp, by omega, rfl, fun h1 o1 f1 f2 => ?_⟩⟩
    have k1 := keepM_tr hk (keepP_M o1)
    have hb := wa_b (E := S.2 m) (k := vSt V n) (S.1 4 m) 0 (q / 10) (q % 10) (by omega) (by omega)
    have hb : 0 ≤ (waP (S.2 m) (vSt V n) (S.1 4 m) q).1 ∧ (waP (S.2 m) (vSt V n) (S.1 4 m) q).1 ≤ 0 + S.1 4 m ∧ (waP (S.2 m) (vSt V n) (S.1 4 m) q).2.1 ≤ 9 ∧ (waP (S.2 m) (vSt V n) (S.1 4 m) q).2.2 ≤ 9 := hb
    obtain ⟨c1, c2, c3⟩ := ((pPre_k k1 hp).1 m p7).2.2 p9
    have ih := ih (r + 1) h1 (by omega) k1
    rw [stl, show 99 - r = q by omega] at ih
    unfold fitO at ih
    simp (disch := omega) only [n_inT, n_cl, true_and, c2, f1, f2, pk_mul, nI_add, n_le]
    refine ⟨fun z => ?_, fun z => ?_⟩
    · rw [if_pos (by omega)] at ih
      simp only at ih
      rw [show (10 * (waP (S.2 m) (vSt V n) (S.1 4 m) q).2.1 + (waP (S.2 m) (vSt V n) (S.1 4 m) q).2.2) / 10 = (waP (S.2 m) (vSt V n) (S.1 4 m) q).2.1 by omega, show (10 * (waP (S.2 m) (vSt V n) (S.1 4 m) q).2.1 + (waP (S.2 m) (vSt V n) (S.1 4 m) q).2.2) % 10 = (waP (S.2 m) (vSt V n) (S.1 4 m) q).2.2 by omega, ← nI_iI, ← nI_iI] at ih
      exact ih
    · rw [if_neg (by omega)] at ih
      exact ih
theorem snd_X11_still (a d w : Int32) {h : AH} {K : Int32 → AH → Prop} (k : S_X11_still a d w h K) : AW M_X11_still (.inl K) 0 [some (aR 15 0), some (aI a), some (aI d), some (aI w), none, none, none, none, none] [] h 0 0 := by
  obtain ⟨S, V, hs, hw, hr, hv, k⟩ := k
  refine vc_X11_still a d w ?_
  unfold S_X11_isIn
  simp only [if10_eq]
  unfold R_still at k
  refine ⟨fun q => ⟨fun z => absurd z (by decide), fun _ => ?_⟩, fun q => ⟨S, V, hs, hw, hr, hv, ?_⟩⟩
  · rw [if_pos q] at k; exact k h (keepM_rfl h)
  · rw [if_neg q] at k
    rcases rsr_cases hs hw hr hv a d with ⟨n, m, hp, e⟩ | e
    case inr =>
      rw [if_pos e] at k
      exact ⟨fun z => absurd z e, fun _ => k h (keepM_rfl h)⟩
    rw [if_neg (fun z => z e)] at k
    obtain ⟨-, -, -, p4, p5, rfl, p7, rfl, p9⟩ := id hp
    have h7 := p4.2.1
    unfold nN at k
    rw [n_cl (show m < 2147483648 by omega), n_cl (show n < 2147483648 by omega)] at k
    exact ⟨fun _ => lp_X11_still hp k 100 0 h (by omega) (keepM_rfl h), fun z => absurd e z⟩
theorem tr_X11_still : ∀ (as : List AV) (h : AH) (K : Int32 → AH → Prop), T_X11_still as h K → ∃ (q : Nat) (r : List AV), as = aR 15 q :: r := by
  intro as h K hk
  match as, hk with
  | [.inr (.inr (.inl q0)), .inl q1, .inl q2, .inl q3], hk =>
    obtain ⟨hb, hk⟩ := tif_inv hk
    simp only [Bool.and_eq_true] at hb
    obtain ⟨e0, e1⟩ := hb
    obtain ⟨a0, b0⟩ := q0
    have f0 : a0 = 15 := Nat.eq_of_beq_eq_true e0
    subst f0
    have f1 : b0 = 0 := Nat.eq_of_beq_eq_true e1
    subst f1
    exact ⟨_, _, rfl⟩
theorem tw_X11_still : ∀ (as : List AV) (h : AH) (K : Int32 → AH → Prop), T_X11_still as h K → (ini as).length ≤ mNL M_X11_still ∧ AW M_X11_still (.inl K) 0 (initL (mNL M_X11_still) as) [] h 0 0 := by
  intro as h K hk
  match as, hk with
  | [.inr (.inr (.inl q0)), .inl q1, .inl q2, .inl q3], hk =>
    obtain ⟨hb, hk⟩ := tif_inv hk
    simp only [Bool.and_eq_true] at hb
    obtain ⟨e0, e1⟩ := hb
    obtain ⟨a0, b0⟩ := q0
    have f0 : a0 = 15 := Nat.eq_of_beq_eq_true e0
    subst f0
    have f1 : b0 = 0 := Nat.eq_of_beq_eq_true e1
    subst f1
    exact ⟨Nat.le_of_ble_eq_true rfl, snd_X11_still q1 q2 q3 hk⟩

def frg (E : Nat → Int32) (k sz : Nat) : Nat → Nat
  | 0 => 0
  | P + 1 => max (frg E k sz P) (waP E k sz P).1
theorem frg_le {E : Nat → Int32} {k sz : Nat} : ∀ P, P ≤ 100 → frg E k sz P ≤ sz
  | 0, _ => Nat.zero_le _
  | P + 1, h => by
    have := frg_le (E := E) (k := k) (sz := sz) P (by omega)
    have hb := wa_b (E := E) (k := k) sz 0 (P / 10) (P % 10) (by omega) (by omega)
    have hb : 0 ≤ (waP E k sz P).1 ∧ (waP E k sz P).1 ≤ 0 + sz ∧ (waP E k sz P).2.1 ≤ 9 ∧ (waP E k sz P).2.2 ≤ 9 := hb
    unfold frg
    omega
def R_forged (S : Sm) (V : Vm) (a d : Int32) : Int32 := if rsr S V a d ≠ nI 0 then rsr S V a d else if frg (S.2 (nN d)) (vSt V (nN a)) (S.1 4 (nN d)) 100 = S.1 4 (nN d) then iI (-4) else nI (frg (S.2 (nN d)) (vSt V (nN a)) (S.1 4 (nN d)) 100)
def S_X11_forged (a d : Int32) (h : AH) (K : Int32 → AH → Prop) : Prop := ∃ S V, MSh h S ∧ WS S ∧ RV (h.1 16 0) V ∧ WF V ∧ ∀ h', keepM h h' → K (R_forged S V a d) h'
def T_X11_forged : List AV → AH → (Int32 → AH → Prop) → Prop := fun as h K => match as with
  | [.inr (.inr (.inl q0)), .inl q1, .inl q2] => tif (Nat.beq q0.1 15 && Nat.beq q0.2 0) (S_X11_forged q1 q2 h K)
  | _ => False

def M_X11_forged : MI := (RX11, cX11_forged, 6, [(0, .aload_n 0, []), (1, .iload_n 1, []), (2, .iload_n 2, []), (3, .invokevirtual 193, []), (6, .istore_n 3, []), (7, .iload_n 3, []), (8, .ifCond .eq 5, [13]), (11, .iload_n 3, []), (12, .ireturn, []), (13, .iconst 0, []), (14, .istore 4, []), (16, .iconst 0, []), (17, .istore 5, []), (19, .iload 5, []), (21, .bipush 100, []), (23, .if_icmp .ge 24, [47]), (26, .iload 4, []), (28, .aload_n 0, []), (29, .iload_n 1, []), (30, .iload_n 2, []), (31, .iload 5, []), (33, .invokevirtual 196, []), (36, .invokestatic 88, []), (39, .istore 4, []), (41, .iinc 5 1, []), (44, .goto (-25), [19]), (47, .iload 4, []), (49, .aload_n 0, []), (50, .getfield 47, []), (53, .iload_n 2, []), (54, .iaload, []), (55, .if_icmp .ne 8, [63]), (58, .bipush (-4), []), (60, .goto 5, [65]), (63, .iload 4, []), (65, .ireturn, [])], [(47, (15, 20, 1, 21, 4))], [], [], [(579, (3, 4, 86, 0, 0, .inl T_X11_wrongSheepRow)), (588, (4, 4, 90, 0, 0, .inl T_X11_wrongAt)), (265, (2, 1, 21, 0, 0, .inl T_X11_most))], 4, 90, 0, 0)
theorem ok_X11_forged : MOK M_X11_forged := ⟨by decide +kernel, List.forall_mem_cons.mpr ⟨fl_RX11_47, fun _ h => absurd h List.not_mem_nil⟩, fun _ h => absurd h List.not_mem_nil, fun _ h => absurd h List.not_mem_nil, List.forall_mem_cons.mpr ⟨⟨Nat.le_of_ble_eq_true rfl, Nat.le_of_ble_eq_true rfl, cr_RX11_579⟩, List.forall_mem_cons.mpr ⟨⟨Nat.le_of_ble_eq_true rfl, Nat.le_of_ble_eq_true rfl, cr_RX11_588⟩, List.forall_mem_cons.mpr ⟨⟨Nat.le_of_ble_eq_true rfl, Nat.le_of_ble_eq_true rfl, cr_RX11_265⟩, fun _ h => absurd h List.not_mem_nil⟩⟩⟩⟩
set_option maxRecDepth 100000 in
theorem vc_X11_forged {K : Int32 → AH → Prop} {h : AH} (p1 : Int32) (p2 : Int32) (H : S_X11_wrongSheepRow p1 p2 h (fun x2 h1 => ((x2 = 0) → AW M_X11_forged (.inl K) 19 [some (aR 15 0), some (aI p1), some (aI p2), none, some (aI (nI 0)), some (aI (nI 0))] [] h1 0 0) ∧ (¬ (x2 = 0) → K x2 h1))) : AW M_X11_forged (.inl K) 0 [some (aR 15 0), some (aI p1), some (aI p2), none, none, none] [] h 0 0 := AW_go (cuts := [(19, [true, true, true, false, true, true])]) ok_X11_forged 400 H
set_option maxRecDepth 100000 in
theorem vc_X11_forged_19 {K : Int32 → AH → Prop} {h : AH}  (l1 : Int32) (l2 : Int32) (l4 : Int32) (l5 : Int32) (H : (((nI 100) ≤ l5) → inR l2 8 ∧ ((¬ l4 = (h.1 21 4 l2.toNatClampNeg)) → K l4 h) ∧ (¬ (¬ l4 = (h.1 21 4 l2.toNatClampNeg)) → K (iI (-4)) h)) ∧ (¬ ((nI 100) ≤ l5) → S_X11_wrongAt l1 l2 l5 h (fun x2 h1 => S_X11_most l4 x2 h1 (fun x4 h3 => AW M_X11_forged (.inl K) 19 [some (aR 15 0), some (aI l1), some (aI l2), none, some (aI x4), some (aI (l5 + (nI 1)))] [] h3 0 0)))) : AW M_X11_forged (.inl K) 19 [some (aR 15 0), some (aI l1), some (aI l2), none, some (aI l4), some (aI l5)] [] h 0 0 := AW_go (cuts := [(19, [true, true, true, false, true, true])]) ok_X11_forged 400 H

theorem lp_X11_forged {S : Sm} {V : Vm} {n m : Nat} {h0 : AH} {K : Int32 → AH → Prop} (hp : pPre h0 S V (nI n) (nI m) n m) (k : ∀ h', keepM h0 h' → K (if frg (S.2 m) (vSt V n) (S.1 4 m) 100 = S.1 4 m then iI (-4) else nI (frg (S.2 m) (vSt V n) (S.1 4 m) 100)) h') : ∀ r P h, P + r = 100 → keepM h0 h → AW M_X11_forged (.inl K) 19 [some (aR 15 0), some (aI (nI n)), some (aI (nI m)), none, some (aI (nI (frg (S.2 m) (vSt V n) (S.1 4 m) P))), some (aI (nI P))] [] h 0 0 := by
  obtain ⟨-, p2, -, p4, p5, -, p7, -, p9⟩ := id hp
  have hw3 := (p2 m p7).2.2 p9
  intro r
  induction r with
  | zero =>
    intro P h hP hk
    refine vc_X11_forged_19 (nI n) (nI m) _ (nI P) ?_
    have : P = 100 := by omega
    subst this
    obtain ⟨c1, c2, c3⟩ := ((pPre_k hk hp).1 m p7).2.2 p9
    have hf := frg_le (E := S.2 m) (k := vSt V n) (sz := S.1 4 m) 100 (by omega)
    simp (disch := omega) only [n_inT, n_cl, true_and, c2, n_le, n_eq]
    have := k h hk
    refine ⟨fun _ => ⟨fun q => ?_, fun q => ?_⟩, fun q => absurd (by omega) q⟩
    · rw [if_neg q] at this; exact this
    · rw [if_pos (Decidable.not_not.mp q)] at this; exact this
  | succ r ih =>
    intro P h hP hk
    refine vc_X11_forged_19 (nI n) (nI m) _ (nI P) ?_
    simp (disch := omega) only [n_le, nI_add]
    refine ⟨fun q => by omega, fun _ => ⟨S, V, n, m, P, pPre_k hk hp, by omega, rfl, fun h1 o1 _ _ => ?_⟩⟩
    have hf := frg_le (E := S.2 m) (k := vSt V n) (sz := S.1 4 m) P (by omega)
    have hb := wa_b (E := S.2 m) (k := vSt V n) (S.1 4 m) 0 (P / 10) (P % 10) (by omega) (by omega)
    have hb : 0 ≤ (waP (S.2 m) (vSt V n) (S.1 4 m) P).1 ∧ (waP (S.2 m) (vSt V n) (S.1 4 m) P).1 ≤ 0 + S.1 4 m ∧ (waP (S.2 m) (vSt V n) (S.1 4 m) P).2.1 ≤ 9 ∧ (waP (S.2 m) (vSt V n) (S.1 4 m) P).2.2 ≤ 9 := hb
    have := ih (P + 1) h1 (by omega) (keepM_tr hk (keepP_M o1))
    rw [frg] at this
    unfold S_X11_most
    dsimp only
    by_cases hlt : (waP (S.2 m) (vSt V n) (S.1 4 m) P).1 < frg (S.2 m) (vSt V n) (S.1 4 m) P
    · rw [if_pos ((n_lt (by omega) (by omega)).mpr hlt)]
      rw [Nat.max_eq_left (by omega)] at this
      exact this
    · rw [if_neg (fun z => hlt ((n_lt (by omega) (by omega)).mp z))]
      rw [Nat.max_eq_right (by omega)] at this
      exact this
theorem snd_X11_forged (a d : Int32) {h : AH} {K : Int32 → AH → Prop} (k : S_X11_forged a d h K) : AW M_X11_forged (.inl K) 0 [some (aR 15 0), some (aI a), some (aI d), none, none, none] [] h 0 0 := by
  obtain ⟨S, V, hs, hw, hr, hv, k⟩ := k
  refine vc_X11_forged a d ⟨S, V, hs, hw, hr, hv, ?_⟩
  unfold R_forged at k
  rcases rsr_cases hs hw hr hv a d with ⟨n, m, hp, e⟩ | e
  case inr =>
    rw [if_pos e] at k
    exact ⟨fun z => absurd z e, fun _ => k h (keepM_rfl h)⟩
  rw [if_neg (fun z => z e)] at k
  obtain ⟨-, -, -, p4, p5, rfl, p7, rfl, p9⟩ := id hp
  have h7 := p4.2.1
  unfold nN at k
  rw [n_cl (show m < 2147483648 by omega), n_cl (show n < 2147483648 by omega)] at k
  exact ⟨fun _ => lp_X11_forged hp k 100 0 h (by omega) (keepM_rfl h), fun z => absurd e z⟩
theorem tr_X11_forged : ∀ (as : List AV) (h : AH) (K : Int32 → AH → Prop), T_X11_forged as h K → ∃ (q : Nat) (r : List AV), as = aR 15 q :: r := by
  intro as h K hk
  match as, hk with
  | [.inr (.inr (.inl q0)), .inl q1, .inl q2], hk =>
    obtain ⟨hb, hk⟩ := tif_inv hk
    simp only [Bool.and_eq_true] at hb
    obtain ⟨e0, e1⟩ := hb
    obtain ⟨a0, b0⟩ := q0
    have f0 : a0 = 15 := Nat.eq_of_beq_eq_true e0
    subst f0
    have f1 : b0 = 0 := Nat.eq_of_beq_eq_true e1
    subst f1
    exact ⟨_, _, rfl⟩
theorem tw_X11_forged : ∀ (as : List AV) (h : AH) (K : Int32 → AH → Prop), T_X11_forged as h K → (ini as).length ≤ mNL M_X11_forged ∧ AW M_X11_forged (.inl K) 0 (initL (mNL M_X11_forged) as) [] h 0 0 := by
  intro as h K hk
  match as, hk with
  | [.inr (.inr (.inl q0)), .inl q1, .inl q2], hk =>
    obtain ⟨hb, hk⟩ := tif_inv hk
    simp only [Bool.and_eq_true] at hb
    obtain ⟨e0, e1⟩ := hb
    obtain ⟨a0, b0⟩ := q0
    have f0 : a0 = 15 := Nat.eq_of_beq_eq_true e0
    subst f0
    have f1 : b0 = 0 := Nat.eq_of_beq_eq_true e1
    subst f1
    exact ⟨Nat.le_of_ble_eq_true rfl, snd_X11_forged q1 q2 hk⟩
end
section
/-! ===== the reference: unlike numbers, means ===== -/
/-- whether some fitting pair below P shows the number v -/
def sn (f : Nat → Option Nat) (g : Nat → Nat) (v : Nat) : Nat → Bool
  | 0 => false
  | P + 1 => match f P with
    | none => sn f g v P
    | some x => if g x = v then true else sn f g v P
theorem sn_some {f : Nat → Option Nat} {g : Nat → Nat} {v P x : Nat} (e : f P = some x) : sn f g v (P + 1) = if g x = v then true else sn f g v P := by rw [sn, e]
theorem sn_none {f : Nat → Option Nat} {g : Nat → Nat} {v P : Nat} (e : f P = none) : sn f g v (P + 1) = sn f g v P := by rw [sn, e]
def cn (p : Nat → Bool) : Nat → Nat
  | 0 => 0
  | i + 1 => cn p i + if p i = true then 1 else 0
theorem cn_le (p : Nat → Bool) : ∀ i, cn p i ≤ i
  | 0 => Nat.le_refl _
  | i + 1 => by
    have := cn_le p i
    unfold cn
    split <;> omega
def gT (k x : Nat) : Nat := tkV k (x / 10) (x % 10)
def prt (S : Sm) (V : Vm) (n m t : Nat) : Nat := cn (fun v => sn (fitO (S.2 m) (vSt V n) (S.1 4 m)) (gT (vSt V t)) v 100) 200
def S_X11_partsBy (a d t : Int32) (h : AH) (K : Int32 → AH → Prop) : Prop := ∃ S V n m T, pPre h S V a d n m ∧ T < V 10 1 ∧ t = nI T ∧ ∀ h', keepM h h' → K (nI (prt S V n m T)) h'
def T_X11_partsBy : List AV → AH → (Int32 → AH → Prop) → Prop := fun as h K => match as with
  | [.inr (.inr (.inl q0)), .inl q1, .inl q2, .inl q3] => tif (Nat.beq q0.1 15 && Nat.beq q0.2 0) (S_X11_partsBy q1 q2 q3 h K)
  | _ => False

def M_X11_partsBy : MI := (RX11, cX11_partsBy, 6, [(0, .iconst 0, []), (1, .istore 4, []), (3, .iload 4, []), (5, .sipush 200, []), (8, .if_icmp .ge 17, [25]), (11, .aload_n 0, []), (12, .getfield 28, []), (15, .iload 4, []), (17, .iconst 0, []), (18, .bastore, []), (19, .iinc 4 1, []), (22, .goto (-19), [3]), (25, .iconst 0, []), (26, .istore 4, []), (28, .iload 4, []), (30, .bipush 100, []), (32, .if_icmp .ge 37, [69]), (35, .aload_n 0, []), (36, .iload_n 1, []), (37, .iload_n 2, []), (38, .iload 4, []), (40, .invokevirtual 196, []), (43, .aload_n 0, []), (44, .getfield 47, []), (47, .iload_n 2, []), (48, .iaload, []), (49, .if_icmp .ne 14, [63]), (52, .aload_n 0, []), (53, .getfield 28, []), (56, .aload_n 0, []), (57, .iload_n 3, []), (58, .invokevirtual 190, []), (61, .iconst 1, []), (62, .bastore, []), (63, .iinc 4 1, []), (66, .goto (-38), [28]), (69, .iconst 0, []), (70, .istore 4, []), (72, .iconst 0, []), (73, .istore 5, []), (75, .iload 5, []), (77, .sipush 200, []), (80, .if_icmp .ge 29, [109]), (83, .iload 4, []), (85, .aload_n 0, []), (86, .getfield 28, []), (89, .iload 5, []), (91, .baload, []), (92, .ifCond .eq 7, [99]), (95, .iconst 1, []), (96, .goto 4, [100]), (99, .iconst 0, []), (100, .iadd, []), (101, .istore 4, []), (103, .iinc 5 1, []), (106, .goto (-31), [75]), (109, .iload 4, []), (111, .ireturn, [])], [(28, (15, 13, 1, 17, 0)), (47, (15, 20, 1, 21, 4))], [], [], [(588, (4, 4, 90, 0, 0, .inl T_X11_wrongAt)), (570, (2, 3, 66, 0, 0, .inl T_X11_takes))], 4, 90, 0, 0)
theorem ok_X11_partsBy : MOK M_X11_partsBy := ⟨by decide +kernel, List.forall_mem_cons.mpr ⟨fl_RX11_28, List.forall_mem_cons.mpr ⟨fl_RX11_47, fun _ h => absurd h List.not_mem_nil⟩⟩, fun _ h => absurd h List.not_mem_nil, fun _ h => absurd h List.not_mem_nil, List.forall_mem_cons.mpr ⟨⟨Nat.le_of_ble_eq_true rfl, Nat.le_of_ble_eq_true rfl, cr_RX11_588⟩, List.forall_mem_cons.mpr ⟨⟨Nat.le_of_ble_eq_true rfl, Nat.le_of_ble_eq_true rfl, cr_RX11_570⟩, fun _ h => absurd h List.not_mem_nil⟩⟩⟩
set_option maxRecDepth 100000 in
theorem vc_X11_partsBy {K : Int32 → AH → Prop} {h : AH} (p1 : Int32) (p2 : Int32) (p3 : Int32) (H : AW M_X11_partsBy (.inl K) 3 [some (aR 15 0), some (aI p1), some (aI p2), some (aI p3), some (aI (nI 0)), none] [] h 0 0) : AW M_X11_partsBy (.inl K) 0 [some (aR 15 0), some (aI p1), some (aI p2), some (aI p3), none, none] [] h 0 0 := AW_go (cuts := [(3, [true, true, true, true, true, false]), (28, [true, true, true, true, true, false]), (75, [true, false, false, false, true, true])]) ok_X11_partsBy 400 H
set_option maxRecDepth 100000 in
theorem vc_X11_partsBy_3 {K : Int32 → AH → Prop} {h : AH}  (l1 : Int32) (l2 : Int32) (l3 : Int32) (l4 : Int32) (H : (((nI 200) ≤ l4) → AW M_X11_partsBy (.inl K) 28 [some (aR 15 0), some (aI l1), some (aI l2), some (aI l3), some (aI (nI 0)), none] [] h 0 0) ∧ (¬ ((nI 200) ≤ l4) → inR l4 200 ∧ ((nI 0) = 0 ∨ (nI 0) = 1) ∧ AW M_X11_partsBy (.inl K) 3 [some (aR 15 0), some (aI l1), some (aI l2), some (aI l3), some (aI (l4 + (nI 1))), none] [] (wI h 17 0 l4.toNatClampNeg (nI 0)) 0 0)) : AW M_X11_partsBy (.inl K) 3 [some (aR 15 0), some (aI l1), some (aI l2), some (aI l3), some (aI l4), none] [] h 0 0 := AW_go (cuts := [(3, [true, true, true, true, true, false]), (28, [true, true, true, true, true, false]), (75, [true, false, false, false, true, true])]) ok_X11_partsBy 400 H
set_option maxRecDepth 100000 in
theorem vc_X11_partsBy_28 {K : Int32 → AH → Prop} {h : AH}  (l1 : Int32) (l2 : Int32) (l3 : Int32) (l4 : Int32) (H : (((nI 100) ≤ l4) → AW M_X11_partsBy (.inl K) 75 [some (aR 15 0), none, none, none, some (aI (nI 0)), some (aI (nI 0))] [] h 0 0) ∧ (¬ ((nI 100) ≤ l4) → S_X11_wrongAt l1 l2 l4 h (fun x2 h1 => inR l2 8 ∧ ((¬ x2 = (h1.1 21 4 l2.toNatClampNeg)) → AW M_X11_partsBy (.inl K) 28 [some (aR 15 0), some (aI l1), some (aI l2), some (aI l3), some (aI (l4 + (nI 1))), none] [] h1 0 0) ∧ (¬ (¬ x2 = (h1.1 21 4 l2.toNatClampNeg)) → S_X11_takes l3 h1 (fun x4 h3 => inR x4 200 ∧ ((nI 1) = 0 ∨ (nI 1) = 1) ∧ AW M_X11_partsBy (.inl K) 28 [some (aR 15 0), some (aI l1), some (aI l2), some (aI l3), some (aI (l4 + (nI 1))), none] [] (wI h3 17 0 x4.toNatClampNeg (nI 1)) 0 0))))) : AW M_X11_partsBy (.inl K) 28 [some (aR 15 0), some (aI l1), some (aI l2), some (aI l3), some (aI l4), none] [] h 0 0 := AW_go (cuts := [(3, [true, true, true, true, true, false]), (28, [true, true, true, true, true, false]), (75, [true, false, false, false, true, true])]) ok_X11_partsBy 400 H
set_option maxRecDepth 100000 in
theorem vc_X11_partsBy_75 {K : Int32 → AH → Prop} {h : AH}  (l4 : Int32) (l5 : Int32) (H : (((nI 200) ≤ l5) → K l4 h) ∧ (¬ ((nI 200) ≤ l5) → inR l5 200 ∧ (((h.1 17 0 l5.toNatClampNeg) = 0) → AW M_X11_partsBy (.inl K) 75 [some (aR 15 0), none, none, none, some (aI (l4 + (nI 0))), some (aI (l5 + (nI 1)))] [] h 0 0) ∧ (¬ ((h.1 17 0 l5.toNatClampNeg) = 0) → AW M_X11_partsBy (.inl K) 75 [some (aR 15 0), none, none, none, some (aI (l4 + (nI 1))), some (aI (l5 + (nI 1)))] [] h 0 0))) : AW M_X11_partsBy (.inl K) 75 [some (aR 15 0), none, none, none, some (aI l4), some (aI l5)] [] h 0 0 := AW_go (cuts := [(3, [true, true, true, true, true, false]), (28, [true, true, true, true, true, false]), (75, [true, false, false, false, true, true])]) ok_X11_partsBy 400 H

theorem lp3_X11_partsBy {S : Sm} {V : Vm} {n m T : Nat} {h0 : AH} {K : Int32 → AH → Prop} (k : ∀ h', keepM h0 h' → K (nI (prt S V n m T)) h') : ∀ r i h, i + r = 200 → keepM h0 h → (∀ v, v < 200 → h.1 17 0 v = if sn (fitO (S.2 m) (vSt V n) (S.1 4 m)) (gT (vSt V T)) v 100 = true then nI 1 else nI 0) → AW M_X11_partsBy (.inl K) 75 [some (aR 15 0), none, none, none, some (aI (nI (cn (fun v => sn (fitO (S.2 m) (vSt V n) (S.1 4 m)) (gT (vSt V T)) v 100) i))), some (aI (nI i))] [] h 0 0 := by
  intro r
  induction r with
  | zero =>
    intro i h hi hk hv
    refine vc_X11_partsBy_75 _ (nI i) ?_
    have : i = 200 := by omega
    subst this
    exact ⟨fun _ => k h hk, fun q => absurd (by decide) q⟩
  | succ r ih =>
    intro i h hi hk hv
    refine vc_X11_partsBy_75 _ (nI i) ?_
    have hc := cn_le (fun v => sn (fitO (S.2 m) (vSt V n) (S.1 4 m)) (gT (vSt V T)) v 100) i
    have ih := ih (i + 1) h (by omega) hk hv
    simp (disch := omega) only [n_inT, n_cl, true_and, n_le, nI_add]
    rw [hv i (by omega)]
    rw [cn] at ih
    refine ⟨fun q => by omega, fun _ => ⟨fun q => ?_, fun q => ?_⟩⟩
    · split at q
      · exact absurd q (by decide)
      · rename_i z
        rw [if_neg z] at ih
        exact ih
    · split at q
      · rename_i z
        rw [if_pos z] at ih
        exact ih
      · exact absurd rfl q
theorem lp2_X11_partsBy {S : Sm} {V : Vm} {n m T : Nat} {h0 : AH} {K : Int32 → AH → Prop} (hp : pPre h0 S V (nI n) (nI m) n m) (hT : T < V 10 1) (k : ∀ h', keepM h0 h' → K (nI (prt S V n m T)) h') : ∀ r P h, P + r = 100 → keepM h0 h → (∀ v, v < 200 → h.1 17 0 v = if sn (fitO (S.2 m) (vSt V n) (S.1 4 m)) (gT (vSt V T)) v P = true then nI 1 else nI 0) → AW M_X11_partsBy (.inl K) 28 [some (aR 15 0), some (aI (nI n)), some (aI (nI m)), some (aI (nI T)), some (aI (nI P)), none] [] h 0 0 := by
  obtain ⟨-, p2, -, p4, p5, -, p7, -, p9⟩ := id hp
  have hw3 := (p2 m p7).2.2 p9
  have h7 := p4.2.1
  intro r
  induction r with
  | zero =>
    intro P h hP hk hv
    refine vc_X11_partsBy_28 (nI n) (nI m) (nI T) (nI P) ?_
    have : P = 100 := by omega
    subst this
    exact ⟨fun _ => lp3_X11_partsBy k 200 0 h (by omega) hk hv, fun q => absurd (by decide) q⟩
  | succ r ih =>
    intro P h hP hk hv
    refine vc_X11_partsBy_28 (nI n) (nI m) (nI T) (nI P) ?_
    simp (disch := omega) only [n_le, nI_add]
    refine ⟨fun q => by omega, fun _ => ⟨S, V, n, m, P, pPre_k hk hp, by omega, rfl, fun h1 o1 f1 f2 => ?_⟩⟩
    have k1 := keepM_tr hk (keepP_M o1)
    have hb := wa_b (E := S.2 m) (k := vSt V n) (S.1 4 m) 0 (P / 10) (P % 10) (by omega) (by omega)
    have hb : 0 ≤ (waP (S.2 m) (vSt V n) (S.1 4 m) P).1 ∧ (waP (S.2 m) (vSt V n) (S.1 4 m) P).1 ≤ 0 + S.1 4 m ∧ (waP (S.2 m) (vSt V n) (S.1 4 m) P).2.1 ≤ 9 ∧ (waP (S.2 m) (vSt V n) (S.1 4 m) P).2.2 ≤ 9 := hb
    obtain ⟨c1, c2, c3⟩ := ((pPre_k k1 hp).1 m p7).2.2 p9
    simp (disch := omega) only [n_inT, n_cl, true_and, c2, n_eq]
    have hv1 : ∀ v, h1.1 17 0 v = h.1 17 0 v := fun v => o1.2 17 0 v (by omega)
    refine ⟨fun q => ?_, fun q => ?_⟩
    · refine ih (P + 1) h1 (by omega) k1 (fun v hv2 => ?_)
      rw [hv1, hv v hv2, sn]
      unfold fitO
      rw [if_neg (show ¬ (waP (S.2 m) (vSt V n) (S.1 4 m) P).1 = S.1 4 m by omega)]
    · have q := Decidable.not_not.mp q
      obtain ⟨-, -, r3, r4⟩ := pPre_k k1 hp
      refine ⟨V, T, (waP (S.2 m) (vSt V n) (S.1 4 m) P).2.1, (waP (S.2 m) (vSt V n) (S.1 4 m) P).2.2, ⟨r3, p4, hT, rfl⟩, hb.2.2.1, hb.2.2.2, f1, f2, ?_⟩
      have tl := tk_le (vSt V T) (waP (S.2 m) (vSt V n) (S.1 4 m) P).2.1 (waP (S.2 m) (vSt V n) (S.1 4 m) P).2.2
      have tv : tkV (vSt V T) (waP (S.2 m) (vSt V n) (S.1 4 m) P).2.1 (waP (S.2 m) (vSt V n) (S.1 4 m) P).2.2 ≤ 54 := by unfold tkV; omega
      generalize hz : tkV (vSt V T) (waP (S.2 m) (vSt V n) (S.1 4 m) P).2.1 (waP (S.2 m) (vSt V n) (S.1 4 m) P).2.2 = z at tv
      simp (disch := omega) only [n_inT, n_cl, true_and]
      refine ⟨Or.inr (by decide), ih (P + 1) _ (by omega) (keepM_tr k1 (keepM_tr (keepM_tr (keepM_w (by omega)) (keepM_w (by omega))) (keepM_w (by omega)))) (fun v hv2 => ?_)⟩
      have hfv : fitO (S.2 m) (vSt V n) (S.1 4 m) P = some (10 * (waP (S.2 m) (vSt V n) (S.1 4 m) P).2.1 + (waP (S.2 m) (vSt V n) (S.1 4 m) P).2.2) := if_pos q
      have hgv : gT (vSt V T) (10 * (waP (S.2 m) (vSt V n) (S.1 4 m) P).2.1 + (waP (S.2 m) (vSt V n) (S.1 4 m) P).2.2) = z := by
        rw [← hz]
        unfold gT
        congr 1 <;> omega
      rw [sn_some hfv, hgv]
      by_cases e : z = v
      · subst e
        rw [if_pos rfl, if_pos rfl]; first | rw [wI_at] | rw [uI_at]
      · rw [if_neg e]; first | rw [uI_ni (by omega), uI_nt (by omega), uI_nt (by omega), hv1, hv v hv2] | rw [wI_ni (by omega), wI_nt (by omega), wI_nt (by omega), hv1, hv v hv2]
theorem lp1_X11_partsBy {S : Sm} {V : Vm} {n m T : Nat} {h0 : AH} {K : Int32 → AH → Prop} (hp : pPre h0 S V (nI n) (nI m) n m) (hT : T < V 10 1) (k : ∀ h', keepM h0 h' → K (nI (prt S V n m T)) h') : ∀ r i h, i + r = 200 → keepM h0 h → (∀ v, v < i → h.1 17 0 v = nI 0) → AW M_X11_partsBy (.inl K) 3 [some (aR 15 0), some (aI (nI n)), some (aI (nI m)), some (aI (nI T)), some (aI (nI i)), none] [] h 0 0 := by
  intro r
  induction r with
  | zero =>
    intro i h hi hk hv
    refine vc_X11_partsBy_3 (nI n) (nI m) (nI T) (nI i) ?_
    have : i = 200 := by omega
    subst this
    exact ⟨fun _ => lp2_X11_partsBy hp hT k 100 0 h (by omega) hk (fun v q => by rw [hv v q]; rfl), fun q => absurd (by decide) q⟩
  | succ r ih =>
    intro i h hi hk hv
    refine vc_X11_partsBy_3 (nI n) (nI m) (nI T) (nI i) ?_
    simp (disch := omega) only [n_inT, n_cl, true_and, n_le, nI_add]
    refine ⟨fun q => by omega, fun _ => ⟨Or.inl (by decide), ih (i + 1) _ (by omega) (keepM_tr hk (keepM_w (by omega))) (fun v q => ?_)⟩⟩
    by_cases e : v = i
    · subst e; rw [wI_at]
    · rw [wI_ni e]; exact hv v (by omega)
theorem snd_X11_partsBy (a d t : Int32) {h : AH} {K : Int32 → AH → Prop} (k : S_X11_partsBy a d t h K) : AW M_X11_partsBy (.inl K) 0 [some (aR 15 0), some (aI a), some (aI d), some (aI t), none, none] [] h 0 0 := by
  obtain ⟨S, V, n, m, T, hp, hT, rfl, k⟩ := k
  obtain ⟨-, -, -, -, -, rfl, -, rfl, -⟩ := id hp
  refine vc_X11_partsBy (nI n) (nI m) (nI T) ?_
  exact lp1_X11_partsBy hp hT k 200 0 h (by omega) (keepM_rfl h) (fun v q => absurd q (by omega))
theorem tr_X11_partsBy : ∀ (as : List AV) (h : AH) (K : Int32 → AH → Prop), T_X11_partsBy as h K → ∃ (q : Nat) (r : List AV), as = aR 15 q :: r := by
  intro as h K hk
  match as, hk with
  | [.inr (.inr (.inl q0)), .inl q1, .inl q2, .inl q3], hk =>
    obtain ⟨hb, hk⟩ := tif_inv hk
    simp only [Bool.and_eq_true] at hb
    obtain ⟨e0, e1⟩ := hb
    obtain ⟨a0, b0⟩ := q0
    have f0 : a0 = 15 := Nat.eq_of_beq_eq_true e0
    subst f0
    have f1 : b0 = 0 := Nat.eq_of_beq_eq_true e1
    subst f1
    exact ⟨_, _, rfl⟩
theorem tw_X11_partsBy : ∀ (as : List AV) (h : AH) (K : Int32 → AH → Prop), T_X11_partsBy as h K → (ini as).length ≤ mNL M_X11_partsBy ∧ AW M_X11_partsBy (.inl K) 0 (initL (mNL M_X11_partsBy) as) [] h 0 0 := by
  intro as h K hk
  match as, hk with
  | [.inr (.inr (.inl q0)), .inl q1, .inl q2, .inl q3], hk =>
    obtain ⟨hb, hk⟩ := tif_inv hk
    simp only [Bool.and_eq_true] at hb
    obtain ⟨e0, e1⟩ := hb
    obtain ⟨a0, b0⟩ := q0
    have f0 : a0 = 15 := Nat.eq_of_beq_eq_true e0
    subst f0
    have f1 : b0 = 0 := Nat.eq_of_beq_eq_true e1
    subst f1
    exact ⟨Nat.le_of_ble_eq_true rfl, snd_X11_partsBy q1 q2 q3 hk⟩
theorem cr_RX11_600 : CR RX11 (kIns 600) (4, 5, 115, 0, 0, .inl T_X11_partsBy) := crV_i (t := 15) (M := M_X11_partsBy) (by decide) rfl (by decide) rfl (inG (i := 1214) (w := Cond.methodLink RX11 200 yX11_partsBy) (by decide +kernel) rfl) (inG (i := 1216) (w := Cond.instanceMethod yX11_partsBy) (by decide +kernel) rfl) (inG (i := 40) (w := Cond.initialized RX11) (by decide +kernel) rfl) (inG (i := 30) (w := Cond.selects RX11 yX11_partsBy yX11_partsBy) (by decide +kernel) rfl) (inG (i := 1217) (w := Cond.code yX11_partsBy cX11_partsBy 6 (some .int)) (by decide +kernel) rfl) ⟨by decide +kernel, by decide +kernel, by decide +kernel⟩ tr_X11_partsBy tw_X11_partsBy

/-- of all sheep, the first that parts the pairs into most numbers -/
def tmB (f : Nat → Nat) : Nat → Int × Nat
  | 0 => (-4, 0)
  | t + 1 => if (tmB f t).2 < f t then (t, f t) else tmB f t
theorem tmB_le {f : Nat → Nat} (hf : ∀ t, f t ≤ 200) : ∀ t, (tmB f t).2 ≤ 200 ∧ ((tmB f t).1 = -4 ∨ (0 ≤ (tmB f t).1 ∧ (tmB f t).1 < t))
  | 0 => ⟨Nat.zero_le _, Or.inl rfl⟩
  | t + 1 => by
    have := tmB_le hf t
    unfold tmB
    split
    · exact ⟨hf t, Or.inr ⟨by show (0 : Int) ≤ t; omega, by show (t : Int) < (t + 1 : Nat); omega⟩⟩
    · omega
def R_tellsMost (S : Sm) (V : Vm) (a d w : Int32) : Int32 := if ¬ (nI 0 ≤ w ∧ w ≤ nI 1) then iI (-1) else if rsr S V a d ≠ nI 0 then rsr S V a d else if (tmB (prt S V (nN a) (nN d)) (V 10 1)).1 < 0 ∨ w = 0 then iI (tmB (prt S V (nN a) (nN d)) (V 10 1)).1 else nI (tmB (prt S V (nN a) (nN d)) (V 10 1)).2
def S_X11_tellsMost (a d w : Int32) (h : AH) (K : Int32 → AH → Prop) : Prop := ∃ S V, MSh h S ∧ WS S ∧ RV (h.1 16 0) V ∧ WF V ∧ ∀ h', keepM h h' → K (R_tellsMost S V a d w) h'
def T_X11_tellsMost : List AV → AH → (Int32 → AH → Prop) → Prop := fun as h K => match as with
  | [.inr (.inr (.inl q0)), .inl q1, .inl q2, .inl q3] => tif (Nat.beq q0.1 15 && Nat.beq q0.2 0) (S_X11_tellsMost q1 q2 q3 h K)
  | _ => False

def M_X11_tellsMost : MI := (RX11, cX11_tellsMost, 9, [(0, .iload_n 3, []), (1, .iconst 0, []), (2, .iconst 1, []), (3, .invokestatic 53, []), (6, .ifCond .eq 12, [18]), (9, .aload_n 0, []), (10, .iload_n 1, []), (11, .iload_n 2, []), (12, .invokevirtual 193, []), (15, .goto 4, [19]), (18, .iconst (-1), []), (19, .istore 4, []), (21, .iload 4, []), (23, .ifCond .eq 6, [29]), (26, .iload 4, []), (28, .ireturn, []), (29, .bipush (-4), []), (31, .istore 5, []), (33, .iconst 0, []), (34, .istore 6, []), (36, .iconst 0, []), (37, .istore 7, []), (39, .iload 7, []), (41, .aload_n 0, []), (42, .getfield 9, []), (45, .iconst 1, []), (46, .iaload, []), (47, .if_icmp .ge 37, [84]), (50, .aload_n 0, []), (51, .iload_n 1, []), (52, .iload_n 2, []), (53, .iload 7, []), (55, .invokevirtual 200, []), (58, .istore 8, []), (60, .iload 8, []), (62, .iload 6, []), (64, .if_icmp .gt 6, [70]), (67, .goto 11, [78]), (70, .iload 7, []), (72, .istore 5, []), (74, .iload 8, []), (76, .istore 6, []), (78, .iinc 7 1, []), (81, .goto (-42), [39]), (84, .iload 5, []), (86, .ifCond .lt 7, [93]), (89, .iload_n 3, []), (90, .ifCond .ne 8, [98]), (93, .iload 5, []), (95, .goto 5, [100]), (98, .iload 6, []), (100, .ireturn, [])], [(9, (15, 0, 1, 16, 0))], [], [], [(160, (3, 1, 22, 0, 0, .inl T_X11_isIn)), (579, (3, 4, 86, 0, 0, .inl T_X11_wrongSheepRow)), (600, (4, 5, 115, 0, 0, .inl T_X11_partsBy))], 5, 115, 0, 0)
theorem ok_X11_tellsMost : MOK M_X11_tellsMost := ⟨by decide +kernel, List.forall_mem_cons.mpr ⟨fl_RX11_9, fun _ h => absurd h List.not_mem_nil⟩, fun _ h => absurd h List.not_mem_nil, fun _ h => absurd h List.not_mem_nil, List.forall_mem_cons.mpr ⟨⟨Nat.le_of_ble_eq_true rfl, Nat.le_of_ble_eq_true rfl, cr_RX11_160⟩, List.forall_mem_cons.mpr ⟨⟨Nat.le_of_ble_eq_true rfl, Nat.le_of_ble_eq_true rfl, cr_RX11_579⟩, List.forall_mem_cons.mpr ⟨⟨Nat.le_of_ble_eq_true rfl, Nat.le_of_ble_eq_true rfl, cr_RX11_600⟩, fun _ h => absurd h List.not_mem_nil⟩⟩⟩⟩
set_option maxRecDepth 100000 in
theorem vc_X11_tellsMost {K : Int32 → AH → Prop} {h : AH} (p1 : Int32) (p2 : Int32) (p3 : Int32) (H : S_X11_isIn p3 (nI 0) (nI 1) h (fun x2 h1 => ((x2 = 0) → (((iI (-1)) = 0) → AW M_X11_tellsMost (.inl K) 39 [some (aR 15 0), some (aI p1), some (aI p2), some (aI p3), none, some (aI (iI (-4))), some (aI (nI 0)), some (aI (nI 0)), none] [] h1 0 0) ∧ (¬ ((iI (-1)) = 0) → K (iI (-1)) h1)) ∧ (¬ (x2 = 0) → S_X11_wrongSheepRow p1 p2 h1 (fun x4 h3 => ((x4 = 0) → AW M_X11_tellsMost (.inl K) 39 [some (aR 15 0), some (aI p1), some (aI p2), some (aI p3), none, some (aI (iI (-4))), some (aI (nI 0)), some (aI (nI 0)), none] [] h3 0 0) ∧ (¬ (x4 = 0) → K x4 h3))))) : AW M_X11_tellsMost (.inl K) 0 [some (aR 15 0), some (aI p1), some (aI p2), some (aI p3), none, none, none, none, none] [] h 0 0 := AW_go (cuts := [(39, [true, true, true, true, false, true, true, true, false])]) ok_X11_tellsMost 400 H
set_option maxRecDepth 100000 in
theorem vc_X11_tellsMost_39 {K : Int32 → AH → Prop} {h : AH}  (l1 : Int32) (l2 : Int32) (l3 : Int32) (l5 : Int32) (l6 : Int32) (l7 : Int32) (H : inR (nI 1) 62 ∧ (((h.1 16 0 (nI 1).toNatClampNeg) ≤ l7) → ((l5 < 0) → K l5 h) ∧ (¬ (l5 < 0) → ((¬ l3 = 0) → K l6 h) ∧ (¬ (¬ l3 = 0) → K l5 h))) ∧ (¬ ((h.1 16 0 (nI 1).toNatClampNeg) ≤ l7) → S_X11_partsBy l1 l2 l7 h (fun x2 h1 => ((l6 < x2) → AW M_X11_tellsMost (.inl K) 39 [some (aR 15 0), some (aI l1), some (aI l2), some (aI l3), none, some (aI l7), some (aI x2), some (aI (l7 + (nI 1))), none] [] h1 0 0) ∧ (¬ (l6 < x2) → AW M_X11_tellsMost (.inl K) 39 [some (aR 15 0), some (aI l1), some (aI l2), some (aI l3), none, some (aI l5), some (aI l6), some (aI (l7 + (nI 1))), none] [] h1 0 0)))) : AW M_X11_tellsMost (.inl K) 39 [some (aR 15 0), some (aI l1), some (aI l2), some (aI l3), none, some (aI l5), some (aI l6), some (aI l7), none] [] h 0 0 := AW_go (cuts := [(39, [true, true, true, true, false, true, true, true, false])]) ok_X11_tellsMost 400 H

theorem lp_X11_tellsMost {S : Sm} {V : Vm} {n m : Nat} {w : Int32} {h0 : AH} {K : Int32 → AH → Prop} (hp : pPre h0 S V (nI n) (nI m) n m) (k : ∀ h', keepM h0 h' → K (if (tmB (prt S V n m) (V 10 1)).1 < 0 ∨ w = 0 then iI (tmB (prt S V n m) (V 10 1)).1 else nI (tmB (prt S V n m) (V 10 1)).2) h') : ∀ r t h, t + r = V 10 1 → keepM h0 h → AW M_X11_tellsMost (.inl K) 39 [some (aR 15 0), some (aI (nI n)), some (aI (nI m)), some (aI w), none, some (aI (iI (tmB (prt S V n m) t).1)), some (aI (nI (tmB (prt S V n m) t).2)), some (aI (nI t)), none] [] h 0 0 := by
  obtain ⟨-, p2, -, p4, p5, -, p7, -, p9⟩ := id hp
  have h7 := p4.2.1
  intro r
  induction r with
  | zero =>
    intro t h hr hk
    refine vc_X11_tellsMost_39 (nI n) (nI m) w _ _ (nI t) ?_
    have : t = V 10 1 := by omega
    subst this
    have e1 := (RVs (pPre_k hk hp).2.2.1).2.2.2.2.2.2.2.2.2.2.2.1
    have hb := tmB_le (f := prt S V n m) (fun t => cn_le _ 200) (V 10 1)
    simp (disch := omega) only [n_inT, n_cl, true_and, e1, n_le]
    have := k h hk
    have hz : iI (tmB (prt S V n m) (V 10 1)).1 < 0 ↔ (tmB (prt S V n m) (V 10 1)).1 < 0 := by
      rcases hb.2 with e | ⟨e, e'⟩
      · rw [e]; decide
      · obtain ⟨x, hx⟩ := Int.eq_ofNat_of_zero_le e
        rw [hx, ← nI_iI, n_lt0 (by omega)]
        exact ⟨False.elim, fun z => by omega⟩
    refine ⟨fun _ => ⟨fun q => ?_, fun q => ⟨fun q2 => ?_, fun q2 => ?_⟩⟩, fun q => absurd (by omega) q⟩
    · rw [if_pos (Or.inl (hz.mp q))] at this; exact this
    · rw [if_neg (fun z => z.elim (fun z => q (hz.mpr z)) q2)] at this; exact this
    · rw [if_pos (Or.inr (Decidable.not_not.mp q2))] at this; exact this
  | succ r ih =>
    intro t h hr hk
    refine vc_X11_tellsMost_39 (nI n) (nI m) w _ _ (nI t) ?_
    have e1 := (RVs (pPre_k hk hp).2.2.1).2.2.2.2.2.2.2.2.2.2.2.1
    have hb := tmB_le (f := prt S V n m) (fun t => cn_le _ 200) t
    have hc : prt S V n m t ≤ 200 := cn_le _ 200
    simp (disch := omega) only [n_inT, n_cl, true_and, e1, n_le, nI_add]
    refine ⟨fun q => by omega, fun _ => ⟨S, V, n, m, t, pPre_k hk hp, by omega, rfl, fun h1 o1 => ?_⟩⟩
    have ih := ih (t + 1) h1 (by omega) (keepM_tr hk o1)
    rw [tmB] at ih
    simp (disch := omega) only [n_lt]
    refine ⟨fun q => ?_, fun q => ?_⟩
    · rw [if_pos q] at ih
      exact ih
    · rw [if_neg q] at ih
      exact ih
theorem snd_X11_tellsMost (a d w : Int32) {h : AH} {K : Int32 → AH → Prop} (k : S_X11_tellsMost a d w h K) : AW M_X11_tellsMost (.inl K) 0 [some (aR 15 0), some (aI a), some (aI d), some (aI w), none, none, none, none, none] [] h 0 0 := by
  obtain ⟨S, V, hs, hw, hr, hv, k⟩ := k
  refine vc_X11_tellsMost a d w ?_
  unfold S_X11_isIn
  simp only [if10_eq]
  unfold R_tellsMost at k
  refine ⟨fun q => ⟨fun z => absurd z (by decide), fun _ => ?_⟩, fun q => ⟨S, V, hs, hw, hr, hv, ?_⟩⟩
  · rw [if_pos q] at k; exact k h (keepM_rfl h)
  · rw [if_neg q] at k
    rcases rsr_cases hs hw hr hv a d with ⟨n, m, hp, e⟩ | e
    case inr =>
      rw [if_pos e] at k
      exact ⟨fun z => absurd z e, fun _ => k h (keepM_rfl h)⟩
    rw [if_neg (fun z => z e)] at k
    obtain ⟨-, -, -, p4, p5, rfl, p7, rfl, p9⟩ := id hp
    have h7 := p4.2.1
    unfold nN at k
    rw [n_cl (show m < 2147483648 by omega), n_cl (show n < 2147483648 by omega)] at k
    exact ⟨fun _ => lp_X11_tellsMost hp k (V 10 1) 0 h (by omega) (keepM_rfl h), fun z => absurd e z⟩
theorem tr_X11_tellsMost : ∀ (as : List AV) (h : AH) (K : Int32 → AH → Prop), T_X11_tellsMost as h K → ∃ (q : Nat) (r : List AV), as = aR 15 q :: r := by
  intro as h K hk
  match as, hk with
  | [.inr (.inr (.inl q0)), .inl q1, .inl q2, .inl q3], hk =>
    obtain ⟨hb, hk⟩ := tif_inv hk
    simp only [Bool.and_eq_true] at hb
    obtain ⟨e0, e1⟩ := hb
    obtain ⟨a0, b0⟩ := q0
    have f0 : a0 = 15 := Nat.eq_of_beq_eq_true e0
    subst f0
    have f1 : b0 = 0 := Nat.eq_of_beq_eq_true e1
    subst f1
    exact ⟨_, _, rfl⟩
theorem tw_X11_tellsMost : ∀ (as : List AV) (h : AH) (K : Int32 → AH → Prop), T_X11_tellsMost as h K → (ini as).length ≤ mNL M_X11_tellsMost ∧ AW M_X11_tellsMost (.inl K) 0 (initL (mNL M_X11_tellsMost) as) [] h 0 0 := by
  intro as h K hk
  match as, hk with
  | [.inr (.inr (.inl q0)), .inl q1, .inl q2, .inl q3], hk =>
    obtain ⟨hb, hk⟩ := tif_inv hk
    simp only [Bool.and_eq_true] at hb
    obtain ⟨e0, e1⟩ := hb
    obtain ⟨a0, b0⟩ := q0
    have f0 : a0 = 15 := Nat.eq_of_beq_eq_true e0
    subst f0
    have f1 : b0 = 0 := Nat.eq_of_beq_eq_true e1
    subst f1
    exact ⟨Nat.le_of_ble_eq_true rfl, snd_X11_tellsMost q1 q2 q3 hk⟩
end
section
/-! ===== the reference: means ===== -/
theorem L_to {n : Nat} (h : n < 4294967296) : (Int64.ofNat n).toInt = n := lg_ofNat_toInt (by omega)
theorem L_eq {a b : Nat} (ha : a < 4294967296) (hb : b < 4294967296) : Int64.ofNat a = Int64.ofNat b ↔ a = b := by
  rw [← Int64.toInt_inj, L_to ha, L_to hb]; omega
theorem L_eq0 {a : Nat} (ha : a < 4294967296) : Int64.ofNat a = 0 ↔ a = 0 := L_eq (b := 0) ha (by omega)
theorem L_cmp {a : Nat} (ha : a < 4294967296) : lg_cmp (Int64.ofNat a) (Int64.ofNat 0) = 0 ↔ a = 0 := by rw [lg_cmp_eq]; exact L_eq ha (by omega)
theorem L_div {a d : Nat} (ha : a < 4294967296) (h0 : 0 < d) (hd : d < 4294967296) : Int64.ofNat a / Int64.ofNat d = Int64.ofNat (a / d) := by
  have hq : a / d ≤ a := Nat.div_le_self a d
  rw [← Int64.toInt_inj, lg_ldiv_nonneg (by rw [L_to ha]; omega) (by rw [L_to hd]; omega), L_to ha, L_to hd, L_to (by omega)]
  exact (Int.natCast_ediv a d).symm
theorem L_rem {a d : Nat} (ha : a < 4294967296) (h0 : 0 < d) (hd : d < 4294967296) : Int64.ofNat a - Int64.ofNat a / Int64.ofNat d * Int64.ofNat d = Int64.ofNat (a % d) := by
  rw [L_div ha h0 hd, ← Int64.ofNat_mul, ← Int64.ofNat_sub]
  · congr 1
    have := Nat.mod_add_div a d
    rw [Nat.mul_comm] at this
    omega
  · exact Nat.div_mul_le_self a d
theorem L_n {a : Nat} (ha : a < 2147483648) : (nI a).toInt64 = Int64.ofNat a := by
  rw [← Int64.toInt_inj, Int32.toInt_toInt64, L_to (by omega)]
  exact n_toInt ha
def S_X11_gcd (p q : Int64) (h : AH) (K : Int64 → AH → Prop) : Prop := ∃ a b, a < 4294967296 ∧ b < 4294967296 ∧ p = Int64.ofNat a ∧ q = Int64.ofNat b ∧ K (Int64.ofNat (Nat.gcd a b)) h
def T_X11_gcd : List AV → AH → (Int64 → AH → Prop) → Prop := fun as h K => match as with
  | [.inr (.inl q0), .inr (.inl q1)] => S_X11_gcd q0 q1 h K
  | _ => False

def M_X11_gcd : MI := (RX11, cX11_gcd, 10, [(0, .lload_n 0, []), (1, .lstore 4, []), (3, .lload_n 2, []), (4, .lstore 6, []), (6, .lload 6, []), (8, .lconst 0, []), (9, .lcmp, []), (10, .ifCond .eq 21, [31]), (13, .lload 4, []), (15, .lload 6, []), (17, .lrem, []), (18, .lstore 8, []), (20, .lload 6, []), (22, .lstore 4, []), (24, .lload 8, []), (26, .lstore 6, []), (28, .goto (-22), [6]), (31, .lload 4, []), (33, .lreturn, [])], [], [], [], [], 0, 0, 0, 0)
theorem ok_X11_gcd : MOK M_X11_gcd := ⟨by decide +kernel, fun _ h => absurd h List.not_mem_nil, fun _ h => absurd h List.not_mem_nil, fun _ h => absurd h List.not_mem_nil, fun _ h => absurd h List.not_mem_nil⟩
set_option maxRecDepth 100000 in
theorem vc_X11_gcd {K : Int64 → AH → Prop} {h : AH} (p0 : Int64) (p1 : Int64) (H : AW M_X11_gcd (.inr (.inr (.inl K))) 6 [none, none, none, none, some (aL p0), none, some (aL p1), none, none, none] [] h 0 0) : AW M_X11_gcd (.inr (.inr (.inl K))) 0 [some (aL p0), none, some (aL p1), none, none, none, none, none, none, none] [] h 0 0 := AW_go (cuts := [(6, [false, false, false, false, true, false, true, false, false, false])]) ok_X11_gcd 400 H
set_option maxRecDepth 100000 in
theorem vc_X11_gcd_6 {K : Int64 → AH → Prop} {h : AH}  (l4 : Int64) (l6 : Int64) (H : (((lg_cmp l6 (Int64.ofNat 0)) = 0) → K l4 h) ∧ (¬ ((lg_cmp l6 (Int64.ofNat 0)) = 0) → (¬ l6 = 0) ∧ AW M_X11_gcd (.inr (.inr (.inl K))) 6 [none, none, none, none, some (aL l6), none, some (aL (l4 - l4 / l6 * l6)), none, none, none] [] h 0 0)) : AW M_X11_gcd (.inr (.inr (.inl K))) 6 [none, none, none, none, some (aL l4), none, some (aL l6), none, none, none] [] h 0 0 := AW_go (cuts := [(6, [false, false, false, false, true, false, true, false, false, false])]) ok_X11_gcd 400 H

theorem lp_X11_gcd {h : AH} {K : Int64 → AH → Prop} : ∀ f b a, b ≤ f → a < 4294967296 → b < 4294967296 → K (Int64.ofNat (Nat.gcd a b)) h → AW M_X11_gcd (.inr (.inr (.inl K))) 6 [none, none, none, none, some (aL (Int64.ofNat a)), none, some (aL (Int64.ofNat b)), none, none, none] [] h 0 0 := by
  intro f
  induction f with
  | zero =>
    intro b a hb ha hb2 k
    have : b = 0 := Nat.eq_zero_of_le_zero hb
    subst this
    refine vc_X11_gcd_6 _ _ ⟨fun _ => ?_, fun q => absurd (by decide) q⟩
    rw [Nat.gcd_zero_right] at k
    exact k
  | succ f ih =>
    intro b a hb ha hb2 k
    refine vc_X11_gcd_6 _ _ ?_
    rw [L_cmp hb2, L_eq0 hb2]
    refine ⟨fun q => ?_, fun q => ⟨q, ?_⟩⟩
    · subst q
      rw [Nat.gcd_zero_right] at k
      exact k
    · rw [L_rem ha (by omega) hb2]
      have hm := Nat.mod_lt a (show b > 0 by omega)
      refine ih (a % b) b (by omega) hb2 (by omega) ?_
      rw [Nat.gcd_comm, ← Nat.gcd_rec, Nat.gcd_comm]
      exact k
theorem snd_X11_gcd (p q : Int64) {h : AH} {K : Int64 → AH → Prop} (k : S_X11_gcd p q h K) : AW M_X11_gcd (.inr (.inr (.inl K))) 0 [some (aL p), none, some (aL q), none, none, none, none, none, none, none] [] h 0 0 := by
  obtain ⟨a, b, ha, hb, rfl, rfl, k⟩ := k
  exact vc_X11_gcd _ _ (lp_X11_gcd b b a (Nat.le_refl _) ha hb k)
theorem tw_X11_gcd : ∀ (as : List AV) (h : AH) (K : Int64 → AH → Prop), T_X11_gcd as h K → (ini as).length ≤ mNL M_X11_gcd ∧ AW M_X11_gcd (.inr (.inr (.inl K))) 0 (initL (mNL M_X11_gcd) as) [] h 0 0 := by
  intro as h K hk
  match as, hk with
  | [.inr (.inl q0), .inr (.inl q1)], hk =>
    exact ⟨Nat.le_of_ble_eq_true rfl, snd_X11_gcd q0 q1 hk⟩
theorem cr_RX11_610 : CR RX11 (kIns 610) (2, 1, 29, 0, 0, .inr (.inr (.inl T_X11_gcd))) := crS_l (M := M_X11_gcd) (by decide) rfl (inG (i := 1230) (w := Cond.methodLink RX11 203 yX11_gcd) (by decide +kernel) rfl) (inG (i := 1231) (w := Cond.static yX11_gcd) (by decide +kernel) rfl) (inG (i := 40) (w := Cond.initialized RX11) (by decide +kernel) rfl) (inG (i := 1232) (w := Cond.code yX11_gcd cX11_gcd 10 (some .long)) (by decide +kernel) rfl) ⟨by decide +kernel, by decide +kernel, by decide +kernel⟩ tw_X11_gcd

/-- one part of a fraction in lowest terms -/
def pOf (a b : Nat) (w : Int32) : Int64 := if a = 0 then w.toInt64 else if w = 0 then Int64.ofNat (a / Nat.gcd a b) else Int64.ofNat (b / Nat.gcd a b)
def S_X11_partOf (p q : Int64) (w : Int32) (h : AH) (K : Int64 → AH → Prop) : Prop := ∃ a b, a < 4294967296 ∧ 0 < b ∧ b < 4294967296 ∧ p = Int64.ofNat a ∧ q = Int64.ofNat b ∧ K (pOf a b w) h
def T_X11_partOf : List AV → AH → (Int64 → AH → Prop) → Prop := fun as h K => match as with
  | [.inr (.inl q0), .inr (.inl q1), .inl q2] => S_X11_partOf q0 q1 q2 h K
  | _ => False

def M_X11_partOf : MI := (RX11, cX11_partOf, 5, [(0, .lload_n 0, []), (1, .lconst 0, []), (2, .lcmp, []), (3, .ifCond .ne 7, [10]), (6, .iload 4, []), (8, .i2l, []), (9, .lreturn, []), (10, .iload 4, []), (12, .ifCond .ne 7, [19]), (15, .lload_n 0, []), (16, .goto 4, [20]), (19, .lload_n 2, []), (20, .lload_n 0, []), (21, .lload_n 2, []), (22, .invokestatic 203, []), (25, .ldiv, []), (26, .lreturn, [])], [], [], [], [(610, (2, 1, 29, 0, 0, .inr (.inr (.inl T_X11_gcd))))], 1, 29, 0, 0)
theorem ok_X11_partOf : MOK M_X11_partOf := ⟨by decide +kernel, fun _ h => absurd h List.not_mem_nil, fun _ h => absurd h List.not_mem_nil, fun _ h => absurd h List.not_mem_nil, List.forall_mem_cons.mpr ⟨⟨Nat.le_of_ble_eq_true rfl, Nat.le_of_ble_eq_true rfl, cr_RX11_610⟩, fun _ h => absurd h List.not_mem_nil⟩⟩
set_option maxRecDepth 100000 in
theorem vc_X11_partOf {K : Int64 → AH → Prop} {h : AH} (p0 : Int64) (p1 : Int64) (p2 : Int32) (H : ((¬ (lg_cmp p0 (Int64.ofNat 0)) = 0) → ((¬ p2 = 0) → S_X11_gcd p0 p1 h (fun x2 h1 => (¬ x2 = 0) ∧ K (p1 / x2) h1)) ∧ (¬ (¬ p2 = 0) → S_X11_gcd p0 p1 h (fun x4 h3 => (¬ x4 = 0) ∧ K (p0 / x4) h3))) ∧ (¬ (¬ (lg_cmp p0 (Int64.ofNat 0)) = 0) → K p2.toInt64 h)) : AW M_X11_partOf (.inr (.inr (.inl K))) 0 [some (aL p0), none, some (aL p1), none, some (aI p2)] [] h 0 0 := AW_go (cuts := []) ok_X11_partOf 400 H

theorem snd_X11_partOf (p q : Int64) (w : Int32) {h : AH} {K : Int64 → AH → Prop} (k : S_X11_partOf p q w h K) : AW M_X11_partOf (.inr (.inr (.inl K))) 0 [some (aL p), none, some (aL q), none, some (aI w)] [] h 0 0 := by
  obtain ⟨a, b, ha, hb0, hb, rfl, rfl, k⟩ := k
  refine vc_X11_partOf _ _ w ?_
  rw [L_cmp ha]
  have hg : 0 < Nat.gcd a b := Nat.gcd_pos_of_pos_right a hb0
  have hg2 : Nat.gcd a b ≤ b := Nat.gcd_le_right a hb0
  unfold pOf at k
  refine ⟨fun q => ⟨fun q2 => ⟨a, b, ha, hb, rfl, rfl, ?_⟩, fun q2 => ⟨a, b, ha, hb, rfl, rfl, ?_⟩⟩, fun q => ?_⟩
  · rw [if_neg q, if_neg q2] at k
    rw [L_eq0 (by omega), L_div hb hg (by omega)]
    exact ⟨by omega, k⟩
  · rw [if_neg q, if_pos (Decidable.not_not.mp q2)] at k
    rw [L_eq0 (by omega), L_div ha hg (by omega)]
    exact ⟨by omega, k⟩
  · rw [if_pos (Decidable.not_not.mp q)] at k
    exact k
theorem tw_X11_partOf : ∀ (as : List AV) (h : AH) (K : Int64 → AH → Prop), T_X11_partOf as h K → (ini as).length ≤ mNL M_X11_partOf ∧ AW M_X11_partOf (.inr (.inr (.inl K))) 0 (initL (mNL M_X11_partOf) as) [] h 0 0 := by
  intro as h K hk
  match as, hk with
  | [.inr (.inl q0), .inr (.inl q1), .inl q2], hk =>
    exact ⟨Nat.le_of_ble_eq_true rfl, snd_X11_partOf q0 q1 q2 hk⟩
theorem cr_RX11_628 : CR RX11 (kIns 628) (3, 2, 53, 0, 0, .inr (.inr (.inl T_X11_partOf))) := crS_l (M := M_X11_partOf) (by decide) rfl (inG (i := 1227) (w := Cond.methodLink RX11 209 yX11_partOf) (by decide +kernel) rfl) (inG (i := 1228) (w := Cond.static yX11_partOf) (by decide +kernel) rfl) (inG (i := 40) (w := Cond.initialized RX11) (by decide +kernel) rfl) (inG (i := 1229) (w := Cond.code yX11_partOf cX11_partOf 5 (some .long)) (by decide +kernel) rfl) ⟨by decide +kernel, by decide +kernel, by decide +kernel⟩ tw_X11_partOf

theorem brs_le {V : Vm} {s : Nat} (hv : WF V) (hs : s < V 10 1) : ∀ i, i ≤ 8 → sm (fun c => brg V s c) i ≤ 54 * i
  | 0, _ => Nat.le_refl _
  | i + 1, hi => by
    have := brs_le hv hs i (by omega)
    have h1 : brg V s i ≤ 54 := brg_le hv hs (by omega)
    unfold sm
    omega
def R_mean (V : Vm) (a w : Int32) : Int64 := if ¬ shp V a then 1000000001 else if ¬ (nI 0 ≤ w ∧ w ≤ nI 1) then 1000000001 else pOf (sm (fun c => brg V (nN a) c) (vFl V (nN a) + 1)) (vFl V (nN a) + 1) w
def S_X11_mean (a w : Int32) (h : AH) (K : Int64 → AH → Prop) : Prop := ∃ V, RV (h.1 16 0) V ∧ WF V ∧ ∀ h', keepM h h' → K (R_mean V a w) h'
def T_X11_mean : List AV → AH → (Int64 → AH → Prop) → Prop := fun as h K => match as with
  | [.inr (.inr (.inl q0)), .inl q1, .inl q2] => tif (Nat.beq q0.1 15 && Nat.beq q0.2 0) (S_X11_mean q1 q2 h K)
  | _ => False

def M_X11_mean : MI := (RX11, cX11_mean, 6, [(0, .aload_n 0, []), (1, .iload_n 1, []), (2, .invokevirtual 132, []), (5, .ifCond .eq 12, [17]), (8, .iload_n 2, []), (9, .iconst 0, []), (10, .iconst 1, []), (11, .invokestatic 53, []), (14, .ifCond .ne 7, [21]), (17, .ldc2_w 207, []), (20, .lreturn, []), (21, .lconst 0, []), (22, .lstore_n 3, []), (23, .iconst 0, []), (24, .istore 5, []), (26, .iload 5, []), (28, .aload_n 0, []), (29, .getfield 9, []), (32, .iload_n 1, []), (33, .invokestatic 135, []), (36, .if_icmp .gt 24, [60]), (39, .lload_n 3, []), (40, .aload_n 0, []), (41, .aload_n 0, []), (42, .getfield 9, []), (45, .iload_n 1, []), (46, .iload 5, []), (48, .invokevirtual 168, []), (51, .i2l, []), (52, .ladd, []), (53, .lstore_n 3, []), (54, .iinc 5 1, []), (57, .goto (-31), [26]), (60, .lload_n 3, []), (61, .aload_n 0, []), (62, .getfield 9, []), (65, .iload_n 1, []), (66, .invokestatic 135, []), (69, .iconst 1, []), (70, .iadd, []), (71, .i2l, []), (72, .iload_n 2, []), (73, .invokestatic 209, []), (76, .lreturn, [])], [(9, (15, 0, 1, 16, 0))], [], [(207, 1000000001)], [(396, (2, 2, 43, 0, 0, .inl T_X11_isSheep)), (160, (3, 1, 22, 0, 0, .inl T_X11_isIn)), (406, (2, 2, 42, 0, 0, .inl T_X11_flies)), (504, (4, 6, 139, 0, 0, .inl T_X11_broughtBy)), (628, (3, 2, 53, 0, 0, .inr (.inr (.inl T_X11_partOf))))], 6, 139, 0, 0)
theorem ok_X11_mean : MOK M_X11_mean := ⟨by decide +kernel, List.forall_mem_cons.mpr ⟨fl_RX11_9, fun _ h => absurd h List.not_mem_nil⟩, fun _ h => absurd h List.not_mem_nil, List.forall_mem_cons.mpr ⟨(inG (i := 1226) (w := Cond.constantLong RX11 207 1000000001) (by decide +kernel) rfl), fun _ h => absurd h List.not_mem_nil⟩, List.forall_mem_cons.mpr ⟨⟨Nat.le_of_ble_eq_true rfl, Nat.le_of_ble_eq_true rfl, cr_RX11_396⟩, List.forall_mem_cons.mpr ⟨⟨Nat.le_of_ble_eq_true rfl, Nat.le_of_ble_eq_true rfl, cr_RX11_160⟩, List.forall_mem_cons.mpr ⟨⟨Nat.le_of_ble_eq_true rfl, Nat.le_of_ble_eq_true rfl, cr_RX11_406⟩, List.forall_mem_cons.mpr ⟨⟨Nat.le_of_ble_eq_true rfl, Nat.le_of_ble_eq_true rfl, cr_RX11_504⟩, List.forall_mem_cons.mpr ⟨⟨Nat.le_of_ble_eq_true rfl, Nat.le_of_ble_eq_true rfl, cr_RX11_628⟩, fun _ h => absurd h List.not_mem_nil⟩⟩⟩⟩⟩⟩
set_option maxRecDepth 100000 in
theorem vc_X11_mean {K : Int64 → AH → Prop} {h : AH} (p1 : Int32) (p2 : Int32) (H : S_X11_isSheep p1 h (fun x2 h1 => ((x2 = 0) → K (1000000001 : Int64) h1) ∧ (¬ (x2 = 0) → S_X11_isIn p2 (nI 0) (nI 1) h1 (fun x4 h3 => ((¬ x4 = 0) → AW M_X11_mean (.inr (.inr (.inl K))) 26 [some (aR 15 0), some (aI p1), some (aI p2), some (aL (Int64.ofNat 0)), none, some (aI (nI 0))] [] h3 0 0) ∧ (¬ (¬ x4 = 0) → K (1000000001 : Int64) h3))))) : AW M_X11_mean (.inr (.inr (.inl K))) 0 [some (aR 15 0), some (aI p1), some (aI p2), none, none, none] [] h 0 0 := AW_go (cuts := [(26, [true, true, true, true, false, true])]) ok_X11_mean 400 H
set_option maxRecDepth 100000 in
theorem vc_X11_mean_26 {K : Int64 → AH → Prop} {h : AH}  (l1 : Int32) (l2 : Int32) (l3 : Int64) (l5 : Int32) (H : S_X11_flies 0 l1 h (fun x2 h1 => ((x2 < l5) → S_X11_flies 0 l1 h1 (fun x4 h3 => S_X11_partOf l3 ((x4 + (nI 1)).toInt64) l2 h3 (fun x6 h5 => K x6 h5))) ∧ (¬ (x2 < l5) → S_X11_broughtBy 0 l1 l5 h1 (fun x8 h7 => AW M_X11_mean (.inr (.inr (.inl K))) 26 [some (aR 15 0), some (aI l1), some (aI l2), some (aL (l3 + x8.toInt64)), none, some (aI (l5 + (nI 1)))] [] h7 0 0)))) : AW M_X11_mean (.inr (.inr (.inl K))) 26 [some (aR 15 0), some (aI l1), some (aI l2), some (aL l3), none, some (aI l5)] [] h 0 0 := AW_go (cuts := [(26, [true, true, true, true, false, true])]) ok_X11_mean 400 H

theorem lp_X11_mean {V : Vm} {n : Nat} {w : Int32} {h0 : AH} {K : Int64 → AH → Prop} (hr : RV (h0.1 16 0) V) (hv : WF V) (hn : n < V 10 1) (k : ∀ h', keepM h0 h' → K (pOf (sm (fun c => brg V n c) (vFl V n + 1)) (vFl V n + 1) w) h') : ∀ r c h, c + r = vFl V n + 1 → keepM h0 h → AW M_X11_mean (.inr (.inr (.inl K))) 26 [some (aR 15 0), some (aI (nI n)), some (aI w), some (aL (Int64.ofNat (sm (fun c => brg V n c) c))), none, some (aI (nI c))] [] h 0 0 := by
  have h7 := hv.2.1
  have hf : vFl V n ≤ 7 := fly_le _
  intro r
  induction r with
  | zero =>
    intro c h hc hk
    have : c = vFl V n + 1 := by omega
    subst this
    have hr1 : RV (h.1 16 0) V := by rw [keepM_r0 hk]; exact hr
    have hs := brs_le hv hn (vFl V n + 1) (by omega)
    refine vc_X11_mean_26 (nI n) w _ _ ⟨V, n, ⟨hr1, hv, hn, rfl⟩, ?_⟩
    dsimp only
    simp (disch := omega) only [n_lt]
    refine ⟨fun _ => ⟨V, n, ⟨hr1, hv, hn, rfl⟩, ?_⟩, fun q => absurd (by omega) q⟩
    dsimp only
    rw [nI_add, L_n (by omega)]
    exact ⟨_, _, by omega, by omega, by omega, rfl, rfl, k h hk⟩
  | succ r ih =>
    intro c h hc hk
    have hr1 : RV (h.1 16 0) V := by rw [keepM_r0 hk]; exact hr
    refine vc_X11_mean_26 (nI n) w _ _ ⟨V, n, ⟨hr1, hv, hn, rfl⟩, ?_⟩
    dsimp only
    simp (disch := omega) only [n_lt]
    refine ⟨fun q => by omega, fun _ => ⟨V, n, c, ⟨hr1, hv, hn, rfl⟩, by omega, rfl, by omega, fun h1 o1 => ?_⟩⟩
    have h1 : brg V n c ≤ 54 := brg_le hv hn (by omega)
    have ih := ih (c + 1) _ (by omega) (keepM_tr hk (keepM_o (by omega) (by omega) o1))
    dsimp only
    rw [L_n (show brg V n c < 2147483648 by omega), ← Int64.ofNat_add, nI_add]
    exact ih
theorem snd_X11_mean (a w : Int32) {h : AH} {K : Int64 → AH → Prop} (k : S_X11_mean a w h K) : AW M_X11_mean (.inr (.inr (.inl K))) 0 [some (aR 15 0), some (aI a), some (aI w), none, none, none] [] h 0 0 := by
  obtain ⟨V, hr, hv, k⟩ := k
  refine vc_X11_mean a w ?_
  have h7 := hv.2.1
  have e1 := (RVs hr).2.2.2.2.2.2.2.2.2.2.2.1
  unfold S_X11_isSheep
  rw [e1]
  unfold S_X11_isIn
  simp only [if10_eq]
  unfold R_mean at k
  refine ⟨fun q => ?_, fun q => ⟨fun q2 => ?_, fun q2 => ?_⟩⟩
  · rw [if_pos q] at k; exact k h (keepM_rfl h)
  · obtain ⟨n, hn, rfl⟩ := (in_iff (by omega)).mp (Decidable.not_not.mp q)
    rw [if_neg (fun z => z ((in_iff (by omega)).mpr ⟨n, hn, rfl⟩)), if_neg q2] at k
    unfold nN at k
    rw [n_cl (show n < 2147483648 by omega)] at k
    exact lp_X11_mean hr hv hn k (vFl V n + 1) 0 h (by omega) (keepM_rfl h)
  · rw [if_neg q, if_pos (fun z => q2 (fun z2 => z2 z))] at k
    exact k h (keepM_rfl h)
theorem tr_X11_mean : ∀ (as : List AV) (h : AH) (K : Int64 → AH → Prop), T_X11_mean as h K → ∃ (q : Nat) (r : List AV), as = aR 15 q :: r := by
  intro as h K hk
  match as, hk with
  | [.inr (.inr (.inl q0)), .inl q1, .inl q2], hk =>
    obtain ⟨hb, hk⟩ := tif_inv hk
    simp only [Bool.and_eq_true] at hb
    obtain ⟨e0, e1⟩ := hb
    obtain ⟨a0, b0⟩ := q0
    have f0 : a0 = 15 := Nat.eq_of_beq_eq_true e0
    subst f0
    have f1 : b0 = 0 := Nat.eq_of_beq_eq_true e1
    subst f1
    exact ⟨_, _, rfl⟩
theorem tw_X11_mean : ∀ (as : List AV) (h : AH) (K : Int64 → AH → Prop), T_X11_mean as h K → (ini as).length ≤ mNL M_X11_mean ∧ AW M_X11_mean (.inr (.inr (.inl K))) 0 (initL (mNL M_X11_mean) as) [] h 0 0 := by
  intro as h K hk
  match as, hk with
  | [.inr (.inr (.inl q0)), .inl q1, .inl q2], hk =>
    obtain ⟨hb, hk⟩ := tif_inv hk
    simp only [Bool.and_eq_true] at hb
    obtain ⟨e0, e1⟩ := hb
    obtain ⟨a0, b0⟩ := q0
    have f0 : a0 = 15 := Nat.eq_of_beq_eq_true e0
    subst f0
    have f1 : b0 = 0 := Nat.eq_of_beq_eq_true e1
    subst f1
    exact ⟨Nat.le_of_ble_eq_true rfl, snd_X11_mean q1 q2 hk⟩
end
section
/-! ===== the reference: merchants ===== -/
abbrev cho (U : Vm) (x c : Nat) : Prop := x = U 10 1 ∨ c ≤ vFl U x
def gnB (U : Vm) (x c : Nat) : Int := if x = U 10 1 then 0 else gn U x c
def bP (U : Vm) (x c : Nat) : Prop := ∀ t, t ≤ U 10 1 → cho U t c → gnB U t c ≤ gnB U x c
def sam (V U : Vm) : Prop := U 10 1 = V 10 1 ∧ (∀ x, vPr U x = vPr V x) ∧ ∀ x, vFl U x = vFl V x
theorem sam_rfl (V : Vm) : sam V V := ⟨rfl, fun _ => rfl, fun _ => rfl⟩
theorem sam_thr (V : Vm) (n m : Nat) : sam V (thr V n m) := ⟨thr_10 (by omega), fun x => by unfold vPr; rw [thr_8 (Or.inl rfl), thr_8 (Or.inr rfl)], fun x => by unfold vFl; rw [thr_8 (Or.inl rfl)]⟩
/-- from the last sheep down: the best so far, and its gain -/
def bcR (f : Nat → Option Int) (N : Nat) : Nat → Nat × Int
  | 0 => (N, 0)
  | r + 1 => match f (N - 1 - r) with
    | none => bcR f N r
    | some g => if (bcR f N r).2 ≤ g then (N - 1 - r, g) else bcR f N r
theorem bcR_ok {f : Nat → Option Int} {N : Nat} : ∀ r, r ≤ N → ((bcR f N r).1 = N ∧ (bcR f N r).2 = 0 ∨ (N - r ≤ (bcR f N r).1 ∧ (bcR f N r).1 < N ∧ f (bcR f N r).1 = some (bcR f N r).2)) ∧ 0 ≤ (bcR f N r).2 ∧ ∀ s g, N - r ≤ s → s < N → f s = some g → g ≤ (bcR f N r).2 ∧ (s < (bcR f N r).1 → g < (bcR f N r).2)
  | 0, _ => ⟨Or.inl ⟨rfl, rfl⟩, Int.le_refl _, fun s g h1 h2 => by omega⟩
  | r + 1, hr => by
    obtain ⟨h1, h2, h3⟩ := bcR_ok (f := f) (N := N) r (by omega)
    unfold bcR
    split
    · rename_i e
      refine ⟨?_, h2, fun s g q1 q2 q3 => ?_⟩
      · rcases h1 with h | ⟨a, b⟩
        · exact Or.inl h
        · exact Or.inr ⟨by omega, b⟩
      · by_cases z : s = N - 1 - r
        · rw [z, e] at q3; exact absurd q3 (by simp)
        · exact h3 s g (by omega) q2 q3
    · rename_i g0 e
      split
      · rename_i hle
        refine ⟨Or.inr ⟨by show N - (r + 1) ≤ N - 1 - r; omega, by show N - 1 - r < N; omega, e⟩, by show 0 ≤ g0; omega, fun s g q1 q2 q3 => ?_⟩
        show g ≤ g0 ∧ (s < N - 1 - r → g < g0)
        by_cases z : s = N - 1 - r
        · rw [z, e] at q3
          have := Option.some.inj q3
          omega
        · have := (h3 s g (by omega) q2 q3).1
          omega
      · rename_i hle
        refine ⟨?_, h2, fun s g q1 q2 q3 => ?_⟩
        · rcases h1 with h | ⟨a, b⟩
          · exact Or.inl h
          · exact Or.inr ⟨by omega, b⟩
        · by_cases z : s = N - 1 - r
          · rw [z, e] at q3
            have := Option.some.inj q3
            omega
          · exact h3 s g (by omega) q2 q3
def chF (U : Vm) (m s : Nat) : Option Int := if m ≤ vFl U s then some (gn U s m) else none
def bc (U : Vm) (m : Nat) : Nat := (bcR (chF U m) (U 10 1) (U 10 1)).1
theorem bc_ok (U : Vm) (m : Nat) : bc U m ≤ U 10 1 ∧ cho U (bc U m) m ∧ bP U (bc U m) m ∧ ∀ s, s < bc U m → cho U s m → ¬ bP U s m := by
  obtain ⟨h1, h2, h3⟩ := bcR_ok (f := chF U m) (N := U 10 1) (U 10 1) (Nat.le_refl _)
  change (bc U m = _ ∧ _ ∨ (_ ∧ bc U m < _ ∧ chF U m (bc U m) = _)) at h1
  change ∀ s g, _ → _ → _ → g ≤ _ ∧ (s < bc U m → _) at h3
  have hg : gnB U (bc U m) m = (bcR (chF U m) (U 10 1) (U 10 1)).2 := by
    unfold gnB
    rcases h1 with ⟨a, b⟩ | ⟨a, b, e⟩
    · rw [if_pos a, b]
    · rw [if_neg (by omega)]
      unfold chF at e
      split at e
      · exact Option.some.inj e
      · exact absurd e (by simp)
  have hle : bc U m ≤ U 10 1 := by rcases h1 with ⟨a, _⟩ | ⟨_, b, _⟩ <;> omega
  have hco : cho U (bc U m) m := by
    rcases h1 with ⟨a, b⟩ | ⟨a, b, e⟩
    · exact Or.inl a
    · unfold chF at e
      split at e
      · rename_i z; exact Or.inr z
      · exact absurd e (by simp)
  refine ⟨hle, hco, fun t ht hc => ?_, fun s hs hc hb => ?_⟩
  · rw [hg]
    unfold gnB
    by_cases z : t = U 10 1
    · rw [if_pos z]; exact h2
    · rw [if_neg z]
      refine (h3 t (gn U t m) (by omega) (by omega) ?_).1
      unfold chF
      rw [if_pos (hc.resolve_left z)]
  · have := hb (bc U m) hle hco
    rw [hg] at this
    have z : ¬ s = U 10 1 := by omega
    unfold gnB at this
    rw [if_neg z] at this
    have := (h3 s (gn U s m) (by omega) (by omega) (by unfold chF; rw [if_pos (hc.resolve_left z)])).2 hs
    omega
def cPre (h : AH) (x c : Int32) (V : Vm) (X m : Nat) : Prop := RV (h.1 16 0) V ∧ WF V ∧ X ≤ V 10 1 ∧ x = nI X ∧ m < 8 ∧ c = nI m
def S_X11_isChoice (x c : Int32) (h : AH) (K : Int32 → AH → Prop) : Prop := ∃ V X m, cPre h x c V X m ∧ K (if cho V X m then nI 1 else nI 0) h
def T_X11_isChoice : List AV → AH → (Int32 → AH → Prop) → Prop := fun as h K => match as with
  | [.inr (.inr (.inl q0)), .inl q1, .inl q2] => tif (Nat.beq q0.1 15 && Nat.beq q0.2 0) (S_X11_isChoice q1 q2 h K)
  | _ => False

def M_X11_isChoice : MI := (RX11, cX11_isChoice, 3, [(0, .iload_n 1, []), (1, .aload_n 0, []), (2, .getfield 9, []), (5, .iconst 1, []), (6, .iaload, []), (7, .if_icmp .eq 15, [22]), (10, .iload_n 2, []), (11, .aload_n 0, []), (12, .getfield 9, []), (15, .iload_n 1, []), (16, .invokestatic 135, []), (19, .if_icmp .gt 7, [26]), (22, .iconst 1, []), (23, .goto 4, [27]), (26, .iconst 0, []), (27, .ireturn, [])], [(9, (15, 0, 1, 16, 0))], [], [], [(406, (2, 2, 42, 0, 0, .inl T_X11_flies))], 2, 42, 0, 0)
theorem ok_X11_isChoice : MOK M_X11_isChoice := ⟨by decide +kernel, List.forall_mem_cons.mpr ⟨fl_RX11_9, fun _ h => absurd h List.not_mem_nil⟩, fun _ h => absurd h List.not_mem_nil, fun _ h => absurd h List.not_mem_nil, List.forall_mem_cons.mpr ⟨⟨Nat.le_of_ble_eq_true rfl, Nat.le_of_ble_eq_true rfl, cr_RX11_406⟩, fun _ h => absurd h List.not_mem_nil⟩⟩
set_option maxRecDepth 100000 in
theorem vc_X11_isChoice {K : Int32 → AH → Prop} {h : AH} (p1 : Int32) (p2 : Int32) (H : inR (nI 1) 62 ∧ ((p1 = (h.1 16 0 (nI 1).toNatClampNeg)) → (((nI 1) = 0 ∨ (nI 1) = 1) ∧ K (nI 1) h)) ∧ (¬ (p1 = (h.1 16 0 (nI 1).toNatClampNeg)) → S_X11_flies 0 p1 h (fun x2 h1 => ((x2 < p2) → (((nI 0) = 0 ∨ (nI 0) = 1) ∧ K (nI 0) h1)) ∧ (¬ (x2 < p2) → (((nI 1) = 0 ∨ (nI 1) = 1) ∧ K (nI 1) h1))))) : AW M_X11_isChoice (.inl (fun x u => (x = 0 ∨ x = 1) ∧ K x u)) 0 [some (aR 15 0), some (aI p1), some (aI p2)] [] h 0 0 := AW_go (cuts := []) ok_X11_isChoice 400 H

theorem snd_X11_isChoice (x c : Int32) {h : AH} {K : Int32 → AH → Prop} (k : S_X11_isChoice x c h K) : AW M_X11_isChoice (.inl (fun x u => (x = 0 ∨ x = 1) ∧ K x u)) 0 [some (aR 15 0), some (aI x), some (aI c)] [] h 0 0 := by
  obtain ⟨V, X, m, ⟨hr, hv, hX, rfl, hm, rfl⟩, k⟩ := k
  refine vc_X11_isChoice (nI X) (nI m) ?_
  have h7 := hv.2.1
  have e1 := (RVs hr).2.2.2.2.2.2.2.2.2.2.2.1
  have hf : vFl V X ≤ 7 := fly_le _
  simp (disch := omega) only [n_inT, n_cl, true_and, e1, n_eq]
  refine ⟨fun q => ⟨Or.inr (by decide), ?_⟩, fun q => ⟨V, X, ⟨hr, hv, by omega, rfl⟩, ?_⟩⟩
  · rw [if_pos (Or.inl q)] at k; exact k
  · simp (disch := omega) only [n_lt]
    refine ⟨fun z => ⟨Or.inl (by decide), ?_⟩, fun z => ⟨Or.inr (by decide), ?_⟩⟩
    · rw [if_neg (by omega)] at k; exact k
    · rw [if_pos (by omega)] at k; exact k
theorem tr_X11_isChoice : ∀ (as : List AV) (h : AH) (K : Int32 → AH → Prop), T_X11_isChoice as h K → ∃ (q : Nat) (r : List AV), as = aR 15 q :: r := by
  intro as h K hk
  match as, hk with
  | [.inr (.inr (.inl q0)), .inl q1, .inl q2], hk =>
    obtain ⟨hb, hk⟩ := tif_inv hk
    simp only [Bool.and_eq_true] at hb
    obtain ⟨e0, e1⟩ := hb
    obtain ⟨a0, b0⟩ := q0
    have f0 : a0 = 15 := Nat.eq_of_beq_eq_true e0
    subst f0
    have f1 : b0 = 0 := Nat.eq_of_beq_eq_true e1
    subst f1
    exact ⟨_, _, rfl⟩
theorem tw_X11_isChoice : ∀ (as : List AV) (h : AH) (K : Int32 → AH → Prop), T_X11_isChoice as h K → (ini as).length ≤ mNL M_X11_isChoice ∧ AW M_X11_isChoice (.inl (fun x u => (x = 0 ∨ x = 1) ∧ K x u)) 0 (initL (mNL M_X11_isChoice) as) [] h 0 0 := by
  intro as h K hk
  match as, hk with
  | [.inr (.inr (.inl q0)), .inl q1, .inl q2], hk =>
    obtain ⟨hb, hk⟩ := tif_inv hk
    simp only [Bool.and_eq_true] at hb
    obtain ⟨e0, e1⟩ := hb
    obtain ⟨a0, b0⟩ := q0
    have f0 : a0 = 15 := Nat.eq_of_beq_eq_true e0
    subst f0
    have f1 : b0 = 0 := Nat.eq_of_beq_eq_true e1
    subst f1
    exact ⟨Nat.le_of_ble_eq_true rfl, snd_X11_isChoice q1 q2 hk⟩
theorem cr_RX11_639 : CR RX11 (kIns 639) (3, 3, 64, 0, 0, .inl T_X11_isChoice) := crV_z (t := 15) (M := M_X11_isChoice) (by decide) rfl (by decide) rfl (inG (i := 1237) (w := Cond.methodLink RX11 213 yX11_isChoice) (by decide +kernel) rfl) (inG (i := 1239) (w := Cond.instanceMethod yX11_isChoice) (by decide +kernel) rfl) (inG (i := 40) (w := Cond.initialized RX11) (by decide +kernel) rfl) (inG (i := 31) (w := Cond.selects RX11 yX11_isChoice yX11_isChoice) (by decide +kernel) rfl) (inG (i := 1240) (w := Cond.code yX11_isChoice cX11_isChoice 3 (some .boolean)) (by decide +kernel) rfl) ⟨by decide +kernel, by decide +kernel, by decide +kernel⟩ tr_X11_isChoice tw_X11_isChoice

def S_X11_gainBy (j : Nat) (x c : Int32) (h : AH) (K : Int32 → AH → Prop) : Prop := ∃ V U X m, cPre h x c V X m ∧ RV (h.1 16 j) U ∧ WF U ∧ sam V U ∧ j ≠ 2 ∧ ∀ h', only 16 2 h h' → K (iI (gnB U X m)) h'
def T_X11_gainBy : List AV → AH → (Int32 → AH → Prop) → Prop := fun as h K => match as with
  | [.inr (.inr (.inl q0)), .inr (.inr (.inl q1)), .inl q2, .inl q3] => tif (Nat.beq q0.1 15 && Nat.beq q0.2 0 && Nat.beq q1.1 16) (S_X11_gainBy q1.2 q2 q3 h K)
  | _ => False

def M_X11_gainBy : MI := (RX11, cX11_gainBy, 4, [(0, .iload_n 2, []), (1, .aload_n 0, []), (2, .getfield 9, []), (5, .iconst 1, []), (6, .iaload, []), (7, .if_icmp .ne 7, [14]), (10, .iconst 0, []), (11, .goto 19, [30]), (14, .aload_n 0, []), (15, .aload_n 1, []), (16, .iload_n 2, []), (17, .iload_n 3, []), (18, .invokevirtual 168, []), (21, .aload_n 0, []), (22, .getfield 9, []), (25, .iload_n 2, []), (26, .invokestatic 158, []), (29, .isub, []), (30, .ireturn, [])], [(9, (15, 0, 1, 16, 0))], [], [], [(504, (4, 6, 139, 0, 0, .inl T_X11_broughtBy)), (475, (2, 2, 43, 0, 0, .inl T_X11_price))], 6, 139, 0, 0)
theorem ok_X11_gainBy : MOK M_X11_gainBy := ⟨by decide +kernel, List.forall_mem_cons.mpr ⟨fl_RX11_9, fun _ h => absurd h List.not_mem_nil⟩, fun _ h => absurd h List.not_mem_nil, fun _ h => absurd h List.not_mem_nil, List.forall_mem_cons.mpr ⟨⟨Nat.le_of_ble_eq_true rfl, Nat.le_of_ble_eq_true rfl, cr_RX11_504⟩, List.forall_mem_cons.mpr ⟨⟨Nat.le_of_ble_eq_true rfl, Nat.le_of_ble_eq_true rfl, cr_RX11_475⟩, fun _ h => absurd h List.not_mem_nil⟩⟩⟩
set_option maxRecDepth 100000 in
theorem vc_X11_gainBy {K : Int32 → AH → Prop} {h : AH} (p1 : Nat) (p2 : Int32) (p3 : Int32) (H : inR (nI 1) 62 ∧ ((¬ p2 = (h.1 16 0 (nI 1).toNatClampNeg)) → S_X11_broughtBy p1 p2 p3 h (fun x2 h1 => S_X11_price 0 p2 h1 (fun x4 h3 => K (x2 - x4) h3))) ∧ (¬ (¬ p2 = (h.1 16 0 (nI 1).toNatClampNeg)) → K (nI 0) h)) : AW M_X11_gainBy (.inl K) 0 [some (aR 15 0), some (aR 16 p1), some (aI p2), some (aI p3)] [] h 0 0 := AW_go (cuts := []) ok_X11_gainBy 400 H

theorem snd_X11_gainBy (j : Nat) (x c : Int32) {h : AH} {K : Int32 → AH → Prop} (k : S_X11_gainBy j x c h K) : AW M_X11_gainBy (.inl K) 0 [some (aR 15 0), some (aR 16 j), some (aI x), some (aI c)] [] h 0 0 := by
  obtain ⟨V, U, X, m, ⟨hr, hv, hX, rfl, hm, rfl⟩, hu, hwu, ⟨s1, s2, s3⟩, hj, k⟩ := k
  refine vc_X11_gainBy j (nI X) (nI m) ?_
  have h7 := hv.2.1
  have e1 := (RVs hr).2.2.2.2.2.2.2.2.2.2.2.1
  simp (disch := omega) only [n_inT, n_cl, true_and, e1, n_eq]
  unfold gnB at k
  refine ⟨fun q => ⟨U, X, m, ⟨hu, hwu, by omega, rfl⟩, hm, rfl, hj, fun h1 o1 => ⟨V, X, ⟨by rw [o1.2 16 0 (by omega)]; exact hr, hv, by omega, rfl⟩, ?_⟩⟩, fun q => ?_⟩
  · have := k h1 o1
    rw [if_neg (by omega)] at this
    unfold gn at this
    rw [s2] at this
    dsimp only
    rw [n_subI]
    exact this
  · have := k h (only_rfl _ _ _)
    rw [if_pos (by omega)] at this
    exact this
theorem tr_X11_gainBy : ∀ (as : List AV) (h : AH) (K : Int32 → AH → Prop), T_X11_gainBy as h K → ∃ (q : Nat) (r : List AV), as = aR 15 q :: r := by
  intro as h K hk
  match as, hk with
  | [.inr (.inr (.inl q0)), .inr (.inr (.inl q1)), .inl q2, .inl q3], hk =>
    obtain ⟨hb, hk⟩ := tif_inv hk
    simp only [Bool.and_eq_true] at hb
    obtain ⟨⟨e0, e1⟩, e2⟩ := hb
    obtain ⟨a0, b0⟩ := q0
    obtain ⟨a1, b1⟩ := q1
    have f0 : a0 = 15 := Nat.eq_of_beq_eq_true e0
    subst f0
    have f1 : b0 = 0 := Nat.eq_of_beq_eq_true e1
    subst f1
    have f2 : a1 = 16 := Nat.eq_of_beq_eq_true e2
    subst f2
    exact ⟨_, _, rfl⟩
theorem tw_X11_gainBy : ∀ (as : List AV) (h : AH) (K : Int32 → AH → Prop), T_X11_gainBy as h K → (ini as).length ≤ mNL M_X11_gainBy ∧ AW M_X11_gainBy (.inl K) 0 (initL (mNL M_X11_gainBy) as) [] h 0 0 := by
  intro as h K hk
  match as, hk with
  | [.inr (.inr (.inl q0)), .inr (.inr (.inl q1)), .inl q2, .inl q3], hk =>
    obtain ⟨hb, hk⟩ := tif_inv hk
    simp only [Bool.and_eq_true] at hb
    obtain ⟨⟨e0, e1⟩, e2⟩ := hb
    obtain ⟨a0, b0⟩ := q0
    obtain ⟨a1, b1⟩ := q1
    have f0 : a0 = 15 := Nat.eq_of_beq_eq_true e0
    subst f0
    have f1 : b0 = 0 := Nat.eq_of_beq_eq_true e1
    subst f1
    have f2 : a1 = 16 := Nat.eq_of_beq_eq_true e2
    subst f2
    exact ⟨Nat.le_of_ble_eq_true rfl, snd_X11_gainBy b1 q2 q3 hk⟩
theorem cr_RX11_648 : CR RX11 (kIns 648) (4, 7, 162, 0, 0, .inl T_X11_gainBy) := crV_i (t := 15) (M := M_X11_gainBy) (by decide) rfl (by decide) rfl (inG (i := 1245) (w := Cond.methodLink RX11 216 yX11_gainBy) (by decide +kernel) rfl) (inG (i := 1247) (w := Cond.instanceMethod yX11_gainBy) (by decide +kernel) rfl) (inG (i := 40) (w := Cond.initialized RX11) (by decide +kernel) rfl) (inG (i := 33) (w := Cond.selects RX11 yX11_gainBy yX11_gainBy) (by decide +kernel) rfl) (inG (i := 1248) (w := Cond.code yX11_gainBy cX11_gainBy 4 (some .int)) (by decide +kernel) rfl) ⟨by decide +kernel, by decide +kernel, by decide +kernel⟩ tr_X11_gainBy tw_X11_gainBy

theorem gnB_b {U : Vm} {X m : Nat} (hw : WF U) (hX : X ≤ U 10 1) (hm : m < 8) : -34 ≤ gnB U X m ∧ gnB U X m ≤ 54 := by
  unfold gnB
  split
  · omega
  · exact gn_b hw (by omega) hm |>.symm
def S_X11_isBest (j : Nat) (x c : Int32) (h : AH) (K : Int32 → AH → Prop) : Prop := ∃ V U X m, cPre h x c V X m ∧ RV (h.1 16 j) U ∧ WF U ∧ sam V U ∧ j ≠ 2 ∧ ∀ h', only 16 2 h h' → (bP U X m → K (nI 1) h') ∧ (¬ bP U X m → K (nI 0) h')
def T_X11_isBest : List AV → AH → (Int32 → AH → Prop) → Prop := fun as h K => match as with
  | [.inr (.inr (.inl q0)), .inr (.inr (.inl q1)), .inl q2, .inl q3] => tif (Nat.beq q0.1 15 && Nat.beq q0.2 0 && Nat.beq q1.1 16) (S_X11_isBest q1.2 q2 q3 h K)
  | _ => False

def M_X11_isBest : MI := (RX11, cX11_isBest, 5, [(0, .iconst 0, []), (1, .istore 4, []), (3, .iload 4, []), (5, .aload_n 0, []), (6, .getfield 9, []), (9, .iconst 1, []), (10, .iaload, []), (11, .if_icmp .gt 39, [50]), (14, .aload_n 0, []), (15, .iload 4, []), (17, .iload_n 3, []), (18, .invokevirtual 213, []), (21, .ifCond .eq 23, [44]), (24, .aload_n 0, []), (25, .aload_n 1, []), (26, .iload 4, []), (28, .iload_n 3, []), (29, .invokevirtual 216, []), (32, .aload_n 0, []), (33, .aload_n 1, []), (34, .iload_n 2, []), (35, .iload_n 3, []), (36, .invokevirtual 216, []), (39, .if_icmp .le 5, [44]), (42, .iconst 0, []), (43, .ireturn, []), (44, .iinc 4 1, []), (47, .goto (-44), [3]), (50, .iconst 1, []), (51, .ireturn, [])], [(9, (15, 0, 1, 16, 0))], [], [], [(639, (3, 3, 64, 0, 0, .inl T_X11_isChoice)), (648, (4, 7, 162, 0, 0, .inl T_X11_gainBy))], 7, 162, 0, 0)
theorem ok_X11_isBest : MOK M_X11_isBest := ⟨by decide +kernel, List.forall_mem_cons.mpr ⟨fl_RX11_9, fun _ h => absurd h List.not_mem_nil⟩, fun _ h => absurd h List.not_mem_nil, fun _ h => absurd h List.not_mem_nil, List.forall_mem_cons.mpr ⟨⟨Nat.le_of_ble_eq_true rfl, Nat.le_of_ble_eq_true rfl, cr_RX11_639⟩, List.forall_mem_cons.mpr ⟨⟨Nat.le_of_ble_eq_true rfl, Nat.le_of_ble_eq_true rfl, cr_RX11_648⟩, fun _ h => absurd h List.not_mem_nil⟩⟩⟩
set_option maxRecDepth 100000 in
theorem vc_X11_isBest {K : Int32 → AH → Prop} {h : AH} (p1 : Nat) (p2 : Int32) (p3 : Int32) (H : AW M_X11_isBest (.inl (fun x u => (x = 0 ∨ x = 1) ∧ K x u)) 3 [some (aR 15 0), some (aR 16 p1), some (aI p2), some (aI p3), some (aI (nI 0))] [] h 0 0) : AW M_X11_isBest (.inl (fun x u => (x = 0 ∨ x = 1) ∧ K x u)) 0 [some (aR 15 0), some (aR 16 p1), some (aI p2), some (aI p3), none] [] h 0 0 := AW_go (cuts := [(3, [true, true, true, true, true])]) ok_X11_isBest 400 H
set_option maxRecDepth 100000 in
theorem vc_X11_isBest_3 {K : Int32 → AH → Prop} {h : AH}  (l1 : Nat) (l2 : Int32) (l3 : Int32) (l4 : Int32) (H : inR (nI 1) 62 ∧ (((h.1 16 0 (nI 1).toNatClampNeg) < l4) → (((nI 1) = 0 ∨ (nI 1) = 1) ∧ K (nI 1) h)) ∧ (¬ ((h.1 16 0 (nI 1).toNatClampNeg) < l4) → S_X11_isChoice l4 l3 h (fun x2 h1 => ((x2 = 0) → AW M_X11_isBest (.inl (fun x u => (x = 0 ∨ x = 1) ∧ K x u)) 3 [some (aR 15 0), some (aR 16 l1), some (aI l2), some (aI l3), some (aI (l4 + (nI 1)))] [] h1 0 0) ∧ (¬ (x2 = 0) → S_X11_gainBy l1 l4 l3 h1 (fun x4 h3 => S_X11_gainBy l1 l2 l3 h3 (fun x6 h5 => ((x4 ≤ x6) → AW M_X11_isBest (.inl (fun x u => (x = 0 ∨ x = 1) ∧ K x u)) 3 [some (aR 15 0), some (aR 16 l1), some (aI l2), some (aI l3), some (aI (l4 + (nI 1)))] [] h5 0 0) ∧ (¬ (x4 ≤ x6) → (((nI 0) = 0 ∨ (nI 0) = 1) ∧ K (nI 0) h5)))))))) : AW M_X11_isBest (.inl (fun x u => (x = 0 ∨ x = 1) ∧ K x u)) 3 [some (aR 15 0), some (aR 16 l1), some (aI l2), some (aI l3), some (aI l4)] [] h 0 0 := AW_go (cuts := [(3, [true, true, true, true, true])]) ok_X11_isBest 400 H

theorem lp_X11_isBest {j : Nat} {V U : Vm} {X m : Nat} {h0 : AH} {K : Int32 → AH → Prop} (hp : cPre h0 (nI X) (nI m) V X m) (hu : RV (h0.1 16 j) U) (hwu : WF U) (hs : sam V U) (hj : j ≠ 2) (k : ∀ h', only 16 2 h0 h' → (bP U X m → K (nI 1) h') ∧ (¬ bP U X m → K (nI 0) h')) : ∀ r t h, t + r = V 10 1 + 1 → only 16 2 h0 h → (∀ i, i < t → cho U i m → gnB U i m ≤ gnB U X m) → AW M_X11_isBest (.inl (fun x u => (x = 0 ∨ x = 1) ∧ K x u)) 3 [some (aR 15 0), some (aR 16 j), some (aI (nI X)), some (aI (nI m)), some (aI (nI t))] [] h 0 0 := by
  obtain ⟨hr, hv, hX, -, hm, -⟩ := hp
  have h7 := hv.2.1
  intro r
  induction r with
  | zero =>
    intro t h ht o hi
    refine vc_X11_isBest_3 j (nI X) (nI m) (nI t) ?_
    have hr1 := hr
    rw [← o.2 16 0 (by omega)] at hr1
    have e1 := (RVs hr1).2.2.2.2.2.2.2.2.2.2.2.1
    simp (disch := omega) only [n_inT, n_cl, true_and, e1, n_lt]
    refine ⟨fun _ => ⟨Or.inr (by decide), (k h o).1 (fun i q => hi i (by have := hs.1; omega))⟩, fun q => absurd (by omega) q⟩
  | succ r ih =>
    intro t h ht o hi
    refine vc_X11_isBest_3 j (nI X) (nI m) (nI t) ?_
    have hr1 := hr
    rw [← o.2 16 0 (by omega)] at hr1
    have hu1 := hu
    rw [← o.2 16 j (by omega)] at hu1
    have e1 := (RVs hr1).2.2.2.2.2.2.2.2.2.2.2.1
    have s1 := hs.1
    have b1 := gnB_b (X := X) hwu (by omega) hm
    have b2 := gnB_b (X := t) hwu (by omega) hm
    have hcv : cho U t m ↔ cho V t m := by unfold cho; rw [s1, hs.2.2]
    simp (disch := omega) only [n_inT, n_cl, true_and, e1, n_lt, nI_add]
    refine ⟨fun q => by omega, fun _ => ⟨V, t, m, ⟨hr1, hv, by omega, rfl, hm, rfl⟩, ?_⟩⟩
    dsimp only
    simp only [if10_eq]
    refine ⟨fun q => ih (t + 1) h (by omega) o (fun i q1 q2 => ?_), fun q => ?_⟩
    · by_cases z : i = t
      · subst z; exact absurd (hcv.mp q2) q
      · exact hi i (by omega) q2
    · have q := Decidable.not_not.mp q
      refine ⟨V, U, t, m, ⟨hr1, hv, by omega, rfl, hm, rfl⟩, hu1, hwu, hs, hj, fun h2 o2 => ?_⟩
      have hr2 := hr1
      rw [← o2.2 16 0 (by omega)] at hr2
      have hu2 := hu1
      rw [← o2.2 16 j (by omega)] at hu2
      refine ⟨V, U, X, m, ⟨hr2, hv, by omega, rfl, hm, rfl⟩, hu2, hwu, hs, hj, fun h3 o3 => ?_⟩
      have o4 := only_tr o (only_tr o2 o3)
      dsimp only
      rw [i_le (by omega) (by omega) (by omega) (by omega)]
      refine ⟨fun z => ih (t + 1) h3 (by omega) o4 (fun i q1 q2 => ?_), fun z => ⟨Or.inl (by decide), (k h3 o4).2 (fun w => z (w t (by omega) (hcv.mpr q)))⟩⟩
      by_cases y : i = t
      · subst y; exact z
      · exact hi i (by omega) q2
theorem snd_X11_isBest (j : Nat) (x c : Int32) {h : AH} {K : Int32 → AH → Prop} (k : S_X11_isBest j x c h K) : AW M_X11_isBest (.inl (fun x u => (x = 0 ∨ x = 1) ∧ K x u)) 0 [some (aR 15 0), some (aR 16 j), some (aI x), some (aI c), none] [] h 0 0 := by
  obtain ⟨V, U, X, m, hp, hu, hwu, hs, hj, k⟩ := k
  obtain ⟨-, -, -, rfl, -, rfl⟩ := id hp
  exact vc_X11_isBest j (nI X) (nI m) (lp_X11_isBest hp hu hwu hs hj k (V 10 1 + 1) 0 h (by omega) (only_rfl _ _ _) (fun i q => absurd q (by omega)))
theorem tr_X11_isBest : ∀ (as : List AV) (h : AH) (K : Int32 → AH → Prop), T_X11_isBest as h K → ∃ (q : Nat) (r : List AV), as = aR 15 q :: r := by
  intro as h K hk
  match as, hk with
  | [.inr (.inr (.inl q0)), .inr (.inr (.inl q1)), .inl q2, .inl q3], hk =>
    obtain ⟨hb, hk⟩ := tif_inv hk
    simp only [Bool.and_eq_true] at hb
    obtain ⟨⟨e0, e1⟩, e2⟩ := hb
    obtain ⟨a0, b0⟩ := q0
    obtain ⟨a1, b1⟩ := q1
    have f0 : a0 = 15 := Nat.eq_of_beq_eq_true e0
    subst f0
    have f1 : b0 = 0 := Nat.eq_of_beq_eq_true e1
    subst f1
    have f2 : a1 = 16 := Nat.eq_of_beq_eq_true e2
    subst f2
    exact ⟨_, _, rfl⟩
theorem tw_X11_isBest : ∀ (as : List AV) (h : AH) (K : Int32 → AH → Prop), T_X11_isBest as h K → (ini as).length ≤ mNL M_X11_isBest ∧ AW M_X11_isBest (.inl (fun x u => (x = 0 ∨ x = 1) ∧ K x u)) 0 (initL (mNL M_X11_isBest) as) [] h 0 0 := by
  intro as h K hk
  match as, hk with
  | [.inr (.inr (.inl q0)), .inr (.inr (.inl q1)), .inl q2, .inl q3], hk =>
    obtain ⟨hb, hk⟩ := tif_inv hk
    simp only [Bool.and_eq_true] at hb
    obtain ⟨⟨e0, e1⟩, e2⟩ := hb
    obtain ⟨a0, b0⟩ := q0
    obtain ⟨a1, b1⟩ := q1
    have f0 : a0 = 15 := Nat.eq_of_beq_eq_true e0
    subst f0
    have f1 : b0 = 0 := Nat.eq_of_beq_eq_true e1
    subst f1
    have f2 : a1 = 16 := Nat.eq_of_beq_eq_true e2
    subst f2
    exact ⟨Nat.le_of_ble_eq_true rfl, snd_X11_isBest b1 q2 q3 hk⟩
theorem cr_RX11_657 : CR RX11 (kIns 657) (4, 8, 186, 0, 0, .inl T_X11_isBest) := crV_z (t := 15) (M := M_X11_isBest) (by decide) rfl (by decide) rfl (inG (i := 1241) (w := Cond.methodLink RX11 219 yX11_isBest) (by decide +kernel) rfl) (inG (i := 1243) (w := Cond.instanceMethod yX11_isBest) (by decide +kernel) rfl) (inG (i := 40) (w := Cond.initialized RX11) (by decide +kernel) rfl) (inG (i := 32) (w := Cond.selects RX11 yX11_isBest yX11_isBest) (by decide +kernel) rfl) (inG (i := 1244) (w := Cond.code yX11_isBest cX11_isBest 5 (some .boolean)) (by decide +kernel) rfl) ⟨by decide +kernel, by decide +kernel, by decide +kernel⟩ tr_X11_isBest tw_X11_isBest
end
section
/-! ===== the reference: merchants ===== -/
def aft (V : Vm) (s m : Nat) : Vm := if s = V 10 1 then V else thr V s m
theorem WF_aft {V : Vm} {s m : Nat} (hv : WF V) (hm : m < 8) : WF (aft V s m) := by
  unfold aft
  split
  · exact hv
  · exact WF_thr hv hm
theorem sam_aft (V : Vm) (s m : Nat) : sam V (aft V s m) := by
  unfold aft
  split
  · exact sam_rfl V
  · exact sam_thr V s m
def R_merchants (V : Vm) (c : Int32) : Int32 := if ¬ cel c then iI (-1) else nI (10 * bc V (nN c) + bc (aft V (bc V (nN c)) (nN c)) (nN c))
def S_X11_merchants (c : Int32) (h : AH) (K : Int32 → AH → Prop) : Prop := ∃ V, RV (h.1 16 0) V ∧ WF V ∧ ∀ h', keepM h h' → K (R_merchants V c) h'
def T_X11_merchants : List AV → AH → (Int32 → AH → Prop) → Prop := fun as h K => match as with
  | [.inr (.inr (.inl q0)), .inl q1] => tif (Nat.beq q0.1 15 && Nat.beq q0.2 0) (S_X11_merchants q1 h K)
  | _ => False

def M_X11_merchants : MI := (RX11, cX11_merchants, 5, [(0, .iload_n 1, []), (1, .invokestatic 120, []), (4, .ifCond .ne 5, [9]), (7, .iconst (-1), []), (8, .ireturn, []), (9, .iconst 0, []), (10, .istore_n 2, []), (11, .iload_n 2, []), (12, .aload_n 0, []), (13, .getfield 9, []), (16, .iconst 1, []), (17, .iaload, []), (18, .if_icmp .gt 117, [135]), (21, .iconst 0, []), (22, .istore_n 3, []), (23, .iload_n 3, []), (24, .aload_n 0, []), (25, .getfield 9, []), (28, .iconst 1, []), (29, .iaload, []), (30, .if_icmp .gt 99, [129]), (33, .aload_n 0, []), (34, .iload_n 2, []), (35, .iload_n 1, []), (36, .invokevirtual 213, []), (39, .ifCond .eq 84, [123]), (42, .aload_n 0, []), (43, .iload_n 3, []), (44, .iload_n 1, []), (45, .invokevirtual 213, []), (48, .ifCond .eq 75, [123]), (51, .aload_n 0, []), (52, .aload_n 0, []), (53, .getfield 9, []), (56, .iload_n 2, []), (57, .iload_n 1, []), (58, .invokevirtual 219, []), (61, .ifCond .ne 6, [67]), (64, .goto 59, [123]), (67, .aload_n 0, []), (68, .getfield 9, []), (71, .aload_n 0, []), (72, .getfield 13, []), (75, .invokestatic 148, []), (78, .iload_n 2, []), (79, .aload_n 0, []), (80, .getfield 9, []), (83, .iconst 1, []), (84, .iaload, []), (85, .if_icmp .ne 7, [92]), (88, .iconst 0, []), (89, .goto 12, [101]), (92, .aload_n 0, []), (93, .getfield 13, []), (96, .iload_n 2, []), (97, .iload_n 1, []), (98, .invokestatic 138, []), (101, .istore 4, []), (103, .aload_n 0, []), (104, .aload_n 0, []), (105, .getfield 13, []), (108, .iload_n 3, []), (109, .iload_n 1, []), (110, .invokevirtual 219, []), (113, .ifCond .eq 10, [123]), (116, .bipush 10, []), (118, .iload_n 2, []), (119, .imul, []), (120, .iload_n 3, []), (121, .iadd, []), (122, .ireturn, []), (123, .iinc 3 1, []), (126, .goto (-103), [23]), (129, .iinc 2 1, []), (132, .goto (-121), [11]), (135, .bipush (-4), []), (137, .ireturn, [])], [(9, (15, 0, 1, 16, 0)), (13, (15, 1, 1, 16, 1))], [], [], [(361, (1, 2, 42, 0, 0, .inl T_X11_isCell)), (639, (3, 3, 64, 0, 0, .inl T_X11_isChoice)), (657, (4, 8, 186, 0, 0, .inl T_X11_isBest)), (445, (2, 1, 22, 0, 0, .inr (.inl T_X11_copies))), (415, (3, 5, 116, 0, 0, .inl T_X11_throwIn))], 8, 186, 0, 0)
theorem ok_X11_merchants : MOK M_X11_merchants := ⟨by decide +kernel, List.forall_mem_cons.mpr ⟨fl_RX11_9, List.forall_mem_cons.mpr ⟨fl_RX11_13, fun _ h => absurd h List.not_mem_nil⟩⟩, fun _ h => absurd h List.not_mem_nil, fun _ h => absurd h List.not_mem_nil, List.forall_mem_cons.mpr ⟨⟨Nat.le_of_ble_eq_true rfl, Nat.le_of_ble_eq_true rfl, cr_RX11_361⟩, List.forall_mem_cons.mpr ⟨⟨Nat.le_of_ble_eq_true rfl, Nat.le_of_ble_eq_true rfl, cr_RX11_639⟩, List.forall_mem_cons.mpr ⟨⟨Nat.le_of_ble_eq_true rfl, Nat.le_of_ble_eq_true rfl, cr_RX11_657⟩, List.forall_mem_cons.mpr ⟨⟨Nat.le_of_ble_eq_true rfl, Nat.le_of_ble_eq_true rfl, cr_RX11_445⟩, List.forall_mem_cons.mpr ⟨⟨Nat.le_of_ble_eq_true rfl, Nat.le_of_ble_eq_true rfl, cr_RX11_415⟩, fun _ h => absurd h List.not_mem_nil⟩⟩⟩⟩⟩⟩
set_option maxRecDepth 100000 in
theorem vc_X11_merchants {K : Int32 → AH → Prop} {h : AH} (p1 : Int32) (H : S_X11_isCell p1 h (fun x2 h1 => ((¬ x2 = 0) → AW M_X11_merchants (.inl K) 11 [some (aR 15 0), some (aI p1), some (aI (nI 0)), none, none] [] h1 0 0) ∧ (¬ (¬ x2 = 0) → K (iI (-1)) h1))) : AW M_X11_merchants (.inl K) 0 [some (aR 15 0), some (aI p1), none, none, none] [] h 0 0 := AW_go (cuts := [(11, [true, true, true, false, false]), (23, [true, true, true, true, false])]) ok_X11_merchants 400 H
set_option maxRecDepth 100000 in
theorem vc_X11_merchants_11 {K : Int32 → AH → Prop} {h : AH}  (l1 : Int32) (l2 : Int32) (H : inR (nI 1) 62 ∧ (((h.1 16 0 (nI 1).toNatClampNeg) < l2) → K (iI (-4)) h) ∧ (¬ ((h.1 16 0 (nI 1).toNatClampNeg) < l2) → AW M_X11_merchants (.inl K) 23 [some (aR 15 0), some (aI l1), some (aI l2), some (aI (nI 0)), none] [] h 0 0)) : AW M_X11_merchants (.inl K) 11 [some (aR 15 0), some (aI l1), some (aI l2), none, none] [] h 0 0 := AW_go (cuts := [(11, [true, true, true, false, false]), (23, [true, true, true, true, false])]) ok_X11_merchants 400 H
set_option maxRecDepth 100000 in
theorem vc_X11_merchants_23 {K : Int32 → AH → Prop} {h : AH}  (l1 : Int32) (l2 : Int32) (l3 : Int32) (H : inR (nI 1) 62 ∧ (((h.1 16 0 (nI 1).toNatClampNeg) < l3) → AW M_X11_merchants (.inl K) 11 [some (aR 15 0), some (aI l1), some (aI (l2 + (nI 1))), none, none] [] h 0 0) ∧ (¬ ((h.1 16 0 (nI 1).toNatClampNeg) < l3) → S_X11_isChoice l2 l1 h (fun x2 h1 => ((x2 = 0) → AW M_X11_merchants (.inl K) 23 [some (aR 15 0), some (aI l1), some (aI l2), some (aI (l3 + (nI 1))), none] [] h1 0 0) ∧ (¬ (x2 = 0) → S_X11_isChoice l3 l1 h1 (fun x4 h3 => ((x4 = 0) → AW M_X11_merchants (.inl K) 23 [some (aR 15 0), some (aI l1), some (aI l2), some (aI (l3 + (nI 1))), none] [] h3 0 0) ∧ (¬ (x4 = 0) → S_X11_isBest 0 l2 l1 h3 (fun x6 h5 => ((¬ x6 = 0) → S_X11_copies 0 1 h5 (fun h7 => inR (nI 1) 62 ∧ ((¬ l2 = (h7.1 16 0 (nI 1).toNatClampNeg)) → S_X11_throwIn 1 l2 l1 h7 (fun x9 h8 => S_X11_isBest 1 l3 l1 h8 (fun x11 h10 => ((x11 = 0) → AW M_X11_merchants (.inl K) 23 [some (aR 15 0), some (aI l1), some (aI l2), some (aI (l3 + (nI 1))), none] [] h10 0 0) ∧ (¬ (x11 = 0) → K (((nI 10) * l2) + l3) h10)))) ∧ (¬ (¬ l2 = (h7.1 16 0 (nI 1).toNatClampNeg)) → S_X11_isBest 1 l3 l1 h7 (fun x13 h12 => ((x13 = 0) → AW M_X11_merchants (.inl K) 23 [some (aR 15 0), some (aI l1), some (aI l2), some (aI (l3 + (nI 1))), none] [] h12 0 0) ∧ (¬ (x13 = 0) → K (((nI 10) * l2) + l3) h12))))) ∧ (¬ (¬ x6 = 0) → AW M_X11_merchants (.inl K) 23 [some (aR 15 0), some (aI l1), some (aI l2), some (aI (l3 + (nI 1))), none] [] h5 0 0)))))))) : AW M_X11_merchants (.inl K) 23 [some (aR 15 0), some (aI l1), some (aI l2), some (aI l3), none] [] h 0 0 := AW_go (cuts := [(11, [true, true, true, false, false]), (23, [true, true, true, true, false])]) ok_X11_merchants 400 H

theorem lpA_X11_merchants {V : Vm} {m s1 : Nat} {h0 : AH} {K : Int32 → AH → Prop} (hr : RV (h0.1 16 0) V) (hv : WF V) (hm : m < 8) (hs1 : s1 < bc V m) (k : ∀ h', keepM h0 h' → AW M_X11_merchants (.inl K) 11 [some (aR 15 0), some (aI (nI m)), some (aI (nI (s1 + 1))), none, none] [] h' 0 0) : ∀ r s2 h, s2 + r = V 10 1 + 1 → keepM h0 h → AW M_X11_merchants (.inl K) 23 [some (aR 15 0), some (aI (nI m)), some (aI (nI s1)), some (aI (nI s2)), none] [] h 0 0 := by
  have h7 := hv.2.1
  obtain ⟨b1, b2, b3, b4⟩ := bc_ok V m
  intro r
  induction r with
  | zero =>
    intro s2 h hs hk
    refine vc_X11_merchants_23 (nI m) (nI s1) (nI s2) ?_
    have hr1 := hr
    rw [← keepM_r0 hk] at hr1
    have e1 := (RVs hr1).2.2.2.2.2.2.2.2.2.2.2.1
    simp (disch := omega) only [n_inT, n_cl, true_and, e1, n_lt, nI_add]
    exact ⟨fun _ => k h hk, fun q => absurd (by omega) q⟩
  | succ r ih =>
    intro s2 h hs hk
    refine vc_X11_merchants_23 (nI m) (nI s1) (nI s2) ?_
    have hr1 := hr
    rw [← keepM_r0 hk] at hr1
    have e1 := (RVs hr1).2.2.2.2.2.2.2.2.2.2.2.1
    simp (disch := omega) only [n_inT, n_cl, true_and, e1, n_lt, nI_add]
    refine ⟨fun q => by omega, fun _ => ⟨V, s1, m, ⟨hr1, hv, by omega, rfl, hm, rfl⟩, ?_⟩⟩
    dsimp only
    simp only [if10_eq]
    refine ⟨fun q => ih (s2 + 1) h (by omega) hk, fun q => ⟨V, s2, m, ⟨hr1, hv, by omega, rfl, hm, rfl⟩, ?_⟩⟩
    dsimp only
    simp only [if10_eq]
    refine ⟨fun q => ih (s2 + 1) h (by omega) hk, fun q2 => ⟨V, V, s1, m, ⟨hr1, hv, by omega, rfl, hm, rfl⟩, hr1, hv, sam_rfl V, by omega, fun h1 o1 => ⟨fun z => absurd z (b4 s1 hs1 (Decidable.not_not.mp q)), fun z => ⟨fun y => absurd (by decide) y, fun _ => ?_⟩⟩⟩⟩
    exact ih (s2 + 1) h1 (by omega) (keepM_tr hk (keepM_o (by omega) (by omega) o1))
theorem lpB_X11_merchants {V : Vm} {m : Nat} {h0 : AH} {K : Int32 → AH → Prop} (hr : RV (h0.1 16 0) V) (hv : WF V) (hm : m < 8) (k : ∀ h', keepM h0 h' → K (nI (10 * bc V m + bc (aft V (bc V m) m) m)) h') : ∀ r s2 h, s2 + r = bc (aft V (bc V m) m) m → keepM h0 h → AW M_X11_merchants (.inl K) 23 [some (aR 15 0), some (aI (nI m)), some (aI (nI (bc V m))), some (aI (nI s2)), none] [] h 0 0 := by
  have h7 := hv.2.1
  obtain ⟨b1, b2, b3, b4⟩ := bc_ok V m
  obtain ⟨c1, c2, c3, c4⟩ := bc_ok (aft V (bc V m) m) m
  have hsm := sam_aft V (bc V m) m
  have hwa : WF (aft V (bc V m) m) := WF_aft hv hm
  have hn := hsm.1
  have hcv : ∀ t, cho (aft V (bc V m) m) t m ↔ cho V t m := fun t => by unfold cho; rw [hn, hsm.2.2]
  have key : ∀ s2 h, s2 ≤ bc (aft V (bc V m) m) m → keepM h0 h → (∀ h', keepM h0 h' → s2 < bc (aft V (bc V m) m) m → AW M_X11_merchants (.inl K) 23 [some (aR 15 0), some (aI (nI m)), some (aI (nI (bc V m))), some (aI (nI (s2 + 1))), none] [] h' 0 0) → AW M_X11_merchants (.inl K) 23 [some (aR 15 0), some (aI (nI m)), some (aI (nI (bc V m))), some (aI (nI s2)), none] [] h 0 0 := by
    intro s2 h hs hk ih
    refine vc_X11_merchants_23 (nI m) (nI (bc V m)) (nI s2) ?_
    have hr1 := hr
    rw [← keepM_r0 hk] at hr1
    have e1 := (RVs hr1).2.2.2.2.2.2.2.2.2.2.2.1
    simp (disch := omega) only [n_inT, n_cl, true_and, e1, n_lt, nI_add]
    refine ⟨fun q => by omega, fun _ => ⟨V, bc V m, m, ⟨hr1, hv, by omega, rfl, hm, rfl⟩, ?_⟩⟩
    dsimp only
    simp only [if10_eq]
    refine ⟨fun q => absurd b2 q, fun q => ⟨V, s2, m, ⟨hr1, hv, by omega, rfl, hm, rfl⟩, ?_⟩⟩
    dsimp only
    simp only [if10_eq]
    have hne : ∀ t, t = bc (aft V (bc V m) m) m → cho V t m := fun t e => (hcv t).mp (e ▸ c2)
    refine ⟨fun q => ih h hk (Nat.lt_of_le_of_ne hs (fun e => q (hne s2 e))), fun q2 => ⟨V, V, bc V m, m, ⟨hr1, hv, by omega, rfl, hm, rfl⟩, hr1, hv, sam_rfl V, by omega, fun h1 o1 => ⟨fun _ => ⟨fun _ => ?_, fun y => absurd (by decide) y⟩, fun z => absurd b3 z⟩⟩⟩
    have hcs2 := (hcv s2).mpr (Decidable.not_not.mp q2)
    have k1 := keepM_tr hk (keepM_o (by omega) (by omega) o1)
    refine ⟨by omega, fun h2 o2 cp2 => ?_⟩
    have k2 := keepM_tr k1 (keepM_o (by omega) (by omega) o2)
    have hr2 := hr
    rw [← keepM_r0 k2] at hr2
    have hr1' := hr
    rw [← keepM_r0 k1] at hr1'
    have e2 := (RVs hr2).2.2.2.2.2.2.2.2.2.2.2.1
    have hu2 : RV (h2.1 16 1) V := RV_cp hv hr1' cp2
    simp (disch := omega) only [n_inT, n_cl, true_and, e2, n_eq, pk_mul, nI_add]
    have fin : ∀ h3, keepM h0 h3 → RV (h3.1 16 1) (aft V (bc V m) m) → S_X11_isBest 1 (nI s2) (nI m) h3 (fun x11 h10 => (x11 = 0 → AW M_X11_merchants (.inl K) 23 [some (aR 15 0), some (aI (nI m)), some (aI (nI (bc V m))), some (aI (nI (s2 + 1))), none] [] h10 0 0) ∧ (¬ x11 = 0 → K (nI (10 * bc V m + s2)) h10)) := by
      intro h3 k3 hu3
      have hr3 := hr
      rw [← keepM_r0 k3] at hr3
      refine ⟨V, aft V (bc V m) m, s2, m, ⟨hr3, hv, by omega, rfl, hm, rfl⟩, hu3, hwa, hsm, by omega, fun h4 o4 => ⟨fun z => ⟨fun y => absurd y (by decide), fun _ => ?_⟩, fun z => ⟨fun _ => ?_, fun y => absurd (by decide) y⟩⟩⟩
      · have : s2 = bc (aft V (bc V m) m) m := by
          by_cases w : s2 < bc (aft V (bc V m) m) m
          · exact absurd z (c4 s2 w hcs2)
          · omega
        have kk := k h4 (keepM_tr k3 (keepM_o (by omega) (by omega) o4))
        rw [← this] at kk
        exact kk
      · refine ih h4 (keepM_tr k3 (keepM_o (by omega) (by omega) o4)) (Nat.lt_of_le_of_ne hs (fun e => z ?_))
        rw [e]
        exact c3
    refine ⟨fun q => ?_, fun q => ?_⟩
    · refine ⟨V, bc V m, m, ⟨hu2, hv, by omega, rfl⟩, hm, rfl, fun h3 o3 r3 => ?_⟩
      refine fin h3 (keepM_tr k2 (keepM_o (by omega) (by omega) o3)) ?_
      unfold aft
      rw [if_neg q]
      exact r3
    · refine fin h2 k2 ?_
      unfold aft
      rw [if_pos (Decidable.not_not.mp q)]
      exact hu2
  intro r
  induction r with
  | zero => exact fun s2 h hs hk => key s2 h (by omega) hk (fun h' _ q => by omega)
  | succ r ih => exact fun s2 h hs hk => key s2 h (by omega) hk (fun h' k' _ => ih (s2 + 1) h' (by omega) k')
theorem lp_X11_merchants {V : Vm} {m : Nat} {h0 : AH} {K : Int32 → AH → Prop} (hr : RV (h0.1 16 0) V) (hv : WF V) (hm : m < 8) (k : ∀ h', keepM h0 h' → K (nI (10 * bc V m + bc (aft V (bc V m) m) m)) h') : ∀ r s1 h, s1 + r = bc V m → keepM h0 h → AW M_X11_merchants (.inl K) 11 [some (aR 15 0), some (aI (nI m)), some (aI (nI s1)), none, none] [] h 0 0 := by
  have h7 := hv.2.1
  obtain ⟨b1, b2, b3, b4⟩ := bc_ok V m
  intro r
  induction r with
  | zero =>
    intro s1 h hs hk
    refine vc_X11_merchants_11 (nI m) (nI s1) ?_
    have hr1 := hr
    rw [← keepM_r0 hk] at hr1
    have e1 := (RVs hr1).2.2.2.2.2.2.2.2.2.2.2.1
    simp (disch := omega) only [n_inT, n_cl, true_and, e1, n_lt]
    have : s1 = bc V m := by omega
    subst this
    exact ⟨fun q => by omega, fun _ => lpB_X11_merchants hr hv hm k (bc (aft V (bc V m) m) m) 0 h (by omega) hk⟩
  | succ r ih =>
    intro s1 h hs hk
    refine vc_X11_merchants_11 (nI m) (nI s1) ?_
    have hr1 := hr
    rw [← keepM_r0 hk] at hr1
    have e1 := (RVs hr1).2.2.2.2.2.2.2.2.2.2.2.1
    simp (disch := omega) only [n_inT, n_cl, true_and, e1, n_lt]
    exact ⟨fun q => by omega, fun _ => lpA_X11_merchants hr hv hm (by omega) (fun h' k' => ih (s1 + 1) h' (by omega) k') (V 10 1 + 1) 0 h (by omega) hk⟩
theorem snd_X11_merchants (c : Int32) {h : AH} {K : Int32 → AH → Prop} (k : S_X11_merchants c h K) : AW M_X11_merchants (.inl K) 0 [some (aR 15 0), some (aI c), none, none, none] [] h 0 0 := by
  obtain ⟨V, hr, hv, k⟩ := k
  refine vc_X11_merchants c ?_
  unfold S_X11_isCell
  simp only [if10_eq]
  unfold R_merchants at k
  refine ⟨fun q => ?_, fun q => ?_⟩
  · rw [if_neg q] at k
    obtain ⟨m, hm, rfl⟩ := in8_iff.mp (Decidable.not_not.mp q)
    unfold nN at k
    rw [n_cl (show m < 2147483648 by omega)] at k
    exact lp_X11_merchants hr hv hm k (bc V m) 0 h (by omega) (keepM_rfl h)
  · rw [if_pos (fun z => q (fun z2 => z2 z))] at k
    exact k h (keepM_rfl h)
theorem tr_X11_merchants : ∀ (as : List AV) (h : AH) (K : Int32 → AH → Prop), T_X11_merchants as h K → ∃ (q : Nat) (r : List AV), as = aR 15 q :: r := by
  intro as h K hk
  match as, hk with
  | [.inr (.inr (.inl q0)), .inl q1], hk =>
    obtain ⟨hb, hk⟩ := tif_inv hk
    simp only [Bool.and_eq_true] at hb
    obtain ⟨e0, e1⟩ := hb
    obtain ⟨a0, b0⟩ := q0
    have f0 : a0 = 15 := Nat.eq_of_beq_eq_true e0
    subst f0
    have f1 : b0 = 0 := Nat.eq_of_beq_eq_true e1
    subst f1
    exact ⟨_, _, rfl⟩
theorem tw_X11_merchants : ∀ (as : List AV) (h : AH) (K : Int32 → AH → Prop), T_X11_merchants as h K → (ini as).length ≤ mNL M_X11_merchants ∧ AW M_X11_merchants (.inl K) 0 (initL (mNL M_X11_merchants) as) [] h 0 0 := by
  intro as h K hk
  match as, hk with
  | [.inr (.inr (.inl q0)), .inl q1], hk =>
    obtain ⟨hb, hk⟩ := tif_inv hk
    simp only [Bool.and_eq_true] at hb
    obtain ⟨e0, e1⟩ := hb
    obtain ⟨a0, b0⟩ := q0
    have f0 : a0 = 15 := Nat.eq_of_beq_eq_true e0
    subst f0
    have f1 : b0 = 0 := Nat.eq_of_beq_eq_true e1
    subst f1
    exact ⟨Nat.le_of_ble_eq_true rfl, snd_X11_merchants q1 hk⟩
end
section
/-! ===== the reference: nests ===== -/
def cx (g : Nat → Nat) (i j k : Nat) : Nat := if k = i then max (g i) (g j) else if k = j then min (g i) (g j) else g k
def srt (w : Nat → Nat) : Nat → Nat := cx (cx (cx (cx (cx (cx w 0 1) 0 2) 0 3) 1 2) 1 3) 2 3
theorem most_n {a b : Nat} (ha : a < 2147483648) (hb : b < 2147483648) : (if nI b < nI a then nI a else nI b) = nI (max a b) := by
  by_cases q : b < a
  · rw [if_pos ((n_lt hb ha).mpr q), Nat.max_eq_left (by omega)]
  · rw [if_neg (fun z => q ((n_lt hb ha).mp z)), Nat.max_eq_right (by omega)]
def S_X11_sorts (h : AH) (K : AH → Prop) : Prop := ∃ V, RV (h.1 16 0) V ∧ (∀ n, n < 4 → V 3 n < 500000000) ∧ ∀ h', only 20 0 h h' → (∀ i, i < 4 → h'.1 20 0 i = nI (srt (V 3) i)) → K h'
def T_X11_sorts : List AV → AH → (AH → Prop) → Prop := fun as h K => match as with
  | [.inr (.inr (.inl q0))] => tif (Nat.beq q0.1 15 && Nat.beq q0.2 0) (S_X11_sorts h K)
  | _ => False

def M_X11_sorts : MI := (RX11, cX11_sorts, 4, [(0, .iconst 0, []), (1, .istore_n 1, []), (2, .iload_n 1, []), (3, .iconst 4, []), (4, .if_icmp .ge 24, [28]), (7, .aload_n 0, []), (8, .getfield 32, []), (11, .iload_n 1, []), (12, .aload_n 0, []), (13, .getfield 9, []), (16, .bipush 44, []), (18, .iload_n 1, []), (19, .iadd, []), (20, .iaload, []), (21, .iastore, []), (22, .iinc 1 1, []), (25, .goto (-23), [2]), (28, .iconst 0, []), (29, .istore_n 1, []), (30, .iload_n 1, []), (31, .iconst 4, []), (32, .if_icmp .ge 68, [100]), (35, .iload_n 1, []), (36, .iconst 1, []), (37, .iadd, []), (38, .istore_n 2, []), (39, .iload_n 2, []), (40, .iconst 4, []), (41, .if_icmp .ge 53, [94]), (44, .aload_n 0, []), (45, .getfield 32, []), (48, .iload_n 1, []), (49, .iaload, []), (50, .aload_n 0, []), (51, .getfield 32, []), (54, .iload_n 2, []), (55, .iaload, []), (56, .invokestatic 88, []), (59, .istore_n 3, []), (60, .aload_n 0, []), (61, .getfield 32, []), (64, .iload_n 2, []), (65, .aload_n 0, []), (66, .getfield 32, []), (69, .iload_n 1, []), (70, .iaload, []), (71, .aload_n 0, []), (72, .getfield 32, []), (75, .iload_n 2, []), (76, .iaload, []), (77, .invokestatic 85, []), (80, .iastore, []), (81, .aload_n 0, []), (82, .getfield 32, []), (85, .iload_n 1, []), (86, .iload_n 3, []), (87, .iastore, []), (88, .iinc 2 1, []), (91, .goto (-52), [39]), (94, .iinc 1 1, []), (97, .goto (-67), [30]), (100, .return_, [])], [(32, (15, 14, 1, 20, 0)), (9, (15, 0, 1, 16, 0))], [], [], [(265, (2, 1, 21, 0, 0, .inl T_X11_most)), (256, (2, 1, 21, 0, 0, .inl T_X11_least))], 1, 21, 0, 0)
theorem ok_X11_sorts : MOK M_X11_sorts := ⟨by decide +kernel, List.forall_mem_cons.mpr ⟨fl_RX11_32, List.forall_mem_cons.mpr ⟨fl_RX11_9, fun _ h => absurd h List.not_mem_nil⟩⟩, fun _ h => absurd h List.not_mem_nil, fun _ h => absurd h List.not_mem_nil, List.forall_mem_cons.mpr ⟨⟨Nat.le_of_ble_eq_true rfl, Nat.le_of_ble_eq_true rfl, cr_RX11_265⟩, List.forall_mem_cons.mpr ⟨⟨Nat.le_of_ble_eq_true rfl, Nat.le_of_ble_eq_true rfl, cr_RX11_256⟩, fun _ h => absurd h List.not_mem_nil⟩⟩⟩
set_option maxRecDepth 100000 in
theorem vc_X11_sorts {K : AH → Prop} {h : AH}  (H : AW M_X11_sorts (.inr (.inl K)) 2 [some (aR 15 0), some (aI (nI 0)), none, none] [] h 0 0) : AW M_X11_sorts (.inr (.inl K)) 0 [some (aR 15 0), none, none, none] [] h 0 0 := AW_go (cuts := [(2, [true, true, false, false]), (30, [true, true, false, false]), (39, [true, true, true, false])]) ok_X11_sorts 400 H
set_option maxRecDepth 100000 in
theorem vc_X11_sorts_2 {K : AH → Prop} {h : AH}  (l1 : Int32) (H : (((nI 4) ≤ l1) → AW M_X11_sorts (.inr (.inl K)) 30 [some (aR 15 0), some (aI (nI 0)), none, none] [] h 0 0) ∧ (¬ ((nI 4) ≤ l1) → inR ((nI 44) + l1) 62 ∧ inR l1 4 ∧ AW M_X11_sorts (.inr (.inl K)) 2 [some (aR 15 0), some (aI (l1 + (nI 1))), none, none] [] (wI h 20 0 l1.toNatClampNeg (h.1 16 0 ((nI 44) + l1).toNatClampNeg)) 0 0)) : AW M_X11_sorts (.inr (.inl K)) 2 [some (aR 15 0), some (aI l1), none, none] [] h 0 0 := AW_go (cuts := [(2, [true, true, false, false]), (30, [true, true, false, false]), (39, [true, true, true, false])]) ok_X11_sorts 400 H
set_option maxRecDepth 100000 in
theorem vc_X11_sorts_30 {K : AH → Prop} {h : AH}  (l1 : Int32) (H : (((nI 4) ≤ l1) → K h) ∧ (¬ ((nI 4) ≤ l1) → AW M_X11_sorts (.inr (.inl K)) 39 [some (aR 15 0), some (aI l1), some (aI (l1 + (nI 1))), none] [] h 0 0)) : AW M_X11_sorts (.inr (.inl K)) 30 [some (aR 15 0), some (aI l1), none, none] [] h 0 0 := AW_go (cuts := [(2, [true, true, false, false]), (30, [true, true, false, false]), (39, [true, true, true, false])]) ok_X11_sorts 400 H
set_option maxRecDepth 100000 in
theorem vc_X11_sorts_39 {K : AH → Prop} {h : AH}  (l1 : Int32) (l2 : Int32) (H : (((nI 4) ≤ l2) → AW M_X11_sorts (.inr (.inl K)) 30 [some (aR 15 0), some (aI (l1 + (nI 1))), none, none] [] h 0 0) ∧ (¬ ((nI 4) ≤ l2) → inR l1 4 ∧ inR l2 4 ∧ S_X11_most (h.1 20 0 l1.toNatClampNeg) (h.1 20 0 l2.toNatClampNeg) h (fun x2 h1 => inR l1 4 ∧ inR l2 4 ∧ S_X11_least (h1.1 20 0 l1.toNatClampNeg) (h1.1 20 0 l2.toNatClampNeg) h1 (fun x4 h3 => inR l2 4 ∧ inR l1 4 ∧ AW M_X11_sorts (.inr (.inl K)) 39 [some (aR 15 0), some (aI l1), some (aI (l2 + (nI 1))), none] [] (wI (wI h3 20 0 l2.toNatClampNeg x4) 20 0 l1.toNatClampNeg x2) 0 0)))) : AW M_X11_sorts (.inr (.inl K)) 39 [some (aR 15 0), some (aI l1), some (aI l2), none] [] h 0 0 := AW_go (cuts := [(2, [true, true, false, false]), (30, [true, true, false, false]), (39, [true, true, true, false])]) ok_X11_sorts 400 H

theorem st_X11_sorts {h : AH} {K : AH → Prop} {g : Nat → Nat} {i j : Nat} (hij : i < j) (hj : j < 4) (hg : ∀ k, k < 4 → g k < 500000000) (he : ∀ k, k < 4 → h.1 20 0 k = nI (g k)) (k : ∀ h', only 20 0 h h' → (∀ k, k < 4 → h'.1 20 0 k = nI (cx g i j k)) → (∀ k, k < 4 → cx g i j k < 500000000) → AW M_X11_sorts (.inr (.inl K)) 39 [some (aR 15 0), some (aI (nI i)), some (aI (nI (j + 1))), none] [] h' 0 0) : AW M_X11_sorts (.inr (.inl K)) 39 [some (aR 15 0), some (aI (nI i)), some (aI (nI j)), none] [] h 0 0 := by
  refine vc_X11_sorts_39 (nI i) (nI j) ?_
  have g1 := hg i (by omega)
  have g2 := hg j (by omega)
  have e1 := he i (by omega)
  have e2 := he j (by omega)
  unfold S_X11_most S_X11_least
  simp (disch := omega) only [n_inT, n_cl, true_and, n_le, nI_add, e1, e2, most_n, least_n]
  refine ⟨fun q => by omega, fun _ => k _ (only_tr (only_wI _ _ _ _ _) (only_wI _ _ _ _ _)) (fun a ha => ?_) (fun a ha => ?_)⟩
  · unfold cx
    by_cases z : a = i
    · subst z
      rw [if_pos rfl]; first | rw [wI_at] | rw [uI_at]
    · rw [if_neg z]; first | rw [wI_ni z] | rw [uI_ni z]
      by_cases y : a = j
      · subst y
        rw [if_pos rfl]; first | rw [wI_at] | rw [uI_at]
      · rw [if_neg y]; first | rw [wI_ni y] | rw [uI_ni y]
        exact he a ha
  · unfold cx
    have := hg a ha
    split
    · omega
    · split <;> omega
theorem en_X11_sorts {h : AH} {K : AH → Prop} {i : Nat} (hi : i < 4) (k : AW M_X11_sorts (.inr (.inl K)) 30 [some (aR 15 0), some (aI (nI (i + 1))), none, none] [] h 0 0) : AW M_X11_sorts (.inr (.inl K)) 39 [some (aR 15 0), some (aI (nI i)), some (aI (nI 4)), none] [] h 0 0 := by
  refine vc_X11_sorts_39 (nI i) (nI 4) ⟨fun _ => ?_, fun q => absurd (by decide) q⟩
  rw [nI_add]
  exact k
theorem be_X11_sorts {h : AH} {K : AH → Prop} {i : Nat} (hi : i < 4) (k : AW M_X11_sorts (.inr (.inl K)) 39 [some (aR 15 0), some (aI (nI i)), some (aI (nI (i + 1))), none] [] h 0 0) : AW M_X11_sorts (.inr (.inl K)) 30 [some (aR 15 0), some (aI (nI i)), none, none] [] h 0 0 := by
  refine vc_X11_sorts_30 (nI i) ?_
  simp (disch := omega) only [n_le, nI_add]
  exact ⟨fun q => by omega, fun _ => k⟩
theorem lp_X11_sorts {V : Vm} {h0 : AH} {K : AH → Prop} (hr : RV (h0.1 16 0) V) (hb : ∀ n, n < 4 → V 3 n < 500000000) (k : ∀ h', only 20 0 h0 h' → (∀ i, i < 4 → h'.1 20 0 i = nI (srt (V 3) i)) → K h') : ∀ r i h, i + r = 4 → only 20 0 h0 h → (∀ a, a < i → h.1 20 0 a = nI (V 3 a)) → AW M_X11_sorts (.inr (.inl K)) 2 [some (aR 15 0), some (aI (nI i)), none, none] [] h 0 0 := by
  intro r
  induction r with
  | zero =>
    intro i h hi o he
    have : i = 4 := by omega
    subst this
    refine vc_X11_sorts_2 (nI 4) ⟨fun _ => ?_, fun q => absurd (by decide) q⟩
    refine be_X11_sorts (i := 0) (by omega) (st_X11_sorts (i := 0) (j := 1) (by omega) (by omega) hb he (fun h1 o1 e1 b1 => ?_))
    refine st_X11_sorts (i := 0) (j := 2) (by omega) (by omega) b1 e1 (fun h2 o2 e2 b2 => ?_)
    refine st_X11_sorts (i := 0) (j := 3) (by omega) (by omega) b2 e2 (fun h3 o3 e3 b3 => ?_)
    refine en_X11_sorts (i := 0) (by omega) (be_X11_sorts (i := 1) (by omega) ?_)
    refine st_X11_sorts (i := 1) (j := 2) (by omega) (by omega) b3 e3 (fun h4 o4 e4 b4 => ?_)
    refine st_X11_sorts (i := 1) (j := 3) (by omega) (by omega) b4 e4 (fun h5 o5 e5 b5 => ?_)
    refine en_X11_sorts (i := 1) (by omega) (be_X11_sorts (i := 2) (by omega) ?_)
    refine st_X11_sorts (i := 2) (j := 3) (by omega) (by omega) b5 e5 (fun h6 o6 e6 b6 => ?_)
    refine en_X11_sorts (i := 2) (by omega) (be_X11_sorts (i := 3) (by omega) ?_)
    refine en_X11_sorts (i := 3) (by omega) ?_
    refine vc_X11_sorts_30 (nI 4) ⟨fun _ => ?_, fun q => absurd (by decide) q⟩
    exact k h6 (only_tr o (only_tr o1 (only_tr o2 (only_tr o3 (only_tr o4 (only_tr o5 o6)))))) e6
  | succ r ih =>
    intro i h hi o he
    refine vc_X11_sorts_2 (nI i) ?_
    have hr1 := hr
    rw [← o.2 16 0 (by omega)] at hr1
    have e1 := (RVs hr1).2.2.2.1 i (by omega)
    simp (disch := omega) only [n_inT, n_cl, true_and, n_le, nI_add, e1]
    refine ⟨fun q => by omega, fun _ => ih (i + 1) _ (by omega) (only_tr o (only_wI _ _ _ _ _)) (fun a ha => ?_)⟩
    by_cases z : a = i
    · subst z; first | rw [wI_at] | rw [uI_at]
    · first | rw [wI_ni z] | rw [uI_ni z]
      exact he a (by omega)
theorem snd_X11_sorts {h : AH} {K : AH → Prop} (k : S_X11_sorts h K) : AW M_X11_sorts (.inr (.inl K)) 0 [some (aR 15 0), none, none, none] [] h 0 0 := by
  obtain ⟨V, hr, hb, k⟩ := k
  exact vc_X11_sorts (lp_X11_sorts hr hb k 4 0 h (by omega) (only_rfl _ _ _) (fun a q => absurd q (by omega)))
theorem tr_X11_sorts : ∀ (as : List AV) (h : AH) (K : AH → Prop), T_X11_sorts as h K → ∃ (q : Nat) (r : List AV), as = aR 15 q :: r := by
  intro as h K hk
  match as, hk with
  | [.inr (.inr (.inl q0))], hk =>
    obtain ⟨hb, hk⟩ := tif_inv hk
    simp only [Bool.and_eq_true] at hb
    obtain ⟨e0, e1⟩ := hb
    obtain ⟨a0, b0⟩ := q0
    have f0 : a0 = 15 := Nat.eq_of_beq_eq_true e0
    subst f0
    have f1 : b0 = 0 := Nat.eq_of_beq_eq_true e1
    subst f1
    exact ⟨_, _, rfl⟩
theorem tw_X11_sorts : ∀ (as : List AV) (h : AH) (K : AH → Prop), T_X11_sorts as h K → (ini as).length ≤ mNL M_X11_sorts ∧ AW M_X11_sorts (.inr (.inl K)) 0 (initL (mNL M_X11_sorts) as) [] h 0 0 := by
  intro as h K hk
  match as, hk with
  | [.inr (.inr (.inl q0))], hk =>
    obtain ⟨hb, hk⟩ := tif_inv hk
    simp only [Bool.and_eq_true] at hb
    obtain ⟨e0, e1⟩ := hb
    obtain ⟨a0, b0⟩ := q0
    have f0 : a0 = 15 := Nat.eq_of_beq_eq_true e0
    subst f0
    have f1 : b0 = 0 := Nat.eq_of_beq_eq_true e1
    subst f1
    exact ⟨Nat.le_of_ble_eq_true rfl, snd_X11_sorts  hk⟩
theorem cr_RX11_666 : CR RX11 (kIns 666) (1, 2, 44, 0, 0, .inr (.inl T_X11_sorts)) := crV_v (t := 15) (M := M_X11_sorts) (by decide) rfl (by decide) rfl (inG (i := 1253) (w := Cond.methodLink RX11 222 yX11_sorts) (by decide +kernel) rfl) (inG (i := 1255) (w := Cond.instanceMethod yX11_sorts) (by decide +kernel) rfl) (inG (i := 40) (w := Cond.initialized RX11) (by decide +kernel) rfl) (inG (i := 34) (w := Cond.selects RX11 yX11_sorts yX11_sorts) (by decide +kernel) rfl) (inG (i := 1256) (w := Cond.code yX11_sorts cX11_sorts 4 (none)) (by decide +kernel) rfl) ⟨by decide +kernel, by decide +kernel, by decide +kernel⟩ tr_X11_sorts tw_X11_sorts
end
section
/-! ===== the reference: quarrels ===== -/
def rch (w : Nat → Nat) : Nat → Nat
  | 0 => 0
  | k + 1 => if w (rch w k) < w (k + 1) then k + 1 else rch w k
def mx4 (w : Nat → Nat) : Nat := max (max (w 0) (w 1)) (max (w 2) (w 3))
def mn4 (w : Nat → Nat) : Nat := min (min (w 0) (w 1)) (min (w 2) (w 3))
theorem rch_le (w : Nat → Nat) : ∀ k, rch w k ≤ k
  | 0 => Nat.le_refl _
  | k + 1 => by
    have := rch_le w k
    unfold rch
    split <;> omega
/-- what stands over the upper share, what lacks to the lower -/
def ov (w : Nat → Nat) : Nat := sm (fun n => w n - sm w 4 / 4 - 1) 4
def la (w : Nat → Nat) : Nat := sm (fun n => sm w 4 / 4 - w n) 4
def mvS (s : Nat → Nat) (t i : Nat) : Nat := s i - t / 4 - if t % 4 ≤ i then 0 else 1
theorem cx_p (f : Nat → Nat) {x y : Nat} : f (max x y) + f (min x y) = f x + f y := by
  by_cases q : x ≤ y
  · rw [Nat.max_eq_right q, Nat.min_eq_left q, Nat.add_comm]
  · rw [Nat.max_eq_left (by omega), Nat.min_eq_right (by omega)]
theorem cx_s (f g : Nat → Nat) {i j : Nat} (hij : i < j) (hj : j < 4) : sm (fun k => f (cx g i j k)) 4 = sm (fun k => f (g k)) 4 := by
  have hp := cx_p f (x := g i) (y := g j)
  have h1 : j = 1 ∨ j = 2 ∨ j = 3 := by omega
  have h0 : i = 0 ∨ i = 1 ∨ i = 2 := by omega
  rcases h1 with rfl | rfl | rfl <;> rcases h0 with rfl | rfl | rfl <;> first | omega | (simp [sm, cx]; omega)
theorem srt_s (f w : Nat → Nat) : sm (fun k => f (srt w k)) 4 = sm (fun k => f (w k)) 4 := by
  unfold srt
  rw [cx_s f _ (by omega) (by omega), cx_s f _ (by omega) (by omega), cx_s f _ (by omega) (by omega), cx_s f _ (by omega) (by omega), cx_s f _ (by omega) (by omega), cx_s f _ (by omega) (by omega)]
theorem sm4 (f : Nat → Nat) : sm f 4 = f 0 + f 1 + f 2 + f 3 := by simp [sm]
theorem srt_e (w : Nat → Nat) : ∃ b1 c1 d1 b2 c2 d2, srt w 0 = mx4 w ∧ (srt w 0 ≥ b1 ∧ srt w 0 ≥ c1 ∧ srt w 0 ≥ d1) ∧ b2 = max b1 c1 ∧ c2 = min b1 c1 ∧ srt w 1 = max b2 d1 ∧ d2 = min b2 d1 ∧ srt w 2 = max c2 d2 ∧ srt w 3 = min c2 d2 ∧ min (srt w 0) (min (min b1 c1) d1) = mn4 w := by
  refine ⟨min (w 0) (w 1), min (max (w 0) (w 1)) (w 2), min (max (max (w 0) (w 1)) (w 2)) (w 3), _, _, _, ?_, ?_, rfl, rfl, ?_, rfl, ?_, ?_, ?_⟩
  · simp [srt, cx, mx4]; try omega
  · have : srt w 0 = max (max (max (w 0) (w 1)) (w 2)) (w 3) := by simp [srt, cx]
    rw [this]; omega
  · simp [srt, cx]
  · simp [srt, cx]
  · simp [srt, cx]
  · have : srt w 0 = max (max (max (w 0) (w 1)) (w 2)) (w 3) := by simp [srt, cx]
    rw [this]; unfold mn4; omega
theorem srt_o (w : Nat → Nat) : srt w 0 = mx4 w ∧ srt w 3 = mn4 w ∧ srt w 1 ≤ srt w 0 ∧ srt w 2 ≤ srt w 1 ∧ srt w 3 ≤ srt w 2 := by
  obtain ⟨b1, c1, d1, b2, c2, d2, h1, h2, h3, h4, h5, h6, h7, h8, h9⟩ := srt_e w
  refine ⟨h1, ?_, ?_, ?_, ?_⟩ <;> omega
theorem mv_e {a b c d t q r : Nat} (h1 : b ≤ a) (h2 : c ≤ b) (h3 : d ≤ c) (ht : a + b + c + d = t) (hq : t = 4 * q + r) (hr : r < 4) : (a - q - if r ≤ 0 then 0 else 1) + (b - q - if r ≤ 1 then 0 else 1) + (c - q - if r ≤ 2 then 0 else 1) + (d - q - if r ≤ 3 then 0 else 1) = max ((a - q - 1) + (b - q - 1) + (c - q - 1) + (d - q - 1)) ((q - a) + (q - b) + (q - c) + (q - d)) := by
  have : r = 0 ∨ r = 1 ∨ r = 2 ∨ r = 3 := by omega
  by_cases z1 : a ≤ q <;> by_cases z2 : b ≤ q <;> by_cases z3 : c ≤ q <;> by_cases z4 : d ≤ q <;> rcases this with rfl | rfl | rfl | rfl <;> simp <;> omega
theorem mv_s (w : Nat → Nat) : sm (mvS (srt w) (sm w 4)) 4 = max (ov w) (la w) := by
  obtain ⟨h1, h2, h3, h4, h5⟩ := srt_o w
  have e0 := srt_s (fun x => x) w
  have e1 := srt_s (fun x => x - sm w 4 / 4 - 1) w
  have e2 := srt_s (fun x => sm w 4 / 4 - x) w
  have := mv_e h3 h4 h5 (t := sm w 4) (q := sm w 4 / 4) (r := sm w 4 % 4) (by rw [sm4] at e0; exact e0) (by omega) (by omega)
  rw [sm4] at e1 e2
  unfold ov la
  rw [← e1, ← e2, ← this, sm4]
  rfl
def R_quarrel (V : Vm) (w : Int32) : Int32 := if ¬ (nI 0 ≤ w ∧ w ≤ nI 2) then iI (-1) else if w = nI 1 then nI (rch (V 3) 3) else if w = 0 then nI (mx4 (V 3) - mn4 (V 3)) else nI (max (ov (V 3)) (la (V 3)))
def S_X11_quarrel (w : Int32) (h : AH) (K : Int32 → AH → Prop) : Prop := ∃ V, RV (h.1 16 0) V ∧ WF V ∧ (∀ n, n < 4 → V 3 n < 500000000) ∧ ∀ h', keepM h h' → K (R_quarrel V w) h'
def T_X11_quarrel : List AV → AH → (Int32 → AH → Prop) → Prop := fun as h K => match as with
  | [.inr (.inr (.inl q0)), .inl q1] => tif (Nat.beq q0.1 15 && Nat.beq q0.2 0) (S_X11_quarrel q1 h K)
  | _ => False

def M_X11_quarrel : MI := (RX11, cX11_quarrel, 6, [(0, .iload_n 1, []), (1, .iconst 0, []), (2, .iconst 2, []), (3, .invokestatic 53, []), (6, .ifCond .ne 5, [11]), (9, .iconst (-1), []), (10, .ireturn, []), (11, .iconst 0, []), (12, .istore_n 2, []), (13, .iconst 1, []), (14, .istore_n 3, []), (15, .iload_n 3, []), (16, .iconst 4, []), (17, .if_icmp .ge 32, [49]), (20, .aload_n 0, []), (21, .getfield 9, []), (24, .bipush 44, []), (26, .iload_n 3, []), (27, .iadd, []), (28, .iaload, []), (29, .aload_n 0, []), (30, .getfield 9, []), (33, .bipush 44, []), (35, .iload_n 2, []), (36, .iadd, []), (37, .iaload, []), (38, .if_icmp .le 5, [43]), (41, .iload_n 3, []), (42, .istore_n 2, []), (43, .iinc 3 1, []), (46, .goto (-31), [15]), (49, .iload_n 1, []), (50, .iconst 1, []), (51, .if_icmp .ne 5, [56]), (54, .iload_n 2, []), (55, .ireturn, []), (56, .aload_n 0, []), (57, .invokevirtual 222, []), (60, .iload_n 1, []), (61, .ifCond .ne 17, [78]), (64, .aload_n 0, []), (65, .getfield 32, []), (68, .iconst 0, []), (69, .iaload, []), (70, .aload_n 0, []), (71, .getfield 32, []), (74, .iconst 3, []), (75, .iaload, []), (76, .isub, []), (77, .ireturn, []), (78, .iconst 0, []), (79, .istore_n 3, []), (80, .iconst 0, []), (81, .istore 4, []), (83, .iload 4, []), (85, .iconst 4, []), (86, .if_icmp .ge 19, [105]), (89, .iload_n 3, []), (90, .aload_n 0, []), (91, .getfield 32, []), (94, .iload 4, []), (96, .iaload, []), (97, .iadd, []), (98, .istore_n 3, []), (99, .iinc 4 1, []), (102, .goto (-19), [83]), (105, .iconst 0, []), (106, .istore 4, []), (108, .iconst 0, []), (109, .istore 5, []), (111, .iload 5, []), (113, .iconst 4, []), (114, .if_icmp .ge 43, [157]), (117, .iload 4, []), (119, .iconst 0, []), (120, .aload_n 0, []), (121, .getfield 32, []), (124, .iload 5, []), (126, .iaload, []), (127, .iload_n 3, []), (128, .iconst 4, []), (129, .idiv, []), (130, .isub, []), (131, .iload 5, []), (133, .iload_n 3, []), (134, .iconst 4, []), (135, .irem, []), (136, .if_icmp .ge 7, [143]), (139, .iconst 1, []), (140, .goto 4, [144]), (143, .iconst 0, []), (144, .isub, []), (145, .invokestatic 88, []), (148, .iadd, []), (149, .istore 4, []), (151, .iinc 5 1, []), (154, .goto (-43), [111]), (157, .iload 4, []), (159, .ireturn, [])], [(9, (15, 0, 1, 16, 0)), (32, (15, 14, 1, 20, 0))], [], [], [(160, (3, 1, 22, 0, 0, .inl T_X11_isIn)), (666, (1, 2, 44, 0, 0, .inr (.inl T_X11_sorts))), (265, (2, 1, 21, 0, 0, .inl T_X11_most))], 2, 44, 0, 0)
theorem ok_X11_quarrel : MOK M_X11_quarrel := ⟨by decide +kernel, List.forall_mem_cons.mpr ⟨fl_RX11_9, List.forall_mem_cons.mpr ⟨fl_RX11_32, fun _ h => absurd h List.not_mem_nil⟩⟩, fun _ h => absurd h List.not_mem_nil, fun _ h => absurd h List.not_mem_nil, List.forall_mem_cons.mpr ⟨⟨Nat.le_of_ble_eq_true rfl, Nat.le_of_ble_eq_true rfl, cr_RX11_160⟩, List.forall_mem_cons.mpr ⟨⟨Nat.le_of_ble_eq_true rfl, Nat.le_of_ble_eq_true rfl, cr_RX11_666⟩, List.forall_mem_cons.mpr ⟨⟨Nat.le_of_ble_eq_true rfl, Nat.le_of_ble_eq_true rfl, cr_RX11_265⟩, fun _ h => absurd h List.not_mem_nil⟩⟩⟩⟩
set_option maxRecDepth 100000 in
theorem vc_X11_quarrel {K : Int32 → AH → Prop} {h : AH} (p1 : Int32) (H : S_X11_isIn p1 (nI 0) (nI 2) h (fun x2 h1 => ((¬ x2 = 0) → AW M_X11_quarrel (.inl K) 15 [some (aR 15 0), some (aI p1), some (aI (nI 0)), some (aI (nI 1)), none, none] [] h1 0 0) ∧ (¬ (¬ x2 = 0) → K (iI (-1)) h1))) : AW M_X11_quarrel (.inl K) 0 [some (aR 15 0), some (aI p1), none, none, none, none] [] h 0 0 := AW_go (cuts := [(15, [true, true, true, true, false, false]), (83, [true, false, false, true, true, false]), (111, [true, false, false, true, true, true])]) ok_X11_quarrel 400 H
set_option maxRecDepth 100000 in
theorem vc_X11_quarrel_15 {K : Int32 → AH → Prop} {h : AH}  (l1 : Int32) (l2 : Int32) (l3 : Int32) (H : (((nI 4) ≤ l3) → ((¬ l1 = (nI 1)) → S_X11_sorts h (fun h1 => ((¬ l1 = 0) → AW M_X11_quarrel (.inl K) 83 [some (aR 15 0), none, none, some (aI (nI 0)), some (aI (nI 0)), none] [] h1 0 0) ∧ (¬ (¬ l1 = 0) → inR (nI 0) 4 ∧ inR (nI 3) 4 ∧ K ((h1.1 20 0 (nI 0).toNatClampNeg) - (h1.1 20 0 (nI 3).toNatClampNeg)) h1))) ∧ (¬ (¬ l1 = (nI 1)) → K l2 h)) ∧ (¬ ((nI 4) ≤ l3) → inR ((nI 44) + l3) 62 ∧ inR ((nI 44) + l2) 62 ∧ (((h.1 16 0 ((nI 44) + l3).toNatClampNeg) ≤ (h.1 16 0 ((nI 44) + l2).toNatClampNeg)) → AW M_X11_quarrel (.inl K) 15 [some (aR 15 0), some (aI l1), some (aI l2), some (aI (l3 + (nI 1))), none, none] [] h 0 0) ∧ (¬ ((h.1 16 0 ((nI 44) + l3).toNatClampNeg) ≤ (h.1 16 0 ((nI 44) + l2).toNatClampNeg)) → AW M_X11_quarrel (.inl K) 15 [some (aR 15 0), some (aI l1), some (aI l3), some (aI (l3 + (nI 1))), none, none] [] h 0 0))) : AW M_X11_quarrel (.inl K) 15 [some (aR 15 0), some (aI l1), some (aI l2), some (aI l3), none, none] [] h 0 0 := AW_go (cuts := [(15, [true, true, true, true, false, false]), (83, [true, false, false, true, true, false]), (111, [true, false, false, true, true, true])]) ok_X11_quarrel 400 H
set_option maxRecDepth 100000 in
theorem vc_X11_quarrel_83 {K : Int32 → AH → Prop} {h : AH}  (l3 : Int32) (l4 : Int32) (H : (((nI 4) ≤ l4) → AW M_X11_quarrel (.inl K) 111 [some (aR 15 0), none, none, some (aI l3), some (aI (nI 0)), some (aI (nI 0))] [] h 0 0) ∧ (¬ ((nI 4) ≤ l4) → inR l4 4 ∧ AW M_X11_quarrel (.inl K) 83 [some (aR 15 0), none, none, some (aI (l3 + (h.1 20 0 l4.toNatClampNeg))), some (aI (l4 + (nI 1))), none] [] h 0 0)) : AW M_X11_quarrel (.inl K) 83 [some (aR 15 0), none, none, some (aI l3), some (aI l4), none] [] h 0 0 := AW_go (cuts := [(15, [true, true, true, true, false, false]), (83, [true, false, false, true, true, false]), (111, [true, false, false, true, true, true])]) ok_X11_quarrel 400 H
set_option maxRecDepth 100000 in
theorem vc_X11_quarrel_111 {K : Int32 → AH → Prop} {h : AH}  (l3 : Int32) (l4 : Int32) (l5 : Int32) (H : (((nI 4) ≤ l5) → K l4 h) ∧ (¬ ((nI 4) ≤ l5) → inR l5 4 ∧ (¬ (nI 4) = 0) ∧ (¬ (nI 4) = 0) ∧ (((l3 - l3 / (nI 4) * (nI 4)) ≤ l5) → S_X11_most (nI 0) (((h.1 20 0 l5.toNatClampNeg) - (l3 / (nI 4))) - (nI 0)) h (fun x2 h1 => AW M_X11_quarrel (.inl K) 111 [some (aR 15 0), none, none, some (aI l3), some (aI (l4 + x2)), some (aI (l5 + (nI 1)))] [] h1 0 0)) ∧ (¬ ((l3 - l3 / (nI 4) * (nI 4)) ≤ l5) → S_X11_most (nI 0) (((h.1 20 0 l5.toNatClampNeg) - (l3 / (nI 4))) - (nI 1)) h (fun x4 h3 => AW M_X11_quarrel (.inl K) 111 [some (aR 15 0), none, none, some (aI l3), some (aI (l4 + x4)), some (aI (l5 + (nI 1)))] [] h3 0 0)))) : AW M_X11_quarrel (.inl K) 111 [some (aR 15 0), none, none, some (aI l3), some (aI l4), some (aI l5)] [] h 0 0 := AW_go (cuts := [(15, [true, true, true, true, false, false]), (83, [true, false, false, true, true, false]), (111, [true, false, false, true, true, true])]) ok_X11_quarrel 400 H

theorem sm_c {f g : Nat → Nat} : ∀ n, (∀ i, i < n → f i = g i) → sm f n = sm g n
  | 0, _ => rfl
  | n + 1, h => by unfold sm; rw [sm_c n (fun i q => h i (by omega)), h n (by omega)]
theorem sm_le {f : Nat → Nat} {B : Nat} : ∀ n, (∀ i, i < n → f i ≤ B) → sm f n ≤ B * n
  | 0, _ => Nat.le_refl _
  | n + 1, h => by
    have := sm_le (f := f) (B := B) n (fun i q => h i (by omega))
    have := h n (by omega)
    unfold sm
    rw [Nat.mul_succ]
    omega
theorem most_0 {a b c : Nat} (ha : a < 500000001) (hb : b < 500000001) (hc : c ≤ 1) : (if nI a - nI b - nI c < nI 0 then nI 0 else nI a - nI b - nI c) = nI (a - b - c) := by
  rw [n_subI, nI_iI c, i_sub, show nI 0 = iI 0 by rfl]
  by_cases q : (a : Int) - b - c < 0
  · rw [if_pos ((i_lt (by omega) (by omega) (by omega) (by omega)).mpr q), show a - b - c = 0 by omega]
    rfl
  · rw [if_neg (fun z => q ((i_lt (by omega) (by omega) (by omega) (by omega)).mp z)), nI_iI]
    congr 1
    omega
theorem lp3_X11_quarrel {g : Nat → Nat} {t : Nat} {h : AH} {K : Int32 → AH → Prop} (hg : ∀ i, i < 4 → g i < 500000000) (ht : t < 2000000000) (he : ∀ i, i < 4 → h.1 20 0 i = nI (g i)) (k : K (nI (sm (mvS g t) 4)) h) : ∀ r i, i + r = 4 → AW M_X11_quarrel (.inl K) 111 [some (aR 15 0), none, none, some (aI (nI t)), some (aI (nI (sm (mvS g t) i))), some (aI (nI i))] [] h 0 0 := by
  intro r
  induction r with
  | zero =>
    intro i hi
    have : i = 4 := by omega
    subst this
    exact vc_X11_quarrel_111 _ _ (nI 4) ⟨fun _ => k, fun q => absurd (by decide) q⟩
  | succ r ih =>
    intro i hi
    refine vc_X11_quarrel_111 _ _ (nI i) ?_
    have ih := ih (i + 1) (by omega)
    have hm : ∀ j, j < 4 → mvS g t j ≤ 500000000 := fun j hj => by
      have := hg j hj
      unfold mvS
      omega
    have hs : sm (mvS g t) i ≤ 500000000 * i := sm_le i (fun j hj => hm j (by omega))
    have g1 := hg i (by omega)
    have q1 : t / 4 < 500000001 := by omega
    rw [n_rem (show t < 2147483648 by omega) (by omega) (by omega), n_div (show t < 2147483648 by omega) (by omega) (by omega)]
    unfold S_X11_most
    dsimp only
    simp (disch := omega) only [n_inT, n_cl, true_and, n_le, nI_add, he i (by omega), most_0]
    refine ⟨fun q => by omega, fun _ => ⟨by decide, by decide, fun q => ?_, fun q => ?_⟩⟩
    · rw [sm, show mvS g t i = g i - t / 4 - 0 by unfold mvS; rw [if_pos q]] at ih
      exact ih
    · rw [sm, show mvS g t i = g i - t / 4 - 1 by unfold mvS; rw [if_neg q]] at ih
      exact ih
theorem lp2_X11_quarrel {g : Nat → Nat} {h : AH} {K : Int32 → AH → Prop} (hg : ∀ i, i < 4 → g i < 500000000) (he : ∀ i, i < 4 → h.1 20 0 i = nI (g i)) (k : K (nI (sm (mvS g (sm g 4)) 4)) h) : ∀ r i, i + r = 4 → AW M_X11_quarrel (.inl K) 83 [some (aR 15 0), none, none, some (aI (nI (sm g i))), some (aI (nI i)), none] [] h 0 0 := by
  intro r
  induction r with
  | zero =>
    intro i hi
    have : i = 4 := by omega
    subst this
    have h4 := sm4 g
    have := hg 0 (by omega)
    have := hg 1 (by omega)
    have := hg 2 (by omega)
    have := hg 3 (by omega)
    exact vc_X11_quarrel_83 _ (nI 4) ⟨fun _ => lp3_X11_quarrel hg (by omega) he k 4 0 (by omega), fun q => absurd (by decide) q⟩
  | succ r ih =>
    intro i hi
    refine vc_X11_quarrel_83 _ (nI i) ?_
    have ih := ih (i + 1) (by omega)
    simp (disch := omega) only [n_inT, n_cl, true_and, n_le, nI_add, he i (by omega)]
    exact ⟨fun q => by omega, fun _ => ih⟩
theorem lp_X11_quarrel {V : Vm} {w : Int32} {h : AH} {K : Int32 → AH → Prop} (hr : RV (h.1 16 0) V) (hv : WF V) (hb : ∀ n, n < 4 → V 3 n < 500000000) (k : ∀ h', keepM h h' → K (if w = nI 1 then nI (rch (V 3) 3) else if w = 0 then nI (mx4 (V 3) - mn4 (V 3)) else nI (max (ov (V 3)) (la (V 3)))) h') : ∀ r i, i + r = 3 → AW M_X11_quarrel (.inl K) 15 [some (aR 15 0), some (aI w), some (aI (nI (rch (V 3) i))), some (aI (nI (i + 1))), none, none] [] h 0 0 := by
  intro r
  induction r with
  | zero =>
    intro i hi
    have : i = 3 := by omega
    subst this
    refine vc_X11_quarrel_15 w _ (nI 4) ⟨fun _ => ⟨fun q => ⟨V, hr, hb, fun h1 o1 e1 => ?_⟩, fun q => ?_⟩, fun q => absurd (by decide) q⟩
    · have k := k h1 ⟨o1.1, fun a b i z => by rw [o1.2 a b (by omega)]⟩
      rw [if_neg q] at k
      obtain ⟨s1, s2, s3, s4, s5⟩ := srt_o (V 3)
      have hg : ∀ i, i < 4 → srt (V 3) i < 500000000 := by
        have b0 := hb 0 (by omega)
        have b1 := hb 1 (by omega)
        have b2 := hb 2 (by omega)
        have b3 := hb 3 (by omega)
        have : mx4 (V 3) < 500000000 := by unfold mx4; omega
        intro i hi
        have : i = 0 ∨ i = 1 ∨ i = 2 ∨ i = 3 := by omega
        rcases this with rfl | rfl | rfl | rfl <;> omega
      refine ⟨fun z => ?_, fun z => ⟨by simp (disch := omega) only [n_inT], by simp (disch := omega) only [n_inT], ?_⟩⟩
      · rw [if_neg z] at k
        refine lp2_X11_quarrel hg e1 ?_ 4 0 (by omega)
        rw [show sm (srt (V 3)) 4 = sm (V 3) 4 from srt_s (fun x => x) (V 3), mv_s]
        exact k
      · rw [if_pos (Decidable.not_not.mp z)] at k
        have a0 := e1 0 (by omega)
        have a3 := e1 3 (by omega)
        simp (disch := omega) only [n_cl, a0, a3]
        rw [n_sub (by omega), s1, s2]
        exact k
    · have k := k h (keepM_rfl h)
      rw [if_pos (Decidable.not_not.mp q)] at k
      exact k
  | succ r ih =>
    intro i hi
    refine vc_X11_quarrel_15 w _ (nI (i + 1)) ?_
    have ih := ih (i + 1) (by omega)
    have hl := rch_le (V 3) i
    have e1 := (RVs hr).2.2.2.1 (i + 1) (by omega)
    have e2 := (RVs hr).2.2.2.1 (rch (V 3) i) (by omega)
    have b1 := hb (i + 1) (by omega)
    have b2 := hb (rch (V 3) i) (by omega)
    simp (disch := omega) only [n_inT, n_cl, true_and, n_le, nI_add, e1, e2]
    rw [rch] at ih
    refine ⟨fun q => by omega, fun _ => ⟨fun q => ?_, fun q => ?_⟩⟩
    · rw [if_neg (by omega)] at ih; exact ih
    · rw [if_pos (by omega)] at ih; exact ih
theorem snd_X11_quarrel (w : Int32) {h : AH} {K : Int32 → AH → Prop} (k : S_X11_quarrel w h K) : AW M_X11_quarrel (.inl K) 0 [some (aR 15 0), some (aI w), none, none, none, none] [] h 0 0 := by
  obtain ⟨V, hr, hv, hb, k⟩ := k
  refine vc_X11_quarrel w ?_
  unfold S_X11_isIn
  simp only [if10_eq]
  unfold R_quarrel at k
  refine ⟨fun q => ?_, fun q => ?_⟩
  · rw [if_neg q] at k
    exact lp_X11_quarrel hr hv hb k 3 0 (by omega)
  · rw [if_pos (fun z => q (fun z2 => z2 z))] at k
    exact k h (keepM_rfl h)
theorem tr_X11_quarrel : ∀ (as : List AV) (h : AH) (K : Int32 → AH → Prop), T_X11_quarrel as h K → ∃ (q : Nat) (r : List AV), as = aR 15 q :: r := by
  intro as h K hk
  match as, hk with
  | [.inr (.inr (.inl q0)), .inl q1], hk =>
    obtain ⟨hb, hk⟩ := tif_inv hk
    simp only [Bool.and_eq_true] at hb
    obtain ⟨e0, e1⟩ := hb
    obtain ⟨a0, b0⟩ := q0
    have f0 : a0 = 15 := Nat.eq_of_beq_eq_true e0
    subst f0
    have f1 : b0 = 0 := Nat.eq_of_beq_eq_true e1
    subst f1
    exact ⟨_, _, rfl⟩
theorem tw_X11_quarrel : ∀ (as : List AV) (h : AH) (K : Int32 → AH → Prop), T_X11_quarrel as h K → (ini as).length ≤ mNL M_X11_quarrel ∧ AW M_X11_quarrel (.inl K) 0 (initL (mNL M_X11_quarrel) as) [] h 0 0 := by
  intro as h K hk
  match as, hk with
  | [.inr (.inr (.inl q0)), .inl q1], hk =>
    obtain ⟨hb, hk⟩ := tif_inv hk
    simp only [Bool.and_eq_true] at hb
    obtain ⟨e0, e1⟩ := hb
    obtain ⟨a0, b0⟩ := q0
    have f0 : a0 = 15 := Nat.eq_of_beq_eq_true e0
    subst f0
    have f1 : b0 = 0 := Nat.eq_of_beq_eq_true e1
    subst f1
    exact ⟨Nat.le_of_ble_eq_true rfl, snd_X11_quarrel q1 hk⟩
end
section
/-! ===== the reference: reading a text ===== -/
/-- the byte at a place of a text, or -1 behind its end -/
def hb (E : Nat → Int32) (sz p : Nat) : Int32 := if p < sz then E p &&& nI 255 else iI (-1)
abbrev dgt (x : Int32) : Prop := nI 48 ≤ x ∧ x ≤ nI 57
theorem in_d {x : Int32} : dgt x ↔ ∃ k, k ≤ 9 ∧ x = nI (48 + k) := by
  constructor
  · intro ⟨h1, h2⟩
    obtain ⟨k, hk, rfl⟩ := n_of (n := 57) (by omega) (Int32.le_trans (show nI 0 ≤ nI 48 by decide) h1) h2
    have := (n_le (by omega) (by omega)).mp h1
    exact ⟨k - 48, by omega, by congr 1; omega⟩
  · rintro ⟨k, hk, rfl⟩
    exact ⟨(n_le (by omega) (by omega)).mpr (by omega), (n_le (by omega) (by omega)).mpr (by omega)⟩
/-- digits read: whether all were there, the place behind, the number -/
def rd (H : Nat → Int32) : Nat → Nat → Nat → Bool × Nat × Nat
  | 0, p, v => (true, p, v)
  | n + 1, p, v => if dgt (H p) then rd H n (p + 1) (10 * v + (nN (H p) - 48)) else (false, p, v)
theorem rd_p {H : Nat → Int32} : ∀ n p v, p ≤ (rd H n p v).2.1 ∧ (rd H n p v).2.1 ≤ p + n
  | 0, p, v => ⟨Nat.le_refl _, Nat.le_refl _⟩
  | n + 1, p, v => by
    unfold rd
    split
    · have := rd_p (H := H) n (p + 1) (10 * v + (nN (H p) - 48))
      omega
    · exact ⟨Nat.le_refl _, Nat.le_add_right _ _⟩
def txt (h : AH) (E : Nat → Int32) (sz p a : Nat) : Prop := h.1 15 0 6 = nI p ∧ h.1 15 0 7 = nI a ∧ h.1 15 0 8 = nI sz ∧ p ≤ 200 ∧ sz ≤ 100 ∧ a ≤ 700 ∧ ∀ i, i < sz → h.1 22 0 (a + i) = E i
/-- only the numbers read and the place have changed -/
def keepN (h h' : AH) : Prop := h'.2 = h.2 ∧ ∀ t p i, ¬ (t = 19 ∨ (t = 15 ∧ i = 6)) → h'.1 t p i = h.1 t p i
theorem keepN_rfl (h : AH) : keepN h h := ⟨rfl, fun _ _ _ _ => rfl⟩
theorem keepN_tr {h h1 h2 : AH} (a : keepN h h1) (b : keepN h1 h2) : keepN h h2 := ⟨b.1.trans a.1, fun x y i q => (b.2 x y i q).trans (a.2 x y i q)⟩
theorem keepN_6 {h : AH} {x : Int32} : keepN h (wI h 15 0 6 x) := ⟨rfl, fun a b j q => by rw [wI_get, if_neg (fun e => q (Or.inr ⟨e.1, e.2.2⟩))]⟩
theorem keepN_19 {h : AH} {i : Nat} {x : Int32} : keepN h (wI h 19 0 i x) := ⟨rfl, fun a b j q => by rw [wI_get, if_neg (fun e => q (Or.inl e.1))]⟩
theorem keepN_M {h h1 : AH} (a : keepN h h1) : keepM h h1 := ⟨a.1, fun x y i q => a.2 x y i (fun e => q (by omega))⟩
theorem txt_k {h h' : AH} {E : Nat → Int32} {sz p q a : Nat} (k : keepN h h') (t : txt h E sz p a) (e : h'.1 15 0 6 = nI q) (hq : q ≤ 200) : txt h' E sz q a := by
  obtain ⟨t1, t2, t3, t4, t5, t6, t7⟩ := t
  exact ⟨e, by rw [k.2 _ _ _ (by omega)]; exact t2, by rw [k.2 _ _ _ (by omega)]; exact t3, hq, t5, t6, fun i hi => by rw [k.2 _ _ _ (by omega)]; exact t7 i hi⟩
def S_X11_here (h : AH) (K : Int32 → AH → Prop) : Prop := ∃ E sz p a, txt h E sz p a ∧ K (hb E sz p) h
def T_X11_here : List AV → AH → (Int32 → AH → Prop) → Prop := fun as h K => match as with
  | [.inr (.inr (.inl q0))] => tif (Nat.beq q0.1 15 && Nat.beq q0.2 0) (S_X11_here h K)
  | _ => False

def M_X11_here : MI := (RX11, cX11_here, 1, [(0, .aload_n 0, []), (1, .getfield 102, []), (4, .aload_n 0, []), (5, .getfield 106, []), (8, .if_icmp .ge 24, [32]), (11, .aload_n 0, []), (12, .getfield 50, []), (15, .aload_n 0, []), (16, .getfield 109, []), (19, .aload_n 0, []), (20, .getfield 102, []), (23, .iadd, []), (24, .iaload, []), (25, .sipush 255, []), (28, .iand, []), (29, .goto 4, [33]), (32, .iconst (-1), []), (33, .ireturn, [])], [(102, (15, 6, 0, 0, 0)), (106, (15, 8, 0, 0, 0)), (50, (15, 21, 1, 22, 0)), (109, (15, 7, 0, 0, 0))], [], [], [], 0, 0, 0, 0)
theorem ok_X11_here : MOK M_X11_here := ⟨by decide +kernel, List.forall_mem_cons.mpr ⟨fl_RX11_102, List.forall_mem_cons.mpr ⟨fl_RX11_106, List.forall_mem_cons.mpr ⟨fl_RX11_50, List.forall_mem_cons.mpr ⟨fl_RX11_109, fun _ h => absurd h List.not_mem_nil⟩⟩⟩⟩, fun _ h => absurd h List.not_mem_nil, fun _ h => absurd h List.not_mem_nil, fun _ h => absurd h List.not_mem_nil⟩
set_option maxRecDepth 100000 in
theorem vc_X11_here {K : Int32 → AH → Prop} {h : AH}  (H : (((h.1 15 0 8) ≤ (h.1 15 0 6)) → K (iI (-1)) h) ∧ (¬ ((h.1 15 0 8) ≤ (h.1 15 0 6)) → inR ((h.1 15 0 7) + (h.1 15 0 6)) 800 ∧ K ((h.1 22 0 ((h.1 15 0 7) + (h.1 15 0 6)).toNatClampNeg) &&& (nI 255)) h)) : AW M_X11_here (.inl K) 0 [some (aR 15 0)] [] h 0 0 := AW_go (cuts := []) ok_X11_here 400 H

theorem snd_X11_here {h : AH} {K : Int32 → AH → Prop} (k : S_X11_here h K) : AW M_X11_here (.inl K) 0 [some (aR 15 0)] [] h 0 0 := by
  obtain ⟨E, sz, p, a, ⟨t1, t2, t3, t4, t5, t6, t7⟩, k⟩ := k
  refine vc_X11_here ?_
  unfold hb at k
  rw [t1, t2, t3, n_le (by omega) (by omega)]
  refine ⟨fun q => ?_, fun q => ?_⟩
  · rw [if_neg (by omega)] at k; exact k
  · rw [if_pos (by omega)] at k
    simp (disch := omega) only [nI_add, n_inT, n_cl, true_and]
    rw [t7 p (by omega)]
    exact k
theorem tr_X11_here : ∀ (as : List AV) (h : AH) (K : Int32 → AH → Prop), T_X11_here as h K → ∃ (q : Nat) (r : List AV), as = aR 15 q :: r := by
  intro as h K hk
  match as, hk with
  | [.inr (.inr (.inl q0))], hk =>
    obtain ⟨hb, hk⟩ := tif_inv hk
    simp only [Bool.and_eq_true] at hb
    obtain ⟨e0, e1⟩ := hb
    obtain ⟨a0, b0⟩ := q0
    have f0 : a0 = 15 := Nat.eq_of_beq_eq_true e0
    subst f0
    have f1 : b0 = 0 := Nat.eq_of_beq_eq_true e1
    subst f1
    exact ⟨_, _, rfl⟩
theorem tw_X11_here : ∀ (as : List AV) (h : AH) (K : Int32 → AH → Prop), T_X11_here as h K → (ini as).length ≤ mNL M_X11_here ∧ AW M_X11_here (.inl K) 0 (initL (mNL M_X11_here) as) [] h 0 0 := by
  intro as h K hk
  match as, hk with
  | [.inr (.inr (.inl q0))], hk =>
    obtain ⟨hb, hk⟩ := tif_inv hk
    simp only [Bool.and_eq_true] at hb
    obtain ⟨e0, e1⟩ := hb
    obtain ⟨a0, b0⟩ := q0
    have f0 : a0 = 15 := Nat.eq_of_beq_eq_true e0
    subst f0
    have f1 : b0 = 0 := Nat.eq_of_beq_eq_true e1
    subst f1
    exact ⟨Nat.le_of_ble_eq_true rfl, snd_X11_here  hk⟩
theorem cr_RX11_336 : CR RX11 (kIns 336) (1, 1, 20, 0, 0, .inl T_X11_here) := crV_i (t := 15) (M := M_X11_here) (by decide) rfl (by decide) rfl (inG (i := 1003) (w := Cond.methodLink RX11 112 yX11_here) (by decide +kernel) rfl) (inG (i := 1005) (w := Cond.instanceMethod yX11_here) (by decide +kernel) rfl) (inG (i := 40) (w := Cond.initialized RX11) (by decide +kernel) rfl) (inG (i := 17) (w := Cond.selects RX11 yX11_here yX11_here) (by decide +kernel) rfl) (inG (i := 1006) (w := Cond.code yX11_here cX11_here 1 (some .int)) (by decide +kernel) rfl) ⟨by decide +kernel, by decide +kernel, by decide +kernel⟩ tr_X11_here tw_X11_here

def S_X11_readsNumber (k n : Int32) (h : AH) (K : Int32 → AH → Prop) : Prop := ∃ E sz p a k0 n0, txt h E sz p a ∧ p ≤ 150 ∧ k0 < 4 ∧ k = nI k0 ∧ n0 ≤ 2 ∧ n = nI n0 ∧ ∀ h', keepN h h' → txt h' E sz (rd (hb E sz) n0 p 0).2.1 a → h'.1 19 0 k0 = nI (rd (hb E sz) n0 p 0).2.2 → (∀ j, j ≠ k0 → h'.1 19 0 j = h.1 19 0 j) → K (if (rd (hb E sz) n0 p 0).1 = true then nI 1 else nI 0) h'
def T_X11_readsNumber : List AV → AH → (Int32 → AH → Prop) → Prop := fun as h K => match as with
  | [.inr (.inr (.inl q0)), .inl q1, .inl q2] => tif (Nat.beq q0.1 15 && Nat.beq q0.2 0) (S_X11_readsNumber q1 q2 h K)
  | _ => False

def M_X11_readsNumber : MI := (RX11, cX11_readsNumber, 4, [(0, .aload_n 0, []), (1, .getfield 25, []), (4, .iload_n 1, []), (5, .iconst 0, []), (6, .iastore, []), (7, .iconst 0, []), (8, .istore_n 3, []), (9, .iload_n 3, []), (10, .iload_n 2, []), (11, .if_icmp .ge 58, [69]), (14, .aload_n 0, []), (15, .invokevirtual 112, []), (18, .bipush 48, []), (20, .bipush 57, []), (22, .invokestatic 53, []), (25, .ifCond .ne 5, [30]), (28, .iconst 0, []), (29, .ireturn, []), (30, .aload_n 0, []), (31, .getfield 25, []), (34, .iload_n 1, []), (35, .bipush 10, []), (37, .aload_n 0, []), (38, .getfield 25, []), (41, .iload_n 1, []), (42, .iaload, []), (43, .imul, []), (44, .aload_n 0, []), (45, .invokevirtual 112, []), (48, .iadd, []), (49, .bipush 48, []), (51, .isub, []), (52, .iastore, []), (53, .aload_n 0, []), (54, .dup, []), (55, .getfield 102, []), (58, .iconst 1, []), (59, .iadd, []), (60, .putfield 102, []), (63, .iinc 3 1, []), (66, .goto (-57), [9]), (69, .iconst 1, []), (70, .ireturn, [])], [(25, (15, 9, 1, 19, 0)), (102, (15, 6, 0, 0, 0))], [], [], [(336, (1, 1, 20, 0, 0, .inl T_X11_here)), (160, (3, 1, 22, 0, 0, .inl T_X11_isIn))], 1, 22, 0, 0)
theorem ok_X11_readsNumber : MOK M_X11_readsNumber := ⟨by decide +kernel, List.forall_mem_cons.mpr ⟨fl_RX11_25, List.forall_mem_cons.mpr ⟨fl_RX11_102, fun _ h => absurd h List.not_mem_nil⟩⟩, fun _ h => absurd h List.not_mem_nil, fun _ h => absurd h List.not_mem_nil, List.forall_mem_cons.mpr ⟨⟨Nat.le_of_ble_eq_true rfl, Nat.le_of_ble_eq_true rfl, cr_RX11_336⟩, List.forall_mem_cons.mpr ⟨⟨Nat.le_of_ble_eq_true rfl, Nat.le_of_ble_eq_true rfl, cr_RX11_160⟩, fun _ h => absurd h List.not_mem_nil⟩⟩⟩
set_option maxRecDepth 100000 in
theorem vc_X11_readsNumber {K : Int32 → AH → Prop} {h : AH} (p1 : Int32) (p2 : Int32) (H : inR p1 4 ∧ AW M_X11_readsNumber (.inl (fun x u => (x = 0 ∨ x = 1) ∧ K x u)) 9 [some (aR 15 0), some (aI p1), some (aI p2), some (aI (nI 0))] [] (wI h 19 0 p1.toNatClampNeg (nI 0)) 0 0) : AW M_X11_readsNumber (.inl (fun x u => (x = 0 ∨ x = 1) ∧ K x u)) 0 [some (aR 15 0), some (aI p1), some (aI p2), none] [] h 0 0 := AW_go (cuts := [(9, [true, true, true, true])]) ok_X11_readsNumber 400 H
set_option maxRecDepth 100000 in
theorem vc_X11_readsNumber_9 {K : Int32 → AH → Prop} {h : AH}  (l1 : Int32) (l2 : Int32) (l3 : Int32) (H : ((l2 ≤ l3) → (((nI 1) = 0 ∨ (nI 1) = 1) ∧ K (nI 1) h)) ∧ (¬ (l2 ≤ l3) → S_X11_here h (fun x2 h1 => S_X11_isIn x2 (nI 48) (nI 57) h1 (fun x4 h3 => ((¬ x4 = 0) → inR l1 4 ∧ S_X11_here h3 (fun x6 h5 => inR l1 4 ∧ AW M_X11_readsNumber (.inl (fun x u => (x = 0 ∨ x = 1) ∧ K x u)) 9 [some (aR 15 0), some (aI l1), some (aI l2), some (aI (l3 + (nI 1)))] [] (wI (wI h5 19 0 l1.toNatClampNeg ((((nI 10) * (h3.1 19 0 l1.toNatClampNeg)) + x6) - (nI 48))) 15 0 6 (((wI h5 19 0 l1.toNatClampNeg ((((nI 10) * (h3.1 19 0 l1.toNatClampNeg)) + x6) - (nI 48))).1 15 0 6) + (nI 1))) 0 0)) ∧ (¬ (¬ x4 = 0) → (((nI 0) = 0 ∨ (nI 0) = 1) ∧ K (nI 0) h3)))))) : AW M_X11_readsNumber (.inl (fun x u => (x = 0 ∨ x = 1) ∧ K x u)) 9 [some (aR 15 0), some (aI l1), some (aI l2), some (aI l3)] [] h 0 0 := AW_go (cuts := [(9, [true, true, true, true])]) ok_X11_readsNumber 400 H

theorem lp_X11_readsNumber {E : Nat → Int32} {sz a k0 n0 : Nat} {h0 : AH} {K : Int32 → AH → Prop} (hk0 : k0 < 4) (hn : n0 ≤ 2) : ∀ r i p v h, i + r = n0 → p + r ≤ 190 → keepN h0 h → txt h E sz p a → h.1 19 0 k0 = nI v → (∀ j, j ≠ k0 → h.1 19 0 j = h0.1 19 0 j) → (∀ h', keepN h0 h' → txt h' E sz (rd (hb E sz) r p v).2.1 a → h'.1 19 0 k0 = nI (rd (hb E sz) r p v).2.2 → (∀ j, j ≠ k0 → h'.1 19 0 j = h0.1 19 0 j) → K (if (rd (hb E sz) r p v).1 = true then nI 1 else nI 0) h') → AW M_X11_readsNumber (.inl (fun x u => (x = 0 ∨ x = 1) ∧ K x u)) 9 [some (aR 15 0), some (aI (nI k0)), some (aI (nI n0)), some (aI (nI i))] [] h 0 0 := by
  intro r
  induction r with
  | zero =>
    intro i p v h hi hp kn ht e1 e2 k
    have : i = n0 := by omega
    subst this
    refine vc_X11_readsNumber_9 (nI k0) (nI i) (nI i) ⟨fun _ => ⟨Or.inr (by decide), k h kn ht e1 e2⟩, fun q => absurd (Int32.le_refl _) q⟩
  | succ r ih =>
    intro i p v h hi hp kn ht e1 e2 k
    refine vc_X11_readsNumber_9 (nI k0) (nI n0) (nI i) ?_
    rw [n_le (by omega) (by omega)]
    refine ⟨fun q => by omega, fun _ => ⟨E, sz, p, a, ht, ?_⟩⟩
    unfold S_X11_isIn
    dsimp only
    simp only [if10_eq]
    unfold rd at k
    refine ⟨fun q => ?_, fun q => ⟨Or.inl (by decide), ?_⟩⟩
    · have q := Decidable.not_not.mp q
      rw [if_pos q] at k
      obtain ⟨c, hc, e⟩ := in_d.mp q
      have hN : nN (hb E sz p) - 48 = c := by rw [e]; unfold nN; rw [n_cl (by omega)]; omega
      rw [hN] at k
      simp (disch := omega) only [n_inT, true_and]
      refine ⟨E, sz, p, a, ht, ?_⟩
      dsimp only
      rw [e]
      obtain ⟨t1, -⟩ := id ht
      simp (disch := omega) only [n_cl, e1, pk_mul, nI_add, true_and]
      rw [show nI (10 * v + (48 + c)) - nI 48 = nI (10 * v + c) by rw [n_sub (by omega)]; congr 1; omega]
      have kn1 : keepN h (wI (wI h 19 0 k0 (nI (10 * v + c))) 15 0 6 (nI (p + 1))) := keepN_tr keepN_19 keepN_6
      have e6 : (wI h 19 0 k0 (nI (10 * v + c))).1 15 0 6 + nI 1 = nI (p + 1) := by rw [wI_nt (by omega), t1, nI_add]
      rw [e6]
      refine ih (i + 1) (p + 1) (10 * v + c) _ (by omega) (by omega) (keepN_tr kn kn1) (txt_k kn1 ht (wI_at _ _ _ _ _) (by omega)) ?_ ?_ k
      · rw [wI_nt (by omega), wI_at]
      · intro j hj
        rw [wI_nt (by omega), wI_ni hj]
        exact e2 j hj
    · have q : ¬ dgt (hb E sz p) := fun z => q (fun z2 => z2 z)
      rw [if_neg q] at k
      exact k h kn ht e1 e2
theorem snd_X11_readsNumber (k n : Int32) {h : AH} {K : Int32 → AH → Prop} (kk : S_X11_readsNumber k n h K) : AW M_X11_readsNumber (.inl (fun x u => (x = 0 ∨ x = 1) ∧ K x u)) 0 [some (aR 15 0), some (aI k), some (aI n), none] [] h 0 0 := by
  obtain ⟨E, sz, p, a, k0, n0, ht, hp, hk, rfl, hn, rfl, k⟩ := kk
  refine vc_X11_readsNumber (nI k0) (nI n0) ?_
  simp (disch := omega) only [n_inT, n_cl, true_and]
  refine lp_X11_readsNumber hk hn n0 0 p 0 _ (by omega) (by omega) keepN_19 (txt_k keepN_19 ht ?_ (by omega)) (wI_at _ _ _ _ _) (fun j hj => wI_ni hj) (fun h' k1 k2 k3 k4 => k h' k1 k2 k3 k4)
  rw [wI_nt (by omega)]
  exact ht.1
theorem tr_X11_readsNumber : ∀ (as : List AV) (h : AH) (K : Int32 → AH → Prop), T_X11_readsNumber as h K → ∃ (q : Nat) (r : List AV), as = aR 15 q :: r := by
  intro as h K hk
  match as, hk with
  | [.inr (.inr (.inl q0)), .inl q1, .inl q2], hk =>
    obtain ⟨hb, hk⟩ := tif_inv hk
    simp only [Bool.and_eq_true] at hb
    obtain ⟨e0, e1⟩ := hb
    obtain ⟨a0, b0⟩ := q0
    have f0 : a0 = 15 := Nat.eq_of_beq_eq_true e0
    subst f0
    have f1 : b0 = 0 := Nat.eq_of_beq_eq_true e1
    subst f1
    exact ⟨_, _, rfl⟩
theorem tw_X11_readsNumber : ∀ (as : List AV) (h : AH) (K : Int32 → AH → Prop), T_X11_readsNumber as h K → (ini as).length ≤ mNL M_X11_readsNumber ∧ AW M_X11_readsNumber (.inl (fun x u => (x = 0 ∨ x = 1) ∧ K x u)) 0 (initL (mNL M_X11_readsNumber) as) [] h 0 0 := by
  intro as h K hk
  match as, hk with
  | [.inr (.inr (.inl q0)), .inl q1, .inl q2], hk =>
    obtain ⟨hb, hk⟩ := tif_inv hk
    simp only [Bool.and_eq_true] at hb
    obtain ⟨e0, e1⟩ := hb
    obtain ⟨a0, b0⟩ := q0
    have f0 : a0 = 15 := Nat.eq_of_beq_eq_true e0
    subst f0
    have f1 : b0 = 0 := Nat.eq_of_beq_eq_true e1
    subst f1
    exact ⟨Nat.le_of_ble_eq_true rfl, snd_X11_readsNumber q1 q2 hk⟩
theorem cr_RX11_348 : CR RX11 (kIns 348) (3, 2, 45, 0, 0, .inl T_X11_readsNumber) := crV_z (t := 15) (M := M_X11_readsNumber) (by decide) rfl (by decide) rfl (inG (i := 1007) (w := Cond.methodLink RX11 116 yX11_readsNumber) (by decide +kernel) rfl) (inG (i := 1009) (w := Cond.instanceMethod yX11_readsNumber) (by decide +kernel) rfl) (inG (i := 40) (w := Cond.initialized RX11) (by decide +kernel) rfl) (inG (i := 18) (w := Cond.selects RX11 yX11_readsNumber yX11_readsNumber) (by decide +kernel) rfl) (inG (i := 1010) (w := Cond.code yX11_readsNumber cX11_readsNumber 4 (some .boolean)) (by decide +kernel) rfl) ⟨by decide +kernel, by decide +kernel, by decide +kernel⟩ tr_X11_readsNumber tw_X11_readsNumber
end
section
/-! ===== the reference: reading a statement ===== -/
def grp (x : Int32) : List Nat := if x = nI 99 then [1, 1, 1, 1] else if x = nI 101 then [2, 1, 1] else if x = nI 115 ∨ x = nI 116 then [1, 1] else if x = nI 100 then [1] else if x = nI 104 then [2] else []
def rdG (H : Nat → Int32) : List Nat → Nat → Bool × Nat × List Nat
  | [], p => if H p = nI 59 then (true, p + 1, []) else (false, p, [])
  | g :: gs, p => if (rd H g p 0).1 = true then ((rdG H gs (rd H g p 0).2.1).1, (rdG H gs (rd H g p 0).2.1).2.1, (rd H g p 0).2.2 :: (rdG H gs (rd H g p 0).2.1).2.2) else (false, (rd H g p 0).2.1, [])
def rdS (H : Nat → Int32) (p : Nat) : Bool × Nat × List Nat := if grp (H p) = [] then (false, p, []) else rdG H (grp (H p)) (p + 1)
def S_X11_readsStatement (h : AH) (K : Int32 → AH → Prop) : Prop := ∃ E sz p a, txt h E sz p a ∧ p ≤ 110 ∧ ∀ h', keepN h h' → txt h' E sz (rdS (hb E sz) p).2.1 a → ((rdS (hb E sz) p).1 = true → ∀ j, j < (rdS (hb E sz) p).2.2.length → h'.1 19 0 j = nI ((rdS (hb E sz) p).2.2.getD j 0)) → K (if (rdS (hb E sz) p).1 = true then nI 1 else nI 0) h'
def T_X11_readsStatement : List AV → AH → (Int32 → AH → Prop) → Prop := fun as h K => match as with
  | [.inr (.inr (.inl q0))] => tif (Nat.beq q0.1 15 && Nat.beq q0.2 0) (S_X11_readsStatement h K)
  | _ => False

def M_X11_readsStatement : MI := (RX11, cX11_readsStatement, 3, [(0, .aload_n 0, []), (1, .invokevirtual 112, []), (4, .istore_n 1, []), (5, .aload_n 0, []), (6, .dup, []), (7, .getfield 102, []), (10, .iconst 1, []), (11, .iadd, []), (12, .putfield 102, []), (15, .iload_n 1, []), (16, .tableswitch 216 99 116 #[88, 196, 133, 216, 216, 206, 216, 216, 216, 216, 216, 216, 216, 216, 216, 216, 169, 169], [232, 104, 212, 149, 232, 232, 222, 232, 232, 232, 232, 232, 232, 232, 232, 232, 232, 185, 185]), (104, .aload_n 0, []), (105, .iconst 0, []), (106, .iconst 1, []), (107, .invokevirtual 116, []), (110, .ifCond .eq 34, [144]), (113, .aload_n 0, []), (114, .iconst 1, []), (115, .iconst 1, []), (116, .invokevirtual 116, []), (119, .ifCond .eq 25, [144]), (122, .aload_n 0, []), (123, .iconst 2, []), (124, .iconst 1, []), (125, .invokevirtual 116, []), (128, .ifCond .eq 16, [144]), (131, .aload_n 0, []), (132, .iconst 3, []), (133, .iconst 1, []), (134, .invokevirtual 116, []), (137, .ifCond .eq 7, [144]), (140, .iconst 1, []), (141, .goto 4, [145]), (144, .iconst 0, []), (145, .istore_n 2, []), (146, .goto 98, [244]), (149, .aload_n 0, []), (150, .iconst 0, []), (151, .iconst 2, []), (152, .invokevirtual 116, []), (155, .ifCond .eq 25, [180]), (158, .aload_n 0, []), (159, .iconst 1, []), (160, .iconst 1, []), (161, .invokevirtual 116, []), (164, .ifCond .eq 16, [180]), (167, .aload_n 0, []), (168, .iconst 2, []), (169, .iconst 1, []), (170, .invokevirtual 116, []), (173, .ifCond .eq 7, [180]), (176, .iconst 1, []), (177, .goto 4, [181]), (180, .iconst 0, []), (181, .istore_n 2, []), (182, .goto 62, [244]), (185, .aload_n 0, []), (186, .iconst 0, []), (187, .iconst 1, []), (188, .invokevirtual 116, []), (191, .ifCond .eq 16, [207]), (194, .aload_n 0, []), (195, .iconst 1, []), (196, .iconst 1, []), (197, .invokevirtual 116, []), (200, .ifCond .eq 7, [207]), (203, .iconst 1, []), (204, .goto 4, [208]), (207, .iconst 0, []), (208, .istore_n 2, []), (209, .goto 35, [244]), (212, .aload_n 0, []), (213, .iconst 0, []), (214, .iconst 1, []), (215, .invokevirtual 116, []), (218, .istore_n 2, []), (219, .goto 25, [244]), (222, .aload_n 0, []), (223, .iconst 0, []), (224, .iconst 2, []), (225, .invokevirtual 116, []), (228, .istore_n 2, []), (229, .goto 15, [244]), (232, .aload_n 0, []), (233, .dup, []), (234, .getfield 102, []), (237, .iconst 1, []), (238, .isub, []), (239, .putfield 102, []), (242, .iconst 0, []), (243, .ireturn, []), (244, .iload_n 2, []), (245, .ifCond .eq 12, [257]), (248, .aload_n 0, []), (249, .invokevirtual 112, []), (252, .bipush 59, []), (254, .if_icmp .eq 5, [259]), (257, .iconst 0, []), (258, .ireturn, []), (259, .aload_n 0, []), (260, .dup, []), (261, .getfield 102, []), (264, .iconst 1, []), (265, .iadd, []), (266, .putfield 102, []), (269, .iconst 1, []), (270, .ireturn, [])], [(102, (15, 6, 0, 0, 0))], [], [], [(336, (1, 1, 20, 0, 0, .inl T_X11_here)), (348, (3, 2, 45, 0, 0, .inl T_X11_readsNumber))], 2, 45, 0, 0)
theorem ok_X11_readsStatement : MOK M_X11_readsStatement := ⟨by decide +kernel, List.forall_mem_cons.mpr ⟨fl_RX11_102, fun _ h => absurd h List.not_mem_nil⟩, fun _ h => absurd h List.not_mem_nil, fun _ h => absurd h List.not_mem_nil, List.forall_mem_cons.mpr ⟨⟨Nat.le_of_ble_eq_true rfl, Nat.le_of_ble_eq_true rfl, cr_RX11_336⟩, List.forall_mem_cons.mpr ⟨⟨Nat.le_of_ble_eq_true rfl, Nat.le_of_ble_eq_true rfl, cr_RX11_348⟩, fun _ h => absurd h List.not_mem_nil⟩⟩⟩
set_option maxRecDepth 100000 in
theorem vc_X11_readsStatement {K : Int32 → AH → Prop} {h : AH}  (H : S_X11_here h (fun x2 h1 => (x2.toInt < 99 ∨ 116 < x2.toInt → AW M_X11_readsStatement (.inl (fun x u => (x = 0 ∨ x = 1) ∧ K x u)) 232 [some (aR 15 0), none, none] [] (wI h1 15 0 6 ((h1.1 15 0 6) + (nI 1))) 0 0) ∧ (x2 = nI 99 → AW M_X11_readsStatement (.inl (fun x u => (x = 0 ∨ x = 1) ∧ K x u)) 104 [some (aR 15 0), none, none] [] (wI h1 15 0 6 ((h1.1 15 0 6) + (nI 1))) 0 0) ∧ (x2 = nI 100 → AW M_X11_readsStatement (.inl (fun x u => (x = 0 ∨ x = 1) ∧ K x u)) 212 [some (aR 15 0), none, none] [] (wI h1 15 0 6 ((h1.1 15 0 6) + (nI 1))) 0 0) ∧ (x2 = nI 101 → AW M_X11_readsStatement (.inl (fun x u => (x = 0 ∨ x = 1) ∧ K x u)) 149 [some (aR 15 0), none, none] [] (wI h1 15 0 6 ((h1.1 15 0 6) + (nI 1))) 0 0) ∧ (x2 = nI 102 → AW M_X11_readsStatement (.inl (fun x u => (x = 0 ∨ x = 1) ∧ K x u)) 232 [some (aR 15 0), none, none] [] (wI h1 15 0 6 ((h1.1 15 0 6) + (nI 1))) 0 0) ∧ (x2 = nI 103 → AW M_X11_readsStatement (.inl (fun x u => (x = 0 ∨ x = 1) ∧ K x u)) 232 [some (aR 15 0), none, none] [] (wI h1 15 0 6 ((h1.1 15 0 6) + (nI 1))) 0 0) ∧ (x2 = nI 104 → AW M_X11_readsStatement (.inl (fun x u => (x = 0 ∨ x = 1) ∧ K x u)) 222 [some (aR 15 0), none, none] [] (wI h1 15 0 6 ((h1.1 15 0 6) + (nI 1))) 0 0) ∧ (x2 = nI 105 → AW M_X11_readsStatement (.inl (fun x u => (x = 0 ∨ x = 1) ∧ K x u)) 232 [some (aR 15 0), none, none] [] (wI h1 15 0 6 ((h1.1 15 0 6) + (nI 1))) 0 0) ∧ (x2 = nI 106 → AW M_X11_readsStatement (.inl (fun x u => (x = 0 ∨ x = 1) ∧ K x u)) 232 [some (aR 15 0), none, none] [] (wI h1 15 0 6 ((h1.1 15 0 6) + (nI 1))) 0 0) ∧ (x2 = nI 107 → AW M_X11_readsStatement (.inl (fun x u => (x = 0 ∨ x = 1) ∧ K x u)) 232 [some (aR 15 0), none, none] [] (wI h1 15 0 6 ((h1.1 15 0 6) + (nI 1))) 0 0) ∧ (x2 = nI 108 → AW M_X11_readsStatement (.inl (fun x u => (x = 0 ∨ x = 1) ∧ K x u)) 232 [some (aR 15 0), none, none] [] (wI h1 15 0 6 ((h1.1 15 0 6) + (nI 1))) 0 0) ∧ (x2 = nI 109 → AW M_X11_readsStatement (.inl (fun x u => (x = 0 ∨ x = 1) ∧ K x u)) 232 [some (aR 15 0), none, none] [] (wI h1 15 0 6 ((h1.1 15 0 6) + (nI 1))) 0 0) ∧ (x2 = nI 110 → AW M_X11_readsStatement (.inl (fun x u => (x = 0 ∨ x = 1) ∧ K x u)) 232 [some (aR 15 0), none, none] [] (wI h1 15 0 6 ((h1.1 15 0 6) + (nI 1))) 0 0) ∧ (x2 = nI 111 → AW M_X11_readsStatement (.inl (fun x u => (x = 0 ∨ x = 1) ∧ K x u)) 232 [some (aR 15 0), none, none] [] (wI h1 15 0 6 ((h1.1 15 0 6) + (nI 1))) 0 0) ∧ (x2 = nI 112 → AW M_X11_readsStatement (.inl (fun x u => (x = 0 ∨ x = 1) ∧ K x u)) 232 [some (aR 15 0), none, none] [] (wI h1 15 0 6 ((h1.1 15 0 6) + (nI 1))) 0 0) ∧ (x2 = nI 113 → AW M_X11_readsStatement (.inl (fun x u => (x = 0 ∨ x = 1) ∧ K x u)) 232 [some (aR 15 0), none, none] [] (wI h1 15 0 6 ((h1.1 15 0 6) + (nI 1))) 0 0) ∧ (x2 = nI 114 → AW M_X11_readsStatement (.inl (fun x u => (x = 0 ∨ x = 1) ∧ K x u)) 232 [some (aR 15 0), none, none] [] (wI h1 15 0 6 ((h1.1 15 0 6) + (nI 1))) 0 0) ∧ (x2 = nI 115 → AW M_X11_readsStatement (.inl (fun x u => (x = 0 ∨ x = 1) ∧ K x u)) 185 [some (aR 15 0), none, none] [] (wI h1 15 0 6 ((h1.1 15 0 6) + (nI 1))) 0 0) ∧ (x2 = nI 116 → AW M_X11_readsStatement (.inl (fun x u => (x = 0 ∨ x = 1) ∧ K x u)) 185 [some (aR 15 0), none, none] [] (wI h1 15 0 6 ((h1.1 15 0 6) + (nI 1))) 0 0) ∧ True)) : AW M_X11_readsStatement (.inl (fun x u => (x = 0 ∨ x = 1) ∧ K x u)) 0 [some (aR 15 0), none, none] [] h 0 0 := AW_go (cuts := [(104, [true, false, false]), (149, [true, false, false]), (185, [true, false, false]), (212, [true, false, false]), (222, [true, false, false]), (232, [true, false, false]), (244, [true, false, true])]) ok_X11_readsStatement 400 H
set_option maxRecDepth 100000 in
theorem vc_X11_readsStatement_104 {K : Int32 → AH → Prop} {h : AH}   (H : S_X11_readsNumber (nI 0) (nI 1) h (fun x2 h1 => ((x2 = 0) → AW M_X11_readsStatement (.inl (fun x u => (x = 0 ∨ x = 1) ∧ K x u)) 244 [some (aR 15 0), none, some (aI (nI 0))] [] h1 0 0) ∧ (¬ (x2 = 0) → S_X11_readsNumber (nI 1) (nI 1) h1 (fun x4 h3 => ((x4 = 0) → AW M_X11_readsStatement (.inl (fun x u => (x = 0 ∨ x = 1) ∧ K x u)) 244 [some (aR 15 0), none, some (aI (nI 0))] [] h3 0 0) ∧ (¬ (x4 = 0) → S_X11_readsNumber (nI 2) (nI 1) h3 (fun x6 h5 => ((x6 = 0) → AW M_X11_readsStatement (.inl (fun x u => (x = 0 ∨ x = 1) ∧ K x u)) 244 [some (aR 15 0), none, some (aI (nI 0))] [] h5 0 0) ∧ (¬ (x6 = 0) → S_X11_readsNumber (nI 3) (nI 1) h5 (fun x8 h7 => ((x8 = 0) → AW M_X11_readsStatement (.inl (fun x u => (x = 0 ∨ x = 1) ∧ K x u)) 244 [some (aR 15 0), none, some (aI (nI 0))] [] h7 0 0) ∧ (¬ (x8 = 0) → AW M_X11_readsStatement (.inl (fun x u => (x = 0 ∨ x = 1) ∧ K x u)) 244 [some (aR 15 0), none, some (aI (nI 1))] [] h7 0 0))))))))) : AW M_X11_readsStatement (.inl (fun x u => (x = 0 ∨ x = 1) ∧ K x u)) 104 [some (aR 15 0), none, none] [] h 0 0 := AW_go (cuts := [(104, [true, false, false]), (149, [true, false, false]), (185, [true, false, false]), (212, [true, false, false]), (222, [true, false, false]), (232, [true, false, false]), (244, [true, false, true])]) ok_X11_readsStatement 400 H
set_option maxRecDepth 100000 in
theorem vc_X11_readsStatement_149 {K : Int32 → AH → Prop} {h : AH}   (H : S_X11_readsNumber (nI 0) (nI 2) h (fun x2 h1 => ((x2 = 0) → AW M_X11_readsStatement (.inl (fun x u => (x = 0 ∨ x = 1) ∧ K x u)) 244 [some (aR 15 0), none, some (aI (nI 0))] [] h1 0 0) ∧ (¬ (x2 = 0) → S_X11_readsNumber (nI 1) (nI 1) h1 (fun x4 h3 => ((x4 = 0) → AW M_X11_readsStatement (.inl (fun x u => (x = 0 ∨ x = 1) ∧ K x u)) 244 [some (aR 15 0), none, some (aI (nI 0))] [] h3 0 0) ∧ (¬ (x4 = 0) → S_X11_readsNumber (nI 2) (nI 1) h3 (fun x6 h5 => ((x6 = 0) → AW M_X11_readsStatement (.inl (fun x u => (x = 0 ∨ x = 1) ∧ K x u)) 244 [some (aR 15 0), none, some (aI (nI 0))] [] h5 0 0) ∧ (¬ (x6 = 0) → AW M_X11_readsStatement (.inl (fun x u => (x = 0 ∨ x = 1) ∧ K x u)) 244 [some (aR 15 0), none, some (aI (nI 1))] [] h5 0 0))))))) : AW M_X11_readsStatement (.inl (fun x u => (x = 0 ∨ x = 1) ∧ K x u)) 149 [some (aR 15 0), none, none] [] h 0 0 := AW_go (cuts := [(104, [true, false, false]), (149, [true, false, false]), (185, [true, false, false]), (212, [true, false, false]), (222, [true, false, false]), (232, [true, false, false]), (244, [true, false, true])]) ok_X11_readsStatement 400 H
set_option maxRecDepth 100000 in
theorem vc_X11_readsStatement_185 {K : Int32 → AH → Prop} {h : AH}   (H : S_X11_readsNumber (nI 0) (nI 1) h (fun x2 h1 => ((x2 = 0) → AW M_X11_readsStatement (.inl (fun x u => (x = 0 ∨ x = 1) ∧ K x u)) 244 [some (aR 15 0), none, some (aI (nI 0))] [] h1 0 0) ∧ (¬ (x2 = 0) → S_X11_readsNumber (nI 1) (nI 1) h1 (fun x4 h3 => ((x4 = 0) → AW M_X11_readsStatement (.inl (fun x u => (x = 0 ∨ x = 1) ∧ K x u)) 244 [some (aR 15 0), none, some (aI (nI 0))] [] h3 0 0) ∧ (¬ (x4 = 0) → AW M_X11_readsStatement (.inl (fun x u => (x = 0 ∨ x = 1) ∧ K x u)) 244 [some (aR 15 0), none, some (aI (nI 1))] [] h3 0 0))))) : AW M_X11_readsStatement (.inl (fun x u => (x = 0 ∨ x = 1) ∧ K x u)) 185 [some (aR 15 0), none, none] [] h 0 0 := AW_go (cuts := [(104, [true, false, false]), (149, [true, false, false]), (185, [true, false, false]), (212, [true, false, false]), (222, [true, false, false]), (232, [true, false, false]), (244, [true, false, true])]) ok_X11_readsStatement 400 H
set_option maxRecDepth 100000 in
theorem vc_X11_readsStatement_212 {K : Int32 → AH → Prop} {h : AH}   (H : S_X11_readsNumber (nI 0) (nI 1) h (fun x2 h1 => AW M_X11_readsStatement (.inl (fun x u => (x = 0 ∨ x = 1) ∧ K x u)) 244 [some (aR 15 0), none, some (aI x2)] [] h1 0 0)) : AW M_X11_readsStatement (.inl (fun x u => (x = 0 ∨ x = 1) ∧ K x u)) 212 [some (aR 15 0), none, none] [] h 0 0 := AW_go (cuts := [(104, [true, false, false]), (149, [true, false, false]), (185, [true, false, false]), (212, [true, false, false]), (222, [true, false, false]), (232, [true, false, false]), (244, [true, false, true])]) ok_X11_readsStatement 400 H
set_option maxRecDepth 100000 in
theorem vc_X11_readsStatement_222 {K : Int32 → AH → Prop} {h : AH}   (H : S_X11_readsNumber (nI 0) (nI 2) h (fun x2 h1 => AW M_X11_readsStatement (.inl (fun x u => (x = 0 ∨ x = 1) ∧ K x u)) 244 [some (aR 15 0), none, some (aI x2)] [] h1 0 0)) : AW M_X11_readsStatement (.inl (fun x u => (x = 0 ∨ x = 1) ∧ K x u)) 222 [some (aR 15 0), none, none] [] h 0 0 := AW_go (cuts := [(104, [true, false, false]), (149, [true, false, false]), (185, [true, false, false]), (212, [true, false, false]), (222, [true, false, false]), (232, [true, false, false]), (244, [true, false, true])]) ok_X11_readsStatement 400 H
set_option maxRecDepth 100000 in
theorem vc_X11_readsStatement_232 {K : Int32 → AH → Prop} {h : AH}   (H : (((nI 0) = 0 ∨ (nI 0) = 1) ∧ K (nI 0) (wI h 15 0 6 ((h.1 15 0 6) - (nI 1))))) : AW M_X11_readsStatement (.inl (fun x u => (x = 0 ∨ x = 1) ∧ K x u)) 232 [some (aR 15 0), none, none] [] h 0 0 := AW_go (cuts := [(104, [true, false, false]), (149, [true, false, false]), (185, [true, false, false]), (212, [true, false, false]), (222, [true, false, false]), (232, [true, false, false]), (244, [true, false, true])]) ok_X11_readsStatement 400 H
set_option maxRecDepth 100000 in
theorem vc_X11_readsStatement_244 {K : Int32 → AH → Prop} {h : AH}  (l2 : Int32) (H : ((l2 = 0) → (((nI 0) = 0 ∨ (nI 0) = 1) ∧ K (nI 0) h)) ∧ (¬ (l2 = 0) → S_X11_here h (fun x2 h1 => ((x2 = (nI 59)) → (((nI 1) = 0 ∨ (nI 1) = 1) ∧ K (nI 1) (wI h1 15 0 6 ((h1.1 15 0 6) + (nI 1))))) ∧ (¬ (x2 = (nI 59)) → (((nI 0) = 0 ∨ (nI 0) = 1) ∧ K (nI 0) h1))))) : AW M_X11_readsStatement (.inl (fun x u => (x = 0 ∨ x = 1) ∧ K x u)) 244 [some (aR 15 0), none, some (aI l2)] [] h 0 0 := AW_go (cuts := [(104, [true, false, false]), (149, [true, false, false]), (185, [true, false, false]), (212, [true, false, false]), (222, [true, false, false]), (232, [true, false, false]), (244, [true, false, true])]) ok_X11_readsStatement 400 H

def nG (W0 W1 : AH → Prop) : List Nat → Nat → AH → Prop
  | [], _, h => W1 h
  | g :: gs, k, h => S_X11_readsNumber (nI k) (nI g) h (fun x h1 => (x = 0 → W0 h1) ∧ (¬ x = 0 → nG W0 W1 gs (k + 1) h1))
theorem nG_ok {E : Nat → Int32} {sz a : Nat} {h0 : AH} {K : Int32 → AH → Prop} : ∀ gs k acc p h, acc.length = k → k + gs.length ≤ 4 → (∀ g, g ∈ gs → g ≤ 2) → p + 2 * gs.length ≤ 140 → keepN h0 h → txt h E sz p a → (∀ j, j < k → h.1 19 0 j = nI (acc.getD j 0)) → (∀ h', keepN h0 h' → txt h' E sz (rdG (hb E sz) gs p).2.1 a → ((rdG (hb E sz) gs p).1 = true → ∀ j, j < (acc ++ (rdG (hb E sz) gs p).2.2).length → h'.1 19 0 j = nI ((acc ++ (rdG (hb E sz) gs p).2.2).getD j 0)) → K (if (rdG (hb E sz) gs p).1 = true then nI 1 else nI 0) h') → nG (fun h => AW M_X11_readsStatement (.inl (fun x u => (x = 0 ∨ x = 1) ∧ K x u)) 244 [some (aR 15 0), none, some (aI (nI 0))] [] h 0 0) (fun h => AW M_X11_readsStatement (.inl (fun x u => (x = 0 ∨ x = 1) ∧ K x u)) 244 [some (aR 15 0), none, some (aI (nI 1))] [] h 0 0) gs k h := by
  intro gs
  induction gs with
  | nil =>
    intro k acc p h hl hk hg hp kn ht ha kk
    refine vc_X11_readsStatement_244 (nI 1) ⟨fun q => absurd q (by decide), fun _ => ⟨E, sz, p, a, ht, ?_⟩⟩
    dsimp only
    unfold rdG at kk
    refine ⟨fun q => ⟨Or.inr (by decide), ?_⟩, fun q => ⟨Or.inl (by decide), ?_⟩⟩
    · rw [if_pos q] at kk
      rw [ht.1, nI_add]
      refine kk _ (keepN_tr kn keepN_6) (txt_k keepN_6 ht (wI_at _ _ _ _ _) (by show p + 1 ≤ 200; simp at hp; omega)) (fun _ j hj => ?_)
      rw [wI_nt (by omega)]
      dsimp only at hj ⊢
      rw [List.append_nil] at hj ⊢
      exact ha j (by omega)
    · rw [if_neg q] at kk
      exact kk h kn ht (fun z => absurd z (show ¬ false = true by decide))
  | cons g gs ih =>
    intro k acc p h hl hk hg hp kn ht ha kk
    simp only [List.length_cons] at hk hp
    have hg2 := hg g (List.mem_cons_self ..)
    refine ⟨E, sz, p, a, k, g, ht, by omega, by omega, rfl, hg2, rfl, fun h1 k1 t1 e1 f1 => ?_⟩
    have hrp := rd_p (H := hb E sz) g p 0
    unfold rdG at kk
    by_cases q : (rd (hb E sz) g p 0).1 = true
    · rw [if_pos q] at kk
      rw [if_pos q]
      refine ⟨fun z => absurd z (by decide), fun _ => ?_⟩
      refine ih (k + 1) (acc ++ [(rd (hb E sz) g p 0).2.2]) (rd (hb E sz) g p 0).2.1 h1 (by simp [hl]) (by omega) (fun x hx => hg x (List.mem_cons_of_mem _ hx)) (by omega) (keepN_tr kn k1) t1 (fun j hj => ?_) (fun h2 a1 a2 a3 => ?_)
      · by_cases z : j = k
        · subst z
          rw [e1, List.getD_eq_getElem?_getD, List.getElem?_append_right (by omega), hl]
          simp
        · rw [f1 j z, ha j (by omega), List.getD_eq_getElem?_getD, List.getD_eq_getElem?_getD, List.getElem?_append_left (by omega)]
      · have := kk h2 a1 a2
        rw [List.append_assoc] at a3
        exact this a3
    · rw [if_neg q] at kk
      rw [if_neg q]
      refine ⟨fun _ => ?_, fun z => absurd (by decide) z⟩
      exact vc_X11_readsStatement_244 (nI 0) ⟨fun _ => ⟨Or.inl (by decide), kk h1 (keepN_tr kn k1) t1 (fun z => absurd z (show ¬ false = true by decide))⟩, fun z => absurd (by decide) z⟩
theorem n1_X11_readsStatement {g : Nat} {h : AH} {K : Int32 → AH → Prop} (k : nG (fun h => AW M_X11_readsStatement (.inl (fun x u => (x = 0 ∨ x = 1) ∧ K x u)) 244 [some (aR 15 0), none, some (aI (nI 0))] [] h 0 0) (fun h => AW M_X11_readsStatement (.inl (fun x u => (x = 0 ∨ x = 1) ∧ K x u)) 244 [some (aR 15 0), none, some (aI (nI 1))] [] h 0 0) [g] 0 h) : S_X11_readsNumber (nI 0) (nI g) h (fun x2 h1 => AW M_X11_readsStatement (.inl (fun x u => (x = 0 ∨ x = 1) ∧ K x u)) 244 [some (aR 15 0), none, some (aI x2)] [] h1 0 0) := by
  obtain ⟨E, sz, p, a, k0, n0, h1, h2, h3, h4, h5, h6, k⟩ := k
  refine ⟨E, sz, p, a, k0, n0, h1, h2, h3, h4, h5, h6, fun h' a1 a2 a3 a4 => ?_⟩
  have := k h' a1 a2 a3 a4
  by_cases q : (rd (hb E sz) n0 p 0).1 = true
  · rw [if_pos q] at this ⊢
    exact this.2 (by decide)
  · rw [if_neg q] at this ⊢
    exact this.1 (by decide)
theorem snd_X11_readsStatement {h : AH} {K : Int32 → AH → Prop} (k : S_X11_readsStatement h K) : AW M_X11_readsStatement (.inl (fun x u => (x = 0 ∨ x = 1) ∧ K x u)) 0 [some (aR 15 0), none, none] [] h 0 0 := by
  obtain ⟨E, sz, p, a, ht, hp, k⟩ := k
  refine vc_X11_readsStatement ⟨E, sz, p, a, ht, ?_⟩
  dsimp only
  rw [ht.1, nI_add]
  unfold rdS at k
  generalize hx : hb E sz p = x at k ⊢
  have t1 : txt (wI h 15 0 6 (nI (p + 1))) E sz (p + 1) a := txt_k keepN_6 ht (wI_at _ _ _ _ _) (by omega)
  have no : grp x = [] → AW M_X11_readsStatement (.inl (fun x u => (x = 0 ∨ x = 1) ∧ K x u)) 232 [some (aR 15 0), none, none] [] (wI h 15 0 6 (nI (p + 1))) 0 0 := by
    intro q
    rw [if_pos q] at k
    refine vc_X11_readsStatement_232 ⟨Or.inl (by decide), ?_⟩
    rw [wI_at, n_sub (by omega)]
    exact k _ (keepN_tr keepN_6 keepN_6) (txt_k (keepN_tr keepN_6 keepN_6) ht (wI_at _ _ _ _ _) (by show p ≤ 200; omega)) (fun z => absurd z (show ¬ false = true by decide))
  have ye : ∀ gs, grp x = gs → gs ≠ [] → gs.length ≤ 4 → (∀ g, g ∈ gs → g ≤ 2) → nG (fun h => AW M_X11_readsStatement (.inl (fun x u => (x = 0 ∨ x = 1) ∧ K x u)) 244 [some (aR 15 0), none, some (aI (nI 0))] [] h 0 0) (fun h => AW M_X11_readsStatement (.inl (fun x u => (x = 0 ∨ x = 1) ∧ K x u)) 244 [some (aR 15 0), none, some (aI (nI 1))] [] h 0 0) gs 0 (wI h 15 0 6 (nI (p + 1))) := by
    intro gs q hne hl hg
    rw [if_neg (by rw [q]; exact hne), q] at k
    refine nG_ok gs 0 [] (p + 1) _ rfl (by omega) hg (by omega) keepN_6 t1 (fun j hj => absurd hj (by omega)) (fun h' a1 a2 a3 => ?_)
    rw [List.nil_append] at a3
    exact k h' a1 a2 a3
  have g99 := ye [1, 1, 1, 1]
  have g101 := ye [2, 1, 1]
  have g115 := ye [1, 1]
  have g100 := ye [1]
  have g104 := ye [2]
  clear ye k
  refine ⟨fun q => no ?_, fun q => ?_, fun q => ?_, fun q => ?_, fun q => no ?_, fun q => no ?_, fun q => ?_, fun q => no ?_, fun q => no ?_, fun q => no ?_, fun q => no ?_, fun q => no ?_, fun q => no ?_, fun q => no ?_, fun q => no ?_, fun q => no ?_, fun q => no ?_, fun q => ?_, fun q => ?_, trivial⟩
  · unfold grp
    have hx : ∀ k, 99 ≤ k → k ≤ 116 → x ≠ nI k := fun k h1 h2 z => by
      subst z
      rw [n_toInt (by omega)] at q
      omega
    rw [if_neg (hx 99 (by omega) (by omega)), if_neg (hx 101 (by omega) (by omega)), if_neg (fun z => z.elim (hx 115 (by omega) (by omega)) (hx 116 (by omega) (by omega))), if_neg (hx 100 (by omega) (by omega)), if_neg (hx 104 (by omega) (by omega))]
  · exact vc_X11_readsStatement_104 (g99 (by rw [q]; decide) (by simp) (by simp) (by simp))
  · exact vc_X11_readsStatement_212 (n1_X11_readsStatement (g100 (by rw [q]; decide) (by simp) (by simp) (by simp)))
  · exact vc_X11_readsStatement_149 (g101 (by rw [q]; decide) (by simp) (by simp) (by simp))
  · rw [q]; decide
  · rw [q]; decide
  · exact vc_X11_readsStatement_222 (n1_X11_readsStatement (g104 (by rw [q]; decide) (by simp) (by simp) (by simp)))
  · rw [q]; decide
  · rw [q]; decide
  · rw [q]; decide
  · rw [q]; decide
  · rw [q]; decide
  · rw [q]; decide
  · rw [q]; decide
  · rw [q]; decide
  · rw [q]; decide
  · rw [q]; decide
  · exact vc_X11_readsStatement_185 (g115 (by rw [q]; decide) (by simp) (by simp) (by simp))
  · exact vc_X11_readsStatement_185 (g115 (by rw [q]; decide) (by simp) (by simp) (by simp))
theorem tr_X11_readsStatement : ∀ (as : List AV) (h : AH) (K : Int32 → AH → Prop), T_X11_readsStatement as h K → ∃ (q : Nat) (r : List AV), as = aR 15 q :: r := by
  intro as h K hk
  match as, hk with
  | [.inr (.inr (.inl q0))], hk =>
    obtain ⟨hb, hk⟩ := tif_inv hk
    simp only [Bool.and_eq_true] at hb
    obtain ⟨e0, e1⟩ := hb
    obtain ⟨a0, b0⟩ := q0
    have f0 : a0 = 15 := Nat.eq_of_beq_eq_true e0
    subst f0
    have f1 : b0 = 0 := Nat.eq_of_beq_eq_true e1
    subst f1
    exact ⟨_, _, rfl⟩
theorem tw_X11_readsStatement : ∀ (as : List AV) (h : AH) (K : Int32 → AH → Prop), T_X11_readsStatement as h K → (ini as).length ≤ mNL M_X11_readsStatement ∧ AW M_X11_readsStatement (.inl (fun x u => (x = 0 ∨ x = 1) ∧ K x u)) 0 (initL (mNL M_X11_readsStatement) as) [] h 0 0 := by
  intro as h K hk
  match as, hk with
  | [.inr (.inr (.inl q0))], hk =>
    obtain ⟨hb, hk⟩ := tif_inv hk
    simp only [Bool.and_eq_true] at hb
    obtain ⟨e0, e1⟩ := hb
    obtain ⟨a0, b0⟩ := q0
    have f0 : a0 = 15 := Nat.eq_of_beq_eq_true e0
    subst f0
    have f1 : b0 = 0 := Nat.eq_of_beq_eq_true e1
    subst f1
    exact ⟨Nat.le_of_ble_eq_true rfl, snd_X11_readsStatement  hk⟩
theorem cr_RX11_432 : CR RX11 (kIns 432) (1, 3, 67, 0, 0, .inl T_X11_readsStatement) := crV_z (t := 15) (M := M_X11_readsStatement) (by decide) rfl (by decide) rfl (inG (i := 999) (w := Cond.methodLink RX11 144 yX11_readsStatement) (by decide +kernel) rfl) (inG (i := 1001) (w := Cond.instanceMethod yX11_readsStatement) (by decide +kernel) rfl) (inG (i := 40) (w := Cond.initialized RX11) (by decide +kernel) rfl) (inG (i := 16) (w := Cond.selects RX11 yX11_readsStatement yX11_readsStatement) (by decide +kernel) rfl) (inG (i := 1002) (w := Cond.code yX11_readsStatement cX11_readsStatement 3 (some .boolean)) (by decide +kernel) rfl) ⟨by decide +kernel, by decide +kernel, by decide +kernel⟩ tr_X11_readsStatement tw_X11_readsStatement
end
section
/-! ===== the reference: a statement done ===== -/
def adE (V : Vm) (a b n : Nat) : Vm := uV (uV (uV (uV (uV V 4 (V 10 0) a) 5 (V 10 0) b) 6 (V 10 0) n) 7 (V 10 0) 0) 10 0 (V 10 0 + 1)
theorem adE_0 (V : Vm) (a b n : Nat) : adE V a b n 10 0 = V 10 0 + 1 := by unfold adE; rw [uV_at]
theorem adE_10 {V : Vm} {a b n i : Nat} (h : i ≠ 0) : adE V a b n 10 i = V 10 i := by unfold adE; rw [uV_ne (by omega), uV_ne (by omega), uV_ne (by omega), uV_ne (by omega), uV_ne (by omega)]
theorem adE_o {V : Vm} {a b n t i : Nat} (h : t < 4 ∨ t = 8 ∨ t = 9) : adE V a b n t i = V t i := by unfold adE; rw [uV_ne (by omega), uV_ne (by omega), uV_ne (by omega), uV_ne (by omega), uV_ne (by omega)]
theorem adE_e {V : Vm} {a b n t i : Nat} (h : i ≠ V 10 0) (ht : t ≠ 10) : adE V a b n t i = V t i := by unfold adE; rw [uV_ne (by omega), uV_ne (by omega), uV_ne (by omega), uV_ne (by omega), uV_ne (by omega)]
theorem adE_4 (V : Vm) (a b n : Nat) : adE V a b n 4 (V 10 0) = a := by unfold adE; rw [uV_ne (by omega), uV_ne (by omega), uV_ne (by omega), uV_ne (by omega), uV_at]
theorem adE_5 (V : Vm) (a b n : Nat) : adE V a b n 5 (V 10 0) = b := by unfold adE; rw [uV_ne (by omega), uV_ne (by omega), uV_ne (by omega), uV_at]
theorem adE_6 (V : Vm) (a b n : Nat) : adE V a b n 6 (V 10 0) = n := by unfold adE; rw [uV_ne (by omega), uV_ne (by omega), uV_at]
theorem adE_7 (V : Vm) (a b n : Nat) : adE V a b n 7 (V 10 0) = 0 := by unfold adE; rw [uV_ne (by omega), uV_at]
theorem WF_adE {V : Vm} {a b n : Nat} (hw : WF V) (h4 : V 10 0 < 4) (ha : a ≤ 30) (hb : b ≤ 9) (hn : n ≤ 3) : WF (adE V a b n) := by
  obtain ⟨w1, w2, w3, w4, w5, w6, w7⟩ := hw
  unfold WF
  rw [adE_0, adE_10 (by omega), adE_10 (by omega), adE_10 (by omega)]
  refine ⟨by omega, w2, w3, w4, fun k hk => ?_, fun k hk => ?_, fun k hk => ?_⟩
  · rw [adE_o (by omega), adE_o (by omega), adE_o (by omega)]; exact w5 k hk
  · by_cases e : k = V 10 0
    · subst e
      rw [adE_4, adE_5, adE_6, adE_7]
      omega
    · rw [adE_e e (by omega), adE_e e (by omega), adE_e e (by omega), adE_e e (by omega)]
      exact w6 k (by omega)
  · rw [adE_o (by omega), adE_o (by omega)]; exact w7 k hk
theorem RV_adE {h : AH} {V : Vm} {a b n : Nat} (hw : WF V) (hr : RV (h.1 16 0) V) (h4 : V 10 0 < 4) : RV ((wI (wI (wI (wI (wI h 16 0 (28 + 4 * V 10 0 + 0) (nI a)) 16 0 (28 + 4 * V 10 0 + 1) (nI b)) 16 0 (28 + 4 * V 10 0 + 2) (nI n)) 16 0 (28 + 4 * V 10 0 + 3) (nI 0)) 16 0 0 (nI (V 10 0 + 1))).1 16 0) (adE V a b n) := by
  have h7 := hw.2.1
  intro t k hk
  show uI (uI (uI (uI (uI h.1 16 0 (28 + 4 * V 10 0 + 0) (nI a)) 16 0 (28 + 4 * V 10 0 + 1) (nI b)) 16 0 (28 + 4 * V 10 0 + 2) (nI n)) 16 0 (28 + 4 * V 10 0 + 3) (nI 0)) 16 0 0 (nI (V 10 0 + 1)) 16 0 (ro t k) = _
  have ht : t ≤ 10 := by
    rcases Nat.lt_or_ge 10 t with h | h
    · unfold vLim at hk; split at hk <;> omega
    · exact h
  have l0 := adE_0 V a b n
  have l1 : adE V a b n 10 1 = V 10 1 := adE_10 (by omega)
  have go : k < vLim V t → (t = 10 → k ≠ 0) → uI (uI (uI (uI (uI h.1 16 0 (28 + 4 * V 10 0 + 0) (nI a)) 16 0 (28 + 4 * V 10 0 + 1) (nI b)) 16 0 (28 + 4 * V 10 0 + 2) (nI n)) 16 0 (28 + 4 * V 10 0 + 3) (nI 0)) 16 0 0 (nI (V 10 0 + 1)) 16 0 (ro t k) = nI (adE V a b n t k) := by
    intro hk2 hz
    have e := hr t k hk2
    have n0 : ro t k ≠ 0 ∧ ro t k ≠ 28 + 4 * V 10 0 + 0 ∧ ro t k ≠ 28 + 4 * V 10 0 + 1 ∧ ro t k ≠ 28 + 4 * V 10 0 + 2 ∧ ro t k ≠ 28 + 4 * V 10 0 + 3 ∧ ((t < 4 ∨ t = 8 ∨ t = 9) ∨ (t = 10 ∧ k ≠ 0) ∨ (t ≠ 10 ∧ k ≠ V 10 0)) := by
      match t, ht with
      | 0, _ => clear e hk; simp only [ro, vLim] at hk2 ⊢; omega
      | 1, _ => clear e hk; simp only [ro, vLim] at hk2 ⊢; omega
      | 2, _ => clear e hk; simp only [ro, vLim] at hk2 ⊢; omega
      | 3, _ => clear e hk; simp only [ro, vLim] at hk2 ⊢; omega
      | 4, _ => clear e hk; simp only [ro, vLim] at hk2 ⊢; omega
      | 5, _ => clear e hk; simp only [ro, vLim] at hk2 ⊢; omega
      | 6, _ => clear e hk; simp only [ro, vLim] at hk2 ⊢; omega
      | 7, _ => clear e hk; simp only [ro, vLim] at hk2 ⊢; omega
      | 8, _ =>
        clear e hk
        simp only [vLim] at hk2
        simp only [ro]
        refine ⟨by omega, by omega, by omega, by omega, by omega, ?_⟩
        simp
      | 9, _ =>
        clear e hk
        simp only [vLim] at hk2
        simp only [ro]
        refine ⟨by omega, by omega, by omega, by omega, by omega, ?_⟩
        simp
      | 10, _ =>
        clear e hk
        have hz := hz rfl
        simp only [vLim] at hk2
        simp only [ro]
        refine ⟨by omega, by omega, by omega, by omega, by omega, ?_⟩
        simp [hz]
    rw [uI_ni n0.1, uI_ni n0.2.2.2.2.1, uI_ni n0.2.2.2.1, uI_ni n0.2.2.1, uI_ni n0.2.1, e]
    rcases n0.2.2.2.2.2 with z | ⟨rfl, z⟩ | ⟨z, z2⟩
    · rw [adE_o z]
    · rw [adE_10 z]
    · rw [adE_e z2 z]
  match t, ht with
  | 0, _ => exact go (by simp only [vLim] at hk ⊢; omega) (by omega)
  | 1, _ => exact go (by simp only [vLim] at hk ⊢; omega) (by omega)
  | 2, _ => exact go (by simp only [vLim] at hk ⊢; omega) (by omega)
  | 3, _ => exact go (by simp only [vLim] at hk ⊢; omega) (by omega)
  | 4, _ =>
    simp only [vLim, l0] at hk
    by_cases e : k = V 10 0
    · subst e
      simp only [ro]
      rw [uI_ni (by omega), uI_ni (by omega), uI_ni (by omega), uI_ni (by omega), uI_at, adE_4]
    · exact go (by simp only [vLim]; omega) (by omega)
  | 5, _ =>
    simp only [vLim, l0] at hk
    by_cases e : k = V 10 0
    · subst e
      simp only [ro]
      rw [uI_ni (by omega), uI_ni (by omega), uI_ni (by omega), uI_at, adE_5]
    · exact go (by simp only [vLim]; omega) (by omega)
  | 6, _ =>
    simp only [vLim, l0] at hk
    by_cases e : k = V 10 0
    · subst e
      simp only [ro]
      rw [uI_ni (by omega), uI_ni (by omega), uI_at, adE_6]
    · exact go (by simp only [vLim]; omega) (by omega)
  | 7, _ =>
    simp only [vLim, l0] at hk
    by_cases e : k = V 10 0
    · subst e
      simp only [ro]
      rw [uI_ni (by omega), uI_at, adE_7]
    · exact go (by simp only [vLim]; omega) (by omega)
  | 8, _ => exact go (by simp only [vLim, l1] at hk ⊢; omega) (by omega)
  | 9, _ => exact go (by simp only [vLim, l1] at hk ⊢; omega) (by omega)
  | 10, _ =>
    by_cases e : k = 0
    · subst e
      simp only [ro]
      rw [uI_at, l0]
    · exact go hk (fun _ => e)
/-- what a statement makes of a valley, if it can be done -/
def isD (V : Vm) (c : Int32) (l : Nat → Nat) : Option Vm := if c = nI 99 then (if l 0 < 8 then some (uV (uV (uV V 0 (l 0) (l 1)) 1 (l 0) (l 2)) 2 (l 0) (l 3)) else none) else if c = nI 101 then (if (1 ≤ l 0 ∧ l 0 ≤ 30) ∧ l 2 < 4 ∧ V 10 0 < 4 then some (adE V (l 0) (l 1) (l 2)) else none) else if c = nI 115 then (if l 0 < 8 ∧ V 10 1 < 7 then some (adS V (l 0) (l 1)) else none) else if c = nI 100 then (if l 0 ≤ 1 then some (uV V 10 3 (l 0)) else none) else if c = nI 104 then (if 1 ≤ l 0 ∧ l 0 ≤ 60 then some (wai V (l 0)) else none) else (if l 0 < V 10 1 ∧ l 1 < 8 ∧ l 1 ≤ vFl V (l 0) then some (thr V (l 0) (l 1)) else none)
/-- the numbers of a statement, each as long as its letter wants -/
def lim (gs : List Nat) (l : Nat → Nat) : Prop := ∀ j, j < gs.length → l j ≤ if gs.getD j 0 = 2 then 99 else 9
theorem WF_isD {V U : Vm} {c : Int32} {l : Nat → Nat} (hw : WF V) (hg : grp c ≠ []) (hl : lim (grp c) l) (e : isD V c l = some U) : WF U := by
  unfold isD at e
  split at e
  · rename_i q
    subst q
    have a1 := hl 1 (by decide)
    have a2 := hl 2 (by decide)
    have a3 := hl 3 (by decide)
    rw [if_neg (by decide)] at a1 a2 a3
    split at e
    · cases e
      refine WF_u (WF_u (WF_u hw (by omega) ?_ ?_ ?_ ?_ ?_ ?_) (by omega) ?_ ?_ ?_ ?_ ?_ ?_) (by omega) ?_ ?_ ?_ ?_ ?_ ?_ <;> (intro _; omega)
    · cases e
  split at e
  · rename_i q
    subst q
    have a1 := hl 1 (by decide)
    rw [if_neg (by decide)] at a1
    split at e
    · rename_i z
      cases e
      exact WF_adE hw z.2.2 z.1.2 a1 (by omega)
    · cases e
  split at e
  · rename_i q
    subst q
    have a1 := hl 1 (by decide)
    rw [if_neg (by decide)] at a1
    split at e
    · rename_i z
      cases e
      exact WF_add hw z.2 (by omega) a1
    · cases e
  split at e
  · split at e
    · rename_i z
      cases e
      exact WF_dr hw z
    · cases e
  split at e
  · split at e
    · cases e
      exact WF_wai hw
    · cases e
  · split at e
    · rename_i z
      cases e
      exact WF_thr hw z.2.1
    · cases e
def S_X11_isDone (c : Int32) (h : AH) (K : Int32 → AH → Prop) : Prop := ∃ V l, RV (h.1 16 0) V ∧ WF V ∧ grp c ≠ [] ∧ lim (grp c) l ∧ (∀ j, j < (grp c).length → h.1 19 0 j = nI (l j)) ∧ ∀ h', only 16 0 h h' → (∀ U, isD V c l = some U → RV (h'.1 16 0) U → K (nI 1) h') ∧ (isD V c l = none → K (nI 0) h')
def T_X11_isDone : List AV → AH → (Int32 → AH → Prop) → Prop := fun as h K => match as with
  | [.inr (.inr (.inl q0)), .inl q1] => tif (Nat.beq q0.1 15 && Nat.beq q0.2 0) (S_X11_isDone q1 h K)
  | _ => False

def M_X11_isDone : MI := (RX11, cX11_isDone, 5, [(0, .aload_n 0, []), (1, .getfield 25, []), (4, .iconst 0, []), (5, .iaload, []), (6, .istore_n 2, []), (7, .aload_n 0, []), (8, .getfield 25, []), (11, .iconst 1, []), (12, .iaload, []), (13, .istore_n 3, []), (14, .iload_n 1, []), (15, .lookupswitch 260 #[(99, 49), (100, 220), (101, 95), (104, 238), (115, 193)], [275, 64, 235, 110, 253, 208]), (64, .iload_n 2, []), (65, .invokestatic 120, []), (68, .ifCond .ne 5, [73]), (71, .iconst 0, []), (72, .ireturn, []), (73, .iconst 0, []), (74, .istore 4, []), (76, .iload 4, []), (78, .iconst 3, []), (79, .if_icmp .ge 29, [108]), (82, .aload_n 0, []), (83, .getfield 9, []), (86, .iload_n 2, []), (87, .iload 4, []), (89, .invokestatic 64, []), (92, .aload_n 0, []), (93, .getfield 25, []), (96, .iconst 1, []), (97, .iload 4, []), (99, .iadd, []), (100, .iaload, []), (101, .iastore, []), (102, .iinc 4 1, []), (105, .goto (-29), [76]), (108, .iconst 1, []), (109, .ireturn, []), (110, .iload_n 2, []), (111, .iconst 1, []), (112, .bipush 30, []), (114, .invokestatic 53, []), (117, .ifCond .eq 23, [140]), (120, .aload_n 0, []), (121, .getfield 25, []), (124, .iconst 2, []), (125, .iaload, []), (126, .iconst 4, []), (127, .if_icmp .ge 13, [140]), (130, .aload_n 0, []), (131, .getfield 9, []), (134, .iconst 0, []), (135, .iaload, []), (136, .iconst 4, []), (137, .if_icmp .ne 5, [142]), (140, .iconst 0, []), (141, .ireturn, []), (142, .iconst 0, []), (143, .istore 4, []), (145, .iload 4, []), (147, .iconst 3, []), (148, .if_icmp .ge 32, [180]), (151, .aload_n 0, []), (152, .getfield 9, []), (155, .aload_n 0, []), (156, .getfield 9, []), (159, .iconst 0, []), (160, .iaload, []), (161, .iload 4, []), (163, .invokestatic 75, []), (166, .aload_n 0, []), (167, .getfield 25, []), (170, .iload 4, []), (172, .iaload, []), (173, .iastore, []), (174, .iinc 4 1, []), (177, .goto (-32), [145]), (180, .aload_n 0, []), (181, .getfield 9, []), (184, .aload_n 0, []), (185, .getfield 9, []), (188, .iconst 0, []), (189, .iaload, []), (190, .iconst 3, []), (191, .invokestatic 75, []), (194, .iconst 0, []), (195, .iastore, []), (196, .aload_n 0, []), (197, .getfield 9, []), (200, .iconst 0, []), (201, .dup2, []), (202, .iaload, []), (203, .iconst 1, []), (204, .iadd, []), (205, .iastore, []), (206, .iconst 1, []), (207, .ireturn, []), (208, .iload_n 2, []), (209, .bipush 8, []), (211, .if_icmp .ge 14, [225]), (214, .aload_n 0, []), (215, .getfield 9, []), (218, .iconst 1, []), (219, .iaload, []), (220, .bipush 7, []), (222, .if_icmp .ne 5, [227]), (225, .iconst 0, []), (226, .ireturn, []), (227, .aload_n 0, []), (228, .iload_n 2, []), (229, .iload_n 3, []), (230, .invokevirtual 124, []), (233, .iconst 1, []), (234, .ireturn, []), (235, .aload_n 0, []), (236, .getfield 9, []), (239, .iconst 3, []), (240, .iload_n 2, []), (241, .iastore, []), (242, .iload_n 2, []), (243, .iconst 1, []), (244, .if_icmp .gt 7, [251]), (247, .iconst 1, []), (248, .goto 4, [252]), (251, .iconst 0, []), (252, .ireturn, []), (253, .iload_n 2, []), (254, .iconst 1, []), (255, .bipush 60, []), (257, .invokestatic 53, []), (260, .ifCond .ne 5, [265]), (263, .iconst 0, []), (264, .ireturn, []), (265, .aload_n 0, []), (266, .getfield 9, []), (269, .iload_n 2, []), (270, .invokestatic 128, []), (273, .iconst 1, []), (274, .ireturn, []), (275, .aload_n 0, []), (276, .iload_n 2, []), (277, .invokevirtual 132, []), (280, .ifCond .eq 22, [302]), (283, .iload_n 3, []), (284, .invokestatic 120, []), (287, .ifCond .eq 15, [302]), (290, .iload_n 3, []), (291, .aload_n 0, []), (292, .getfield 9, []), (295, .iload_n 2, []), (296, .invokestatic 135, []), (299, .if_icmp .le 5, [304]), (302, .iconst 0, []), (303, .ireturn, []), (304, .aload_n 0, []), (305, .getfield 9, []), (308, .iload_n 2, []), (309, .iload_n 3, []), (310, .invokestatic 138, []), (313, .istore 4, []), (315, .iconst 1, []), (316, .ireturn, [])], [(25, (15, 9, 1, 19, 0)), (9, (15, 0, 1, 16, 0))], [], [], [(361, (1, 2, 42, 0, 0, .inl T_X11_isCell)), (193, (2, 1, 21, 0, 0, .inl T_X11_atCell)), (160, (3, 1, 22, 0, 0, .inl T_X11_isIn)), (226, (2, 1, 21, 0, 0, .inl T_X11_atEagle)), (372, (3, 1, 22, 0, 0, .inr (.inl T_X11_addsSheep))), (385, (2, 3, 65, 0, 0, .inr (.inl T_X11_waitIn))), (396, (2, 2, 43, 0, 0, .inl T_X11_isSheep)), (406, (2, 2, 42, 0, 0, .inl T_X11_flies)), (415, (3, 5, 116, 0, 0, .inl T_X11_throwIn))], 5, 116, 0, 0)
theorem ok_X11_isDone : MOK M_X11_isDone := ⟨by decide +kernel, List.forall_mem_cons.mpr ⟨fl_RX11_25, List.forall_mem_cons.mpr ⟨fl_RX11_9, fun _ h => absurd h List.not_mem_nil⟩⟩, fun _ h => absurd h List.not_mem_nil, fun _ h => absurd h List.not_mem_nil, List.forall_mem_cons.mpr ⟨⟨Nat.le_of_ble_eq_true rfl, Nat.le_of_ble_eq_true rfl, cr_RX11_361⟩, List.forall_mem_cons.mpr ⟨⟨Nat.le_of_ble_eq_true rfl, Nat.le_of_ble_eq_true rfl, cr_RX11_193⟩, List.forall_mem_cons.mpr ⟨⟨Nat.le_of_ble_eq_true rfl, Nat.le_of_ble_eq_true rfl, cr_RX11_160⟩, List.forall_mem_cons.mpr ⟨⟨Nat.le_of_ble_eq_true rfl, Nat.le_of_ble_eq_true rfl, cr_RX11_226⟩, List.forall_mem_cons.mpr ⟨⟨Nat.le_of_ble_eq_true rfl, Nat.le_of_ble_eq_true rfl, cr_RX11_372⟩, List.forall_mem_cons.mpr ⟨⟨Nat.le_of_ble_eq_true rfl, Nat.le_of_ble_eq_true rfl, cr_RX11_385⟩, List.forall_mem_cons.mpr ⟨⟨Nat.le_of_ble_eq_true rfl, Nat.le_of_ble_eq_true rfl, cr_RX11_396⟩, List.forall_mem_cons.mpr ⟨⟨Nat.le_of_ble_eq_true rfl, Nat.le_of_ble_eq_true rfl, cr_RX11_406⟩, List.forall_mem_cons.mpr ⟨⟨Nat.le_of_ble_eq_true rfl, Nat.le_of_ble_eq_true rfl, cr_RX11_415⟩, fun _ h => absurd h List.not_mem_nil⟩⟩⟩⟩⟩⟩⟩⟩⟩⟩
set_option maxRecDepth 100000 in
theorem vc_X11_isDone {K : Int32 → AH → Prop} {h : AH} (p1 : Int32) (H : inR (nI 0) 4 ∧ inR (nI 1) 4 ∧ (p1 = iI 99 → S_X11_isCell (h.1 19 0 (nI 0).toNatClampNeg) h (fun x2 h1 => ((¬ x2 = 0) → AW M_X11_isDone (.inl (fun x u => (x = 0 ∨ x = 1) ∧ K x u)) 76 [some (aR 15 0), none, some (aI (h.1 19 0 (nI 0).toNatClampNeg)), none, some (aI (nI 0))] [] h1 0 0) ∧ (¬ (¬ x2 = 0) → (((nI 0) = 0 ∨ (nI 0) = 1) ∧ K (nI 0) h1)))) ∧ (¬ p1 = iI 99 → (p1 = iI 100 → inR (nI 3) 62 ∧ (((nI 1) < (h.1 19 0 (nI 0).toNatClampNeg)) → (((nI 0) = 0 ∨ (nI 0) = 1) ∧ K (nI 0) (wI h 16 0 (nI 3).toNatClampNeg (h.1 19 0 (nI 0).toNatClampNeg)))) ∧ (¬ ((nI 1) < (h.1 19 0 (nI 0).toNatClampNeg)) → (((nI 1) = 0 ∨ (nI 1) = 1) ∧ K (nI 1) (wI h 16 0 (nI 3).toNatClampNeg (h.1 19 0 (nI 0).toNatClampNeg))))) ∧ (¬ p1 = iI 100 → (p1 = iI 101 → S_X11_isIn (h.1 19 0 (nI 0).toNatClampNeg) (nI 1) (nI 30) h (fun x4 h3 => ((x4 = 0) → (((nI 0) = 0 ∨ (nI 0) = 1) ∧ K (nI 0) h3)) ∧ (¬ (x4 = 0) → inR (nI 2) 4 ∧ (((nI 4) ≤ (h3.1 19 0 (nI 2).toNatClampNeg)) → (((nI 0) = 0 ∨ (nI 0) = 1) ∧ K (nI 0) h3)) ∧ (¬ ((nI 4) ≤ (h3.1 19 0 (nI 2).toNatClampNeg)) → inR (nI 0) 62 ∧ ((¬ (h3.1 16 0 (nI 0).toNatClampNeg) = (nI 4)) → AW M_X11_isDone (.inl (fun x u => (x = 0 ∨ x = 1) ∧ K x u)) 145 [some (aR 15 0), none, none, none, some (aI (nI 0))] [] h3 0 0) ∧ (¬ (¬ (h3.1 16 0 (nI 0).toNatClampNeg) = (nI 4)) → (((nI 0) = 0 ∨ (nI 0) = 1) ∧ K (nI 0) h3)))))) ∧ (¬ p1 = iI 101 → (p1 = iI 104 → S_X11_isIn (h.1 19 0 (nI 0).toNatClampNeg) (nI 1) (nI 60) h (fun x6 h5 => ((¬ x6 = 0) → S_X11_waitIn 0 (h.1 19 0 (nI 0).toNatClampNeg) h5 (fun h7 => (((nI 1) = 0 ∨ (nI 1) = 1) ∧ K (nI 1) h7))) ∧ (¬ (¬ x6 = 0) → (((nI 0) = 0 ∨ (nI 0) = 1) ∧ K (nI 0) h5)))) ∧ (¬ p1 = iI 104 → (p1 = iI 115 → (((nI 8) ≤ (h.1 19 0 (nI 0).toNatClampNeg)) → (((nI 0) = 0 ∨ (nI 0) = 1) ∧ K (nI 0) h)) ∧ (¬ ((nI 8) ≤ (h.1 19 0 (nI 0).toNatClampNeg)) → inR (nI 1) 62 ∧ ((¬ (h.1 16 0 (nI 1).toNatClampNeg) = (nI 7)) → S_X11_addsSheep (h.1 19 0 (nI 0).toNatClampNeg) (h.1 19 0 (nI 1).toNatClampNeg) h (fun h8 => (((nI 1) = 0 ∨ (nI 1) = 1) ∧ K (nI 1) h8))) ∧ (¬ (¬ (h.1 16 0 (nI 1).toNatClampNeg) = (nI 7)) → (((nI 0) = 0 ∨ (nI 0) = 1) ∧ K (nI 0) h)))) ∧ (¬ p1 = iI 115 → S_X11_isSheep (h.1 19 0 (nI 0).toNatClampNeg) h (fun x10 h9 => ((x10 = 0) → (((nI 0) = 0 ∨ (nI 0) = 1) ∧ K (nI 0) h9)) ∧ (¬ (x10 = 0) → S_X11_isCell (h.1 19 0 (nI 1).toNatClampNeg) h9 (fun x12 h11 => ((x12 = 0) → (((nI 0) = 0 ∨ (nI 0) = 1) ∧ K (nI 0) h11)) ∧ (¬ (x12 = 0) → S_X11_flies 0 (h.1 19 0 (nI 0).toNatClampNeg) h11 (fun x14 h13 => (((h.1 19 0 (nI 1).toNatClampNeg) ≤ x14) → S_X11_throwIn 0 (h.1 19 0 (nI 0).toNatClampNeg) (h.1 19 0 (nI 1).toNatClampNeg) h13 (fun x16 h15 => (((nI 1) = 0 ∨ (nI 1) = 1) ∧ K (nI 1) h15))) ∧ (¬ ((h.1 19 0 (nI 1).toNatClampNeg) ≤ x14) → (((nI 0) = 0 ∨ (nI 0) = 1) ∧ K (nI 0) h13))))))))))))) : AW M_X11_isDone (.inl (fun x u => (x = 0 ∨ x = 1) ∧ K x u)) 0 [some (aR 15 0), some (aI p1), none, none, none] [] h 0 0 := AW_go (cuts := [(76, [true, false, true, false, true]), (145, [true, false, false, false, true])]) ok_X11_isDone 400 H
set_option maxRecDepth 100000 in
theorem vc_X11_isDone_76 {K : Int32 → AH → Prop} {h : AH}  (l2 : Int32) (l4 : Int32) (H : (((nI 3) ≤ l4) → (((nI 1) = 0 ∨ (nI 1) = 1) ∧ K (nI 1) h)) ∧ (¬ ((nI 3) ≤ l4) → S_X11_atCell l2 l4 h (fun x2 h1 => inR ((nI 1) + l4) 4 ∧ inR x2 62 ∧ AW M_X11_isDone (.inl (fun x u => (x = 0 ∨ x = 1) ∧ K x u)) 76 [some (aR 15 0), none, some (aI l2), none, some (aI (l4 + (nI 1)))] [] (wI h1 16 0 x2.toNatClampNeg (h1.1 19 0 ((nI 1) + l4).toNatClampNeg)) 0 0))) : AW M_X11_isDone (.inl (fun x u => (x = 0 ∨ x = 1) ∧ K x u)) 76 [some (aR 15 0), none, some (aI l2), none, some (aI l4)] [] h 0 0 := AW_go (cuts := [(76, [true, false, true, false, true]), (145, [true, false, false, false, true])]) ok_X11_isDone 400 H
set_option maxRecDepth 100000 in
theorem vc_X11_isDone_145 {K : Int32 → AH → Prop} {h : AH}  (l4 : Int32) (H : (((nI 3) ≤ l4) → inR (nI 0) 62 ∧ S_X11_atEagle (h.1 16 0 (nI 0).toNatClampNeg) (nI 3) h (fun x2 h1 => inR x2 62 ∧ inR (nI 0) 62 ∧ inR (nI 0) 62 ∧ (((nI 1) = 0 ∨ (nI 1) = 1) ∧ K (nI 1) (wI (wI h1 16 0 x2.toNatClampNeg (nI 0)) 16 0 (nI 0).toNatClampNeg (((wI h1 16 0 x2.toNatClampNeg (nI 0)).1 16 0 (nI 0).toNatClampNeg) + (nI 1)))))) ∧ (¬ ((nI 3) ≤ l4) → inR (nI 0) 62 ∧ S_X11_atEagle (h.1 16 0 (nI 0).toNatClampNeg) l4 h (fun x4 h3 => inR l4 4 ∧ inR x4 62 ∧ AW M_X11_isDone (.inl (fun x u => (x = 0 ∨ x = 1) ∧ K x u)) 145 [some (aR 15 0), none, none, none, some (aI (l4 + (nI 1)))] [] (wI h3 16 0 x4.toNatClampNeg (h3.1 19 0 l4.toNatClampNeg)) 0 0))) : AW M_X11_isDone (.inl (fun x u => (x = 0 ∨ x = 1) ∧ K x u)) 145 [some (aR 15 0), none, none, none, some (aI l4)] [] h 0 0 := AW_go (cuts := [(76, [true, false, true, false, true]), (145, [true, false, false, false, true])]) ok_X11_isDone 400 H

theorem dn_c_X11_isDone {V : Vm} {l : Nat → Nat} {h : AH} {K : Int32 → AH → Prop} (hr : RV (h.1 16 0) V) (hw : WF V) (h0 : l 0 < 8) (l1 : l 1 ≤ 9) (l2 : l 2 ≤ 9) (l3 : l 3 ≤ 9) (e1 : h.1 19 0 1 = nI (l 1)) (e2 : h.1 19 0 2 = nI (l 2)) (e3 : h.1 19 0 3 = nI (l 3)) (k : ∀ h', only 16 0 h h' → RV (h'.1 16 0) (uV (uV (uV V 0 (l 0) (l 1)) 1 (l 0) (l 2)) 2 (l 0) (l 3)) → K (nI 1) h') : AW M_X11_isDone (.inl (fun x u => (x = 0 ∨ x = 1) ∧ K x u)) 76 [some (aR 15 0), none, some (aI (nI (l 0))), none, some (aI (nI 0))] [] h 0 0 := by
  refine vc_X11_isDone_76 (nI (l 0)) (nI 0) ⟨fun q => absurd q (by decide), fun _ => ?_⟩
  simp (disch := omega) only [S_X11_atCell, pk_mul, nI_add, n_inT, n_cl, true_and, Nat.add_zero, Nat.reduceAdd]
  refine vc_X11_isDone_76 (nI (l 0)) (nI 1) ⟨fun q => absurd q (by decide), fun _ => ?_⟩
  simp (disch := omega) only [S_X11_atCell, pk_mul, nI_add, n_inT, n_cl, true_and, Nat.reduceAdd]
  refine vc_X11_isDone_76 (nI (l 0)) (nI 2) ⟨fun q => absurd q (by decide), fun _ => ?_⟩
  simp (disch := omega) only [S_X11_atCell, pk_mul, nI_add, n_inT, n_cl, true_and, Nat.reduceAdd]
  refine vc_X11_isDone_76 (nI (l 0)) (nI 3) ⟨fun _ => ⟨Or.inr (by decide), ?_⟩, fun q => absurd (by decide) q⟩
  have w1 := RV_set hw hr (t := 0) (i := l 0) (x := l 1) (by omega) h0
  have f1 : WF (uV V 0 (l 0) (l 1)) := by refine WF_u hw ?_ ?_ ?_ ?_ ?_ ?_ ?_ <;> first | omega | (intro _; omega)
  have w2 := RV_set f1 w1 (t := 1) (i := l 0) (x := l 2) (by omega) h0
  have f2 : WF (uV (uV V 0 (l 0) (l 1)) 1 (l 0) (l 2)) := by refine WF_u f1 ?_ ?_ ?_ ?_ ?_ ?_ ?_ <;> first | omega | (intro _; omega)
  have w3 := RV_set f2 w2 (t := 2) (i := l 0) (x := l 3) (by omega) h0
  rw [uI_nt (show (19 : Nat) ≠ 16 by decide), uI_nt (show (19 : Nat) ≠ 16 by decide), uI_nt (show (19 : Nat) ≠ 16 by decide), e1, e2, e3]
  exact k _ (only_tr (only_tr (only_wI ..) (only_wI ..)) (only_wI ..)) w3
theorem dn_e_X11_isDone {V : Vm} {l : Nat → Nat} {h : AH} {K : Int32 → AH → Prop} (hr : RV (h.1 16 0) V) (hw : WF V) (h4 : V 10 0 < 4) (e0 : h.1 19 0 0 = nI (l 0)) (e1 : h.1 19 0 1 = nI (l 1)) (e2 : h.1 19 0 2 = nI (l 2)) (k : ∀ h', only 16 0 h h' → RV (h'.1 16 0) (adE V (l 0) (l 1) (l 2)) → K (nI 1) h') : AW M_X11_isDone (.inl (fun x u => (x = 0 ∨ x = 1) ∧ K x u)) 145 [some (aR 15 0), none, none, none, some (aI (nI 0))] [] h 0 0 := by
  have z0 : h.1 16 0 0 = nI (V 10 0) := (RVs hr).2.2.2.2.2.2.2.2.2.2.1
  have w := RV_adE (a := l 0) (b := l 1) (n := l 2) hw hr h4
  refine vc_X11_isDone_145 (nI 0) ⟨fun q => absurd q (by decide), fun _ => ?_⟩
  simp (disch := omega) only [S_X11_atEagle, z0, e0, pk_mul, nI_add, n_inT, n_cl, true_and, Nat.reduceAdd]
  refine vc_X11_isDone_145 (nI 1) ⟨fun q => absurd q (by decide), fun _ => ?_⟩
  simp (disch := omega) only [S_X11_atEagle, uI_ni, uI_nt, z0, e1, pk_mul, nI_add, n_inT, n_cl, true_and, Nat.reduceAdd]
  refine vc_X11_isDone_145 (nI 2) ⟨fun q => absurd q (by decide), fun _ => ?_⟩
  simp (disch := omega) only [S_X11_atEagle, uI_ni, uI_nt, z0, e2, pk_mul, nI_add, n_inT, n_cl, true_and, Nat.reduceAdd]
  refine vc_X11_isDone_145 (nI 3) ⟨fun _ => ?_, fun q => absurd (by decide) q⟩
  simp (disch := omega) only [S_X11_atEagle, uI_ni, uI_nt, z0, pk_mul, nI_add, n_inT, n_cl, true_and, Nat.reduceAdd]
  exact ⟨Or.inr (by decide), k _ (only_tr (only_tr (only_tr (only_tr (only_wI ..) (only_wI ..)) (only_wI ..)) (only_wI ..)) (only_wI ..)) w⟩
theorem grp_116 {c : Int32} (hg : grp c ≠ []) (h1 : c ≠ nI 99) (h2 : c ≠ nI 101) (h3 : c ≠ nI 115) (h4 : c ≠ nI 100) (h5 : c ≠ nI 104) : c = nI 116 := by
  unfold grp at hg
  rw [if_neg h1, if_neg h2, if_neg h4, if_neg h5] at hg
  split at hg
  · rename_i z
    exact z.resolve_left h3
  · exact absurd rfl hg
theorem in1_iff {k n : Nat} (hk : k < 1000) (hn : n < 1000) : (nI 1 ≤ nI k ∧ nI k ≤ nI n) ↔ (1 ≤ k ∧ k ≤ n) := by rw [n_le (by omega) (by omega), n_le (by omega) (by omega)]
theorem in0_iff {k n : Nat} (hk : k < 1000) (hn : n < 1000) : (nI 0 ≤ nI k ∧ nI k ≤ nI n) ↔ k ≤ n := by rw [n_le (by omega) (by omega), n_le (by omega) (by omega)]; omega
theorem inL_iff {k n : Nat} (hk : k < 1000) (hn : n < 1000) : (nI 0 ≤ nI k ∧ nI k ≤ nI n - nI 1) ↔ k < n := by
  rw [in_iff (by omega)]
  constructor
  · rintro ⟨j, hj, e⟩
    rw [(n_eq (by omega) (by omega)).mp e]
    exact hj
  · exact fun q => ⟨k, q, rfl⟩
theorem snd_X11_isDone (c : Int32) {h : AH} {K : Int32 → AH → Prop} (k : S_X11_isDone c h K) : AW M_X11_isDone (.inl (fun x u => (x = 0 ∨ x = 1) ∧ K x u)) 0 [some (aR 15 0), some (aI c), none, none, none] [] h 0 0 := by
  obtain ⟨V, l, hr, hw, hg, hl, he, k⟩ := k
  have h4 := hw.1
  have h7 := hw.2.1
  have z0 : h.1 16 0 0 = nI (V 10 0) := (RVs hr).2.2.2.2.2.2.2.2.2.2.1
  have z1 : h.1 16 0 1 = nI (V 10 1) := (RVs hr).2.2.2.2.2.2.2.2.2.2.2.1
  refine vc_X11_isDone c ?_
  simp (disch := omega) only [n_inT, n_cl, true_and, show iI 99 = nI 99 by decide, show iI 100 = nI 100 by decide, show iI 101 = nI 101 by decide, show iI 104 = nI 104 by decide, show iI 115 = nI 115 by decide]
  have kn := fun q => (k h (only_rfl _ _ _)).2 q
  refine ⟨fun q => ?_, fun q1 => ⟨fun q => ?_, fun q2 => ⟨fun q => ?_, fun q3 => ⟨fun q => ?_, fun q4 => ⟨fun q => ?_, fun q5 => ?_⟩⟩⟩⟩⟩
  · subst q
    have a0 := hl 0 (by decide)
    have a1 := hl 1 (by decide)
    have a2 := hl 2 (by decide)
    have a3 := hl 3 (by decide)
    rw [if_neg (by decide)] at a0 a1 a2 a3
    have e0 := he 0 (by decide)
    have e1 := he 1 (by decide)
    have e2 := he 2 (by decide)
    have e3 := he 3 (by decide)
    rw [e0]
    unfold S_X11_isCell
    dsimp only
    simp (disch := omega) only [if10_eq, in0_iff]
    unfold isD at k kn
    rw [if_pos rfl] at kn
    by_cases z : l 0 < 8
    · refine ⟨fun _ => dn_c_X11_isDone hr hw z a1 a2 a3 e1 e2 e3 (fun h' o r => (k h' o).1 _ ?_ r), fun q => absurd (by omega) q⟩
      rw [if_pos rfl, if_pos z]
    · rw [if_neg z] at kn
      exact ⟨fun q => absurd (by omega) q, fun _ => ⟨Or.inl (by decide), kn rfl⟩⟩
  · subst q
    have a0 := hl 0 (by decide)
    rw [if_neg (by decide)] at a0
    have e0 := he 0 (by decide)
    rw [e0]
    simp (disch := omega) only [n_lt]
    have w := RV_set hw hr (t := 10) (i := 3) (x := l 0) (by omega) (show 3 < 4 by decide)
    have kk := k (wI h 16 0 3 (nI (l 0))) (only_wI ..)
    have ei : isD V (nI 100) l = if l 0 ≤ 1 then some (uV V 10 3 (l 0)) else none := by unfold isD; rw [if_neg (by decide), if_neg (by decide), if_neg (by decide), if_pos rfl]
    rw [ei] at kk
    by_cases z : l 0 ≤ 1
    · rw [if_pos z] at kk
      exact ⟨fun q => by omega, fun _ => ⟨Or.inr (by decide), kk.1 _ rfl w⟩⟩
    · rw [if_neg z] at kk
      exact ⟨fun _ => ⟨Or.inl (by decide), kk.2 rfl⟩, fun q => by omega⟩
  · subst q
    have a0 := hl 0 (by decide)
    have a1 := hl 1 (by decide)
    have a2 := hl 2 (by decide)
    rw [if_pos (by decide)] at a0
    rw [if_neg (by decide)] at a1 a2
    have e0 := he 0 (by decide)
    have e1 := he 1 (by decide)
    have e2 := he 2 (by decide)
    have ei : isD V (nI 101) l = if (1 ≤ l 0 ∧ l 0 ≤ 30) ∧ l 2 < 4 ∧ V 10 0 < 4 then some (adE V (l 0) (l 1) (l 2)) else none := by unfold isD; rw [if_neg (by decide), if_pos rfl]
    rw [ei] at k kn
    rw [e0]
    unfold S_X11_isIn
    dsimp only
    simp (disch := omega) only [if10_eq, in1_iff, e2, n_le, z0, n_eq]
    refine ⟨fun q => ⟨Or.inl (by decide), kn (if_neg (fun z => q z.1))⟩, fun q => ⟨fun q2 => ⟨Or.inl (by decide), kn (if_neg (fun z => by omega))⟩, fun q2 => ⟨fun q3 => ?_, fun q3 => ⟨Or.inl (by decide), kn (if_neg (fun z => by omega))⟩⟩⟩⟩
    exact dn_e_X11_isDone hr hw (by omega) e0 e1 e2 (fun h' o r => (k h' o).1 _ (if_pos ⟨Decidable.not_not.mp q, by omega, by omega⟩) r)
  · subst q
    have a0 := hl 0 (by decide)
    rw [if_pos (by decide)] at a0
    have e0 := he 0 (by decide)
    have ei : isD V (nI 104) l = if 1 ≤ l 0 ∧ l 0 ≤ 60 then some (wai V (l 0)) else none := by unfold isD; rw [if_neg (by decide), if_neg (by decide), if_neg (by decide), if_neg (by decide), if_pos rfl]
    rw [ei] at k kn
    rw [e0]
    unfold S_X11_isIn
    dsimp only
    simp (disch := omega) only [if10_eq, in1_iff]
    refine ⟨fun q => ⟨V, l 0, hr, hw, (Decidable.not_not.mp q).2, rfl, fun h' o r => ⟨Or.inr (by decide), (k h' o).1 _ (if_pos (Decidable.not_not.mp q)) r⟩⟩, fun q => ⟨Or.inl (by decide), kn (if_neg (fun z => q (fun y => y z)))⟩⟩
  · subst q
    have a0 := hl 0 (by decide)
    have a1 := hl 1 (by decide)
    rw [if_neg (by decide)] at a0 a1
    have e0 := he 0 (by decide)
    have e1 := he 1 (by decide)
    have ei : isD V (nI 115) l = if l 0 < 8 ∧ V 10 1 < 7 then some (adS V (l 0) (l 1)) else none := by unfold isD; rw [if_neg (by decide), if_neg (by decide), if_pos rfl]
    rw [ei] at k kn
    rw [e0, e1]
    simp (disch := omega) only [n_le, z1, n_eq]
    refine ⟨fun q => ⟨Or.inl (by decide), kn (if_neg (fun z => by omega))⟩, fun q => ⟨fun q2 => ?_, fun q2 => ⟨Or.inl (by decide), kn (if_neg (fun z => by omega))⟩⟩⟩
    exact ⟨V, l 0, l 1, hr, hw, by omega, rfl, rfl, fun h' o r => ⟨Or.inr (by decide), (k h' o).1 _ (if_pos ⟨by omega, by omega⟩) r⟩⟩
  · have e116 := grp_116 hg q1 q3 q5 q2 q4
    subst e116
    have a0 := hl 0 (by decide)
    have a1 := hl 1 (by decide)
    rw [if_neg (by decide)] at a0 a1
    have e0 := he 0 (by decide)
    have e1 := he 1 (by decide)
    have ei : isD V (nI 116) l = if l 0 < V 10 1 ∧ l 1 < 8 ∧ l 1 ≤ vFl V (l 0) then some (thr V (l 0) (l 1)) else none := by unfold isD; rw [if_neg (by decide), if_neg (by decide), if_neg (by decide), if_neg (by decide), if_neg (by decide)]
    rw [ei] at k kn
    rw [e0, e1]
    unfold S_X11_isSheep S_X11_isCell
    dsimp only
    rw [z1]
    simp (disch := omega) only [if10_eq, inL_iff, in0_iff]
    have hf : vFl V (l 0) ≤ 7 := fly_le _
    refine ⟨fun q => ⟨Or.inl (by decide), kn (if_neg (fun z => q z.1))⟩, fun q => ⟨fun q2 => ⟨Or.inl (by decide), kn (if_neg (fun z => by omega))⟩, fun q2 => ⟨V, l 0, ⟨hr, hw, by omega, rfl⟩, ?_⟩⟩⟩
    simp (disch := omega) only [n_le]
    refine ⟨fun q3 => ⟨V, l 0, l 1, ⟨hr, hw, by omega, rfl⟩, by omega, rfl, fun h' o r => ⟨Or.inr (by decide), (k h' o).1 _ (if_pos ⟨by omega, by omega, q3⟩) r⟩⟩, fun q3 => ⟨Or.inl (by decide), kn (if_neg (fun z => q3 z.2.2))⟩⟩
theorem tr_X11_isDone : ∀ (as : List AV) (h : AH) (K : Int32 → AH → Prop), T_X11_isDone as h K → ∃ (q : Nat) (r : List AV), as = aR 15 q :: r := by
  intro as h K hk
  match as, hk with
  | [.inr (.inr (.inl q0)), .inl q1], hk =>
    obtain ⟨hb, hk⟩ := tif_inv hk
    simp only [Bool.and_eq_true] at hb
    obtain ⟨e0, e1⟩ := hb
    obtain ⟨a0, b0⟩ := q0
    have f0 : a0 = 15 := Nat.eq_of_beq_eq_true e0
    subst f0
    have f1 : b0 = 0 := Nat.eq_of_beq_eq_true e1
    subst f1
    exact ⟨_, _, rfl⟩
theorem tw_X11_isDone : ∀ (as : List AV) (h : AH) (K : Int32 → AH → Prop), T_X11_isDone as h K → (ini as).length ≤ mNL M_X11_isDone ∧ AW M_X11_isDone (.inl (fun x u => (x = 0 ∨ x = 1) ∧ K x u)) 0 (initL (mNL M_X11_isDone) as) [] h 0 0 := by
  intro as h K hk
  match as, hk with
  | [.inr (.inr (.inl q0)), .inl q1], hk =>
    obtain ⟨hb, hk⟩ := tif_inv hk
    simp only [Bool.and_eq_true] at hb
    obtain ⟨e0, e1⟩ := hb
    obtain ⟨a0, b0⟩ := q0
    have f0 : a0 = 15 := Nat.eq_of_beq_eq_true e0
    subst f0
    have f1 : b0 = 0 := Nat.eq_of_beq_eq_true e1
    subst f1
    exact ⟨Nat.le_of_ble_eq_true rfl, snd_X11_isDone q1 hk⟩
theorem cr_RX11_456 : CR RX11 (kIns 456) (2, 6, 140, 0, 0, .inl T_X11_isDone) := crV_z (t := 15) (M := M_X11_isDone) (by decide) rfl (by decide) rfl (inG (i := 1014) (w := Cond.methodLink RX11 152 yX11_isDone) (by decide +kernel) rfl) (inG (i := 1016) (w := Cond.instanceMethod yX11_isDone) (by decide +kernel) rfl) (inG (i := 40) (w := Cond.initialized RX11) (by decide +kernel) rfl) (inG (i := 19) (w := Cond.selects RX11 yX11_isDone yX11_isDone) (by decide +kernel) rfl) (inG (i := 1017) (w := Cond.code yX11_isDone cX11_isDone 5 (some .boolean)) (by decide +kernel) rfl) ⟨by decide +kernel, by decide +kernel, by decide +kernel⟩ tr_X11_isDone tw_X11_isDone
end
section
/-! ===== the reference: a valley told ===== -/
theorem rd_b {H : Nat → Int32} {p : Nat} {g : Nat} (hg : g = 1 ∨ g = 2) : (rd H g p 0).2.2 ≤ if g = 2 then 99 else 9 := by
  have d : ∀ x, dgt x → nN x - 48 ≤ 9 := fun x hx => by
    obtain ⟨k, hk, rfl⟩ := in_d.mp hx
    unfold nN
    rw [n_cl (by omega)]
    omega
  rcases hg with rfl | rfl
  · rw [if_neg (by decide)]
    unfold rd
    split
    · rename_i q
      have := d _ q
      unfold rd
      show 10 * 0 + (nN (H p) - 48) ≤ 9
      omega
    · exact Nat.zero_le _
  · rw [if_pos rfl]
    unfold rd
    split
    · rename_i q
      have d1 := d _ q
      unfold rd
      split
      · rename_i q2
        have d2 := d _ q2
        unfold rd
        show 10 * (10 * 0 + (nN (H p) - 48)) + (nN (H (p + 1)) - 48) ≤ 99
        omega
      · show 10 * 0 + (nN (H p) - 48) ≤ 99
        omega
    · exact Nat.zero_le _
theorem rdG_p {H : Nat → Int32} : ∀ gs, (∀ g, g ∈ gs → g = 1 ∨ g = 2) → ∀ p, p ≤ (rdG H gs p).2.1 ∧ (rdG H gs p).2.1 ≤ p + 2 * gs.length + 1
  | [], _, p => by
    unfold rdG
    split
    · exact ⟨Nat.le_add_right _ _, Nat.le_refl _⟩
    · exact ⟨Nat.le_refl _, Nat.le_add_right _ _⟩
  | g :: gs, hg, p => by
    have h1 := rd_p (H := H) g p 0
    have h2 := rdG_p (H := H) gs (fun x hx => hg x (List.mem_cons_of_mem _ hx)) (rd H g p 0).2.1
    have h3 := hg g (List.mem_cons_self ..)
    simp only [List.length_cons]
    unfold rdG
    split
    · show p ≤ (rdG H gs (rd H g p 0).2.1).2.1 ∧ (rdG H gs (rd H g p 0).2.1).2.1 ≤ _
      omega
    · show p ≤ (rd H g p 0).2.1 ∧ (rd H g p 0).2.1 ≤ _
      omega
theorem rdG_l {H : Nat → Int32} : ∀ gs, (∀ g, g ∈ gs → g = 1 ∨ g = 2) → ∀ p, (rdG H gs p).1 = true → (rdG H gs p).2.2.length = gs.length ∧ ∀ j, j < gs.length → (rdG H gs p).2.2.getD j 0 ≤ if gs.getD j 0 = 2 then 99 else 9
  | [], _, p, h => by
    unfold rdG at h ⊢
    split
    · exact ⟨rfl, fun j hj => absurd hj (Nat.not_lt_zero j)⟩
    · rename_i q
      rw [if_neg q] at h
      exact absurd h (show ¬ false = true by decide)
  | g :: gs, hg, p, h => by
    have h3 := hg g (List.mem_cons_self ..)
    unfold rdG at h ⊢
    by_cases q : (rd H g p 0).1 = true
    · rw [if_pos q] at h ⊢
      obtain ⟨e1, e2⟩ := rdG_l gs (fun x hx => hg x (List.mem_cons_of_mem _ hx)) (rd H g p 0).2.1 h
      refine ⟨by simp only [List.length_cons, e1], fun j hj => ?_⟩
      cases j with
      | zero => exact rd_b h3
      | succ j => exact e2 j (by simp only [List.length_cons] at hj; omega)
    · rw [if_neg q] at h
      exact absurd h (show ¬ false = true by decide)
theorem grp_g (x : Int32) : (∀ g, g ∈ grp x → g = 1 ∨ g = 2) ∧ (grp x).length ≤ 4 := by
  unfold grp
  (repeat' split) <;> refine ⟨fun g hg => ?_, by decide⟩ <;> simp at hg <;> omega
theorem rdS_p (H : Nat → Int32) (p : Nat) : p ≤ (rdS H p).2.1 ∧ (rdS H p).2.1 ≤ p + 10 ∧ ((rdS H p).1 = true → p < (rdS H p).2.1) := by
  obtain ⟨g1, g2⟩ := grp_g (H p)
  unfold rdS
  split
  · exact ⟨Nat.le_refl _, Nat.le_add_right _ _, fun z => absurd z (show ¬ false = true by decide)⟩
  · have := rdG_p (H := H) _ g1 (p + 1)
    omega
theorem rdS_l {H : Nat → Int32} {p : Nat} (h : (rdS H p).1 = true) : grp (H p) ≠ [] ∧ (rdS H p).2.2.length = (grp (H p)).length ∧ lim (grp (H p)) (fun j => (rdS H p).2.2.getD j 0) := by
  obtain ⟨g1, g2⟩ := grp_g (H p)
  unfold rdS at h ⊢
  by_cases q : grp (H p) = []
  · rw [if_pos q] at h
    exact absurd h (show ¬ false = true by decide)
  · rw [if_neg q] at h ⊢
    obtain ⟨e1, e2⟩ := rdG_l _ g1 (p + 1) h
    exact ⟨q, e1, e2⟩
/-- the statements of a text: how many, or the place of a fault -/
def sc (H : Nat → Int32) (sz : Nat) : Nat → Nat → Nat → Nat ⊕ Nat
  | 0, p, _ => .inr p
  | f + 1, p, n => if (rdS H p).1 = true then (if (rdS H p).2.1 < sz then sc H sz f (rdS H p).2.1 (n + 1) else .inl (n + 1)) else .inr (rdS H p).2.1
def stO (H : Nat → Int32) (V : Vm) (p : Nat) : Option Vm := isD V (H p) (fun j => (rdS H p).2.2.getD j 0)
/-- the statements done: the valley, or the place of a fault -/
def rn (H : Nat → Int32) (sz : Nat) : Nat → Nat → Vm → Vm ⊕ Nat
  | 0, _, V => .inl V
  | f + 1, p, V => if p < sz then (match stO H V p with
    | some U => rn H sz f (rdS H p).2.1 U
    | none => .inr p) else .inl V
theorem sc_s {H : Nat → Int32} {sz f p n : Nat} : sc H sz (f + 1) p n = if (rdS H p).1 = true then (if (rdS H p).2.1 < sz then sc H sz f (rdS H p).2.1 (n + 1) else .inl (n + 1)) else .inr (rdS H p).2.1 := rfl
theorem rn_s {H : Nat → Int32} {sz f p : Nat} {V : Vm} : rn H sz (f + 1) p V = if p < sz then (match stO H V p with
    | some U => rn H sz f (rdS H p).2.1 U
    | none => .inr p) else .inl V := rfl
def M_text (H : Nat → Int32) (sz : Nat) (V : Vm) : Int32 × Vm := match sc H sz 101 0 0 with
  | .inr p => (iI (-1000) - nI p, V)
  | .inl n => match rn H sz 101 0 V with
    | .inr p => (iI (-2000) - nI p, V)
    | .inl U => (nI n, U)
def M_valley (S : Sm) (V : Vm) (d : Int32) : Int32 × Vm := if rwR S d (nI 0) ≠ nI 0 then (rwR S d (nI 0), V) else M_text (hb (S.2 (nN d)) (S.1 4 (nN d))) (S.1 4 (nN d)) V
theorem rwR0_cases {S : Sm} (hw : WS S) (d : Int32) : (∃ m, m < 8 ∧ d = nI m ∧ S.1 0 m = 2 ∧ S.1 3 m = 0 ∧ rwR S d (nI 0) = nI 0) ∨ rwR S d (nI 0) ≠ nI 0 := by
  unfold rwR
  by_cases h : cel d
  · rw [if_neg (fun z => z h)]
    obtain ⟨m, hm, rfl⟩ := in8_iff.mp h
    unfold nN
    rw [n_cl (by omega)]
    have w := hw m hm
    by_cases h0 : S.1 0 m = 0
    · rw [if_pos h0]; exact Or.inr (by decide)
    · rw [if_neg h0]
      by_cases h2 : S.1 0 m ≠ 2 ∨ (¬ nI 0 < 0 ∧ nI (S.1 3 m) ≠ nI 0)
      · rw [if_pos h2]; exact Or.inr (by decide)
      · rw [if_neg h2]
        have a : S.1 0 m = 2 := Decidable.not_not.mp (fun z => h2 (Or.inl z))
        have b := (w.2.2 a).1
        refine Or.inl ⟨m, hm, rfl, a, ?_, rfl⟩
        have c : ¬ nI (S.1 3 m) ≠ nI 0 := fun z => h2 (Or.inr ⟨by decide, z⟩)
        exact (n_eq (by omega) (by omega)).mp (Decidable.not_not.mp c)
  · rw [if_pos h]; exact Or.inr (by decide)
/-- everything but the image and the shelves may have changed -/
def keepV (h h' : AH) : Prop := h'.2 = h.2 ∧ ∀ a b i, ¬ ((a = 16 ∧ b ≠ 3) ∨ (a = 15 ∧ i ≠ 5) ∨ a = 17 ∨ a = 19 ∨ a = 20) → h'.1 a b i = h.1 a b i
theorem keepV_rfl (h : AH) : keepV h h := ⟨rfl, fun _ _ _ _ => rfl⟩
theorem keepV_tr {h h1 h2 : AH} (a : keepV h h1) (b : keepV h1 h2) : keepV h h2 := ⟨b.1.trans a.1, fun x y i q => (b.2 x y i q).trans (a.2 x y i q)⟩
theorem keepV_o {j : Nat} {h h1 : AH} (h3 : j ≠ 3) (a : only 16 j h h1) : keepV h h1 := ⟨a.1, fun x y i q => by rw [a.2 x y (fun e => q (Or.inl ⟨e.1, by omega⟩))]⟩
theorem keepV_M {h h1 : AH} (a : keepM h h1) : keepV h h1 := ⟨a.1, fun x y i q => a.2 x y i (by omega)⟩
theorem keepV_w {h : AH} {i : Nat} {x : Int32} (hi : i ≠ 5) : keepV h (wI h 15 0 i x) := keepV_M (keepM_w (by omega))
theorem txt_o {h h' : AH} {E : Nat → Int32} {sz p a j : Nat} (o : only 16 j h h') (t : txt h E sz p a) : txt h' E sz p a := by
  obtain ⟨t1, t2, t3, t4, t5, t6, t7⟩ := t
  exact ⟨by rw [o.2 _ _ (by omega)]; exact t1, by rw [o.2 _ _ (by omega)]; exact t2, by rw [o.2 _ _ (by omega)]; exact t3, t4, t5, t6, fun i hi => by rw [o.2 _ _ (by omega)]; exact t7 i hi⟩
def S_X11_valley (d : Int32) (h : AH) (K : Int32 → AH → Prop) : Prop := ∃ S V, MSh h S ∧ WS S ∧ RV (h.1 16 0) V ∧ WF V ∧ ∀ h', keepV h h' → RV (h'.1 16 0) (M_valley S V d).2 → K (M_valley S V d).1 h'
def T_X11_valley : List AV → AH → (Int32 → AH → Prop) → Prop := fun as h K => match as with
  | [.inr (.inr (.inl q0)), .inl q1] => tif (Nat.beq q0.1 15 && Nat.beq q0.2 0) (S_X11_valley q1 h K)
  | _ => False

def M_X11_valley : MI := (RX11, cX11_valley, 8, [(0, .aload_n 0, []), (1, .iload_n 1, []), (2, .iconst 0, []), (3, .invokevirtual 141, []), (6, .istore_n 2, []), (7, .iload_n 2, []), (8, .ifCond .eq 5, [13]), (11, .iload_n 2, []), (12, .ireturn, []), (13, .aload_n 0, []), (14, .bipush 100, []), (16, .iload_n 1, []), (17, .imul, []), (18, .putfield 109, []), (21, .aload_n 0, []), (22, .aload_n 0, []), (23, .getfield 47, []), (26, .iload_n 1, []), (27, .iaload, []), (28, .putfield 106, []), (31, .aload_n 0, []), (32, .iconst 0, []), (33, .putfield 102, []), (36, .iconst 0, []), (37, .istore_n 3, []), (38, .iconst 0, []), (39, .istore 4, []), (41, .aload_n 0, []), (42, .invokevirtual 144, []), (45, .ifCond .ne 13, [58]), (48, .sipush (-1000), []), (51, .aload_n 0, []), (52, .getfield 102, []), (55, .isub, []), (56, .istore 4, []), (58, .iinc 3 1, []), (61, .iload 4, []), (63, .ifCond .ne 14, [77]), (66, .aload_n 0, []), (67, .getfield 102, []), (70, .aload_n 0, []), (71, .getfield 106, []), (74, .if_icmp .lt (-33), [41]), (77, .aload_n 0, []), (78, .getfield 9, []), (81, .aload_n 0, []), (82, .getfield 22, []), (85, .invokestatic 148, []), (88, .aload_n 0, []), (89, .iconst 0, []), (90, .putfield 102, []), (93, .iload 4, []), (95, .ifCond .ne 66, [161]), (98, .aload_n 0, []), (99, .getfield 102, []), (102, .aload_n 0, []), (103, .getfield 106, []), (106, .if_icmp .ge 55, [161]), (109, .aload_n 0, []), (110, .getfield 102, []), (113, .istore 5, []), (115, .aload_n 0, []), (116, .invokevirtual 112, []), (119, .istore 6, []), (121, .aload_n 0, []), (122, .invokevirtual 144, []), (125, .istore 7, []), (127, .aload_n 0, []), (128, .iload 6, []), (130, .invokevirtual 152, []), (133, .ifCond .eq 6, [139]), (136, .goto (-43), [93]), (139, .sipush (-2000), []), (142, .iload 5, []), (144, .isub, []), (145, .istore 4, []), (147, .aload_n 0, []), (148, .getfield 22, []), (151, .aload_n 0, []), (152, .getfield 9, []), (155, .invokestatic 148, []), (158, .goto (-65), [93]), (161, .iload 4, []), (163, .ifCond .ne 7, [170]), (166, .iload_n 3, []), (167, .goto 5, [172]), (170, .iload 4, []), (172, .ireturn, [])], [(109, (15, 7, 0, 0, 0)), (47, (15, 20, 1, 21, 4)), (106, (15, 8, 0, 0, 0)), (102, (15, 6, 0, 0, 0)), (9, (15, 0, 1, 16, 0)), (22, (15, 4, 1, 16, 4))], [], [], [(423, (3, 3, 64, 0, 0, .inl T_X11_wrongRow)), (432, (1, 3, 67, 0, 0, .inl T_X11_readsStatement)), (445, (2, 1, 22, 0, 0, .inr (.inl T_X11_copies))), (336, (1, 1, 20, 0, 0, .inl T_X11_here)), (456, (2, 6, 140, 0, 0, .inl T_X11_isDone))], 6, 140, 0, 0)
theorem ok_X11_valley : MOK M_X11_valley := ⟨by decide +kernel, List.forall_mem_cons.mpr ⟨fl_RX11_109, List.forall_mem_cons.mpr ⟨fl_RX11_47, List.forall_mem_cons.mpr ⟨fl_RX11_106, List.forall_mem_cons.mpr ⟨fl_RX11_102, List.forall_mem_cons.mpr ⟨fl_RX11_9, List.forall_mem_cons.mpr ⟨fl_RX11_22, fun _ h => absurd h List.not_mem_nil⟩⟩⟩⟩⟩⟩, fun _ h => absurd h List.not_mem_nil, fun _ h => absurd h List.not_mem_nil, List.forall_mem_cons.mpr ⟨⟨Nat.le_of_ble_eq_true rfl, Nat.le_of_ble_eq_true rfl, cr_RX11_423⟩, List.forall_mem_cons.mpr ⟨⟨Nat.le_of_ble_eq_true rfl, Nat.le_of_ble_eq_true rfl, cr_RX11_432⟩, List.forall_mem_cons.mpr ⟨⟨Nat.le_of_ble_eq_true rfl, Nat.le_of_ble_eq_true rfl, cr_RX11_445⟩, List.forall_mem_cons.mpr ⟨⟨Nat.le_of_ble_eq_true rfl, Nat.le_of_ble_eq_true rfl, cr_RX11_336⟩, List.forall_mem_cons.mpr ⟨⟨Nat.le_of_ble_eq_true rfl, Nat.le_of_ble_eq_true rfl, cr_RX11_456⟩, fun _ h => absurd h List.not_mem_nil⟩⟩⟩⟩⟩⟩
set_option maxRecDepth 100000 in
theorem vc_X11_valley {K : Int32 → AH → Prop} {h : AH} (p1 : Int32) (H : S_X11_wrongRow p1 (nI 0) h (fun x2 h1 => ((x2 = 0) → inR p1 8 ∧ AW M_X11_valley (.inl K) 41 [some (aR 15 0), none, none, some (aI (nI 0)), some (aI (nI 0)), none, none, none] [] (wI (wI (wI h1 15 0 7 ((nI 100) * p1)) 15 0 8 ((wI h1 15 0 7 ((nI 100) * p1)).1 21 4 p1.toNatClampNeg)) 15 0 6 (nI 0)) 0 0) ∧ (¬ (x2 = 0) → K x2 h1))) : AW M_X11_valley (.inl K) 0 [some (aR 15 0), some (aI p1), none, none, none, none, none, none] [] h 0 0 := AW_go (cuts := [(41, [true, false, false, true, true, false, false, false]), (93, [true, false, false, true, true, false, false, false])]) ok_X11_valley 400 H
set_option maxRecDepth 100000 in
theorem vc_X11_valley_41 {K : Int32 → AH → Prop} {h : AH}  (l3 : Int32) (l4 : Int32) (H : S_X11_readsStatement h (fun x2 h1 => ((¬ x2 = 0) → ((¬ l4 = 0) → S_X11_copies 0 4 h1 (fun h3 => AW M_X11_valley (.inl K) 93 [some (aR 15 0), none, none, some (aI (l3 + (nI 1))), some (aI l4), none, none, none] [] (wI h3 15 0 6 (nI 0)) 0 0)) ∧ (¬ (¬ l4 = 0) → (((h1.1 15 0 6) < (h1.1 15 0 8)) → AW M_X11_valley (.inl K) 41 [some (aR 15 0), none, none, some (aI (l3 + (nI 1))), some (aI l4), none, none, none] [] h1 0 0) ∧ (¬ ((h1.1 15 0 6) < (h1.1 15 0 8)) → S_X11_copies 0 4 h1 (fun h4 => AW M_X11_valley (.inl K) 93 [some (aR 15 0), none, none, some (aI (l3 + (nI 1))), some (aI l4), none, none, none] [] (wI h4 15 0 6 (nI 0)) 0 0)))) ∧ (¬ (¬ x2 = 0) → ((¬ ((iI (-1000)) - (h1.1 15 0 6)) = 0) → S_X11_copies 0 4 h1 (fun h5 => AW M_X11_valley (.inl K) 93 [some (aR 15 0), none, none, some (aI (l3 + (nI 1))), some (aI ((iI (-1000)) - (h1.1 15 0 6))), none, none, none] [] (wI h5 15 0 6 (nI 0)) 0 0)) ∧ (¬ (¬ ((iI (-1000)) - (h1.1 15 0 6)) = 0) → (((h1.1 15 0 6) < (h1.1 15 0 8)) → AW M_X11_valley (.inl K) 41 [some (aR 15 0), none, none, some (aI (l3 + (nI 1))), some (aI ((iI (-1000)) - (h1.1 15 0 6))), none, none, none] [] h1 0 0) ∧ (¬ ((h1.1 15 0 6) < (h1.1 15 0 8)) → S_X11_copies 0 4 h1 (fun h6 => AW M_X11_valley (.inl K) 93 [some (aR 15 0), none, none, some (aI (l3 + (nI 1))), some (aI ((iI (-1000)) - (h1.1 15 0 6))), none, none, none] [] (wI h6 15 0 6 (nI 0)) 0 0)))))) : AW M_X11_valley (.inl K) 41 [some (aR 15 0), none, none, some (aI l3), some (aI l4), none, none, none] [] h 0 0 := AW_go (cuts := [(41, [true, false, false, true, true, false, false, false]), (93, [true, false, false, true, true, false, false, false])]) ok_X11_valley 400 H
set_option maxRecDepth 100000 in
theorem vc_X11_valley_93 {K : Int32 → AH → Prop} {h : AH}  (l3 : Int32) (l4 : Int32) (H : ((¬ l4 = 0) → ((¬ l4 = 0) → K l4 h) ∧ (¬ (¬ l4 = 0) → K l3 h)) ∧ (¬ (¬ l4 = 0) → (((h.1 15 0 8) ≤ (h.1 15 0 6)) → ((¬ l4 = 0) → K l4 h) ∧ (¬ (¬ l4 = 0) → K l3 h)) ∧ (¬ ((h.1 15 0 8) ≤ (h.1 15 0 6)) → S_X11_here h (fun x2 h1 => S_X11_readsStatement h1 (fun x4 h3 => S_X11_isDone x2 h3 (fun x6 h5 => ((x6 = 0) → S_X11_copies 4 0 h5 (fun h7 => AW M_X11_valley (.inl K) 93 [some (aR 15 0), none, none, some (aI l3), some (aI ((iI (-2000)) - (h.1 15 0 6))), none, none, none] [] h7 0 0)) ∧ (¬ (x6 = 0) → AW M_X11_valley (.inl K) 93 [some (aR 15 0), none, none, some (aI l3), some (aI l4), none, none, none] [] h5 0 0))))))) : AW M_X11_valley (.inl K) 93 [some (aR 15 0), none, none, some (aI l3), some (aI l4), none, none, none] [] h 0 0 := AW_go (cuts := [(41, [true, false, false, true, true, false, false, false]), (93, [true, false, false, true, true, false, false, false])]) ok_X11_valley 400 H

theorem flt0 {p : Nat} (hp : p ≤ 200) : ¬ iI (-1000) - nI p = 0 ∧ ¬ iI (-2000) - nI p = 0 := by
  rw [nI_iI, i_sub, i_sub, i_0, i_eq (by omega) (by omega) (by omega) (by omega), i_eq (by omega) (by omega) (by omega) (by omega)]
  omega
theorem lp2_X11_valley {E : Nat → Int32} {sz a n0 : Nat} {V0 : Vm} {h0 : AH} {K : Int32 → AH → Prop} (hv0 : WF V0) (hn : n0 ≤ 101) (k : ∀ h', keepV h0 h' → RV (h'.1 16 0) V0 → ∀ p, rn (hb E sz) sz 101 0 V0 = .inr p → K (iI (-2000) - nI p) h') (k2 : ∀ h' U, keepV h0 h' → RV (h'.1 16 0) U → rn (hb E sz) sz 101 0 V0 = .inl U → K (nI n0) h') : ∀ f p V h, p + f ≥ 101 → p ≤ 110 → (p < sz → ∃ m n, sc (hb E sz) sz f p m = .inl n) → rn (hb E sz) sz 101 0 V0 = rn (hb E sz) sz f p V → keepV h0 h → txt h E sz p a → RV (h.1 16 0) V → WF V → RV (h.1 16 4) V0 → AW M_X11_valley (.inl K) 93 [some (aR 15 0), none, none, some (aI (nI n0)), some (aI (nI 0)), none, none, none] [] h 0 0 := by
  intro f
  induction f with
  | zero =>
    intro p V h hp hp2 hs hr kv ht rv wv r4
    refine vc_X11_valley_93 (nI n0) (nI 0) ⟨fun q => absurd rfl q, fun _ => ?_⟩
    rw [ht.1, ht.2.2.1, n_le (by have := ht.2.2.2.2.1; omega) (by omega)]
    refine ⟨fun _ => ⟨fun q => absurd rfl q, fun _ => ?_⟩, fun q => by have := ht.2.2.2.2.1; omega⟩
    exact k2 h V kv rv (by rw [hr]; rfl)
  | succ f ih =>
    intro p V h hp hp2 hs hr kv ht rv wv r4
    refine vc_X11_valley_93 (nI n0) (nI 0) ⟨fun q => absurd rfl q, fun _ => ?_⟩
    rw [ht.1, ht.2.2.1, n_le (by have := ht.2.2.2.2.1; omega) (by omega)]
    rw [rn_s (f := f) (p := p) (V := V)] at hr
    refine ⟨fun q => ⟨fun q => absurd rfl q, fun _ => ?_⟩, fun q => ⟨E, sz, p, a, ht, ?_⟩⟩
    · rw [if_neg (by omega)] at hr
      exact k2 h V kv rv hr
    · have q : p < sz := by omega
      rw [if_pos q] at hr
      obtain ⟨m, n, es⟩ := hs q
      rw [sc_s (f := f) (p := p) (n := m)] at es
      by_cases ok : (rdS (hb E sz) p).1 = true
      case neg => rw [if_neg ok] at es; cases es
      rw [if_pos ok] at es
      obtain ⟨p1, p2, p3⟩ := rdS_p (hb E sz) p
      obtain ⟨l1, l2, l3⟩ := rdS_l ok
      have hz : sz ≤ 100 := ht.2.2.2.2.1
      refine ⟨E, sz, p, a, ht, by omega, fun h1 n1 t1 e1 => ?_⟩
      rw [if_pos ok]
      have e1 := e1 ok
      have k1 : keepV h h1 := keepV_M (keepN_M n1)
      have r1 : RV (h1.1 16 0) V := by
        have : h1.1 16 0 = h.1 16 0 := funext fun i => n1.2 16 0 i (by omega)
        rw [this]; exact rv
      have r41 : RV (h1.1 16 4) V0 := by
        have : h1.1 16 4 = h.1 16 4 := funext fun i => n1.2 16 4 i (by omega)
        rw [this]; exact r4
      refine ⟨V, fun j => (rdS (hb E sz) p).2.2.getD j 0, r1, wv, l1, l3, fun j hj => e1 j (by omega), fun h2 o2 => ⟨fun U eU rU => ⟨fun z => absurd z (by decide), fun _ => ?_⟩, fun eN => ⟨fun _ => ?_, fun z => absurd (by decide) z⟩⟩⟩
      · have hr2 : rn (hb E sz) sz 101 0 V0 = rn (hb E sz) sz f (rdS (hb E sz) p).2.1 U := by
          rw [hr]
          have : stO (hb E sz) V p = some U := eU
          rw [this]
        refine ih (rdS (hb E sz) p).2.1 U h2 (by have := p3 ok; omega) (by omega) (fun z => ?_) hr2 (keepV_tr kv (keepV_tr k1 (keepV_o (by omega) o2))) (txt_o o2 t1) rU (WF_isD wv l1 l3 eU) ?_
        · rw [if_pos z] at es
          exact ⟨_, _, es⟩
        · rw [o2.2 16 4 (by omega)]; exact r41
      · have hr2 : rn (hb E sz) sz 101 0 V0 = .inr p := by
          rw [hr]
          have : stO (hb E sz) V p = none := eN
          rw [this]
        refine ⟨by decide, fun h3 o3 c3 => ?_⟩
        have r43 : RV (h3.1 16 0) V0 := by
          refine RV_cp hv0 (r := h2.1 16 4) ?_ c3
          rw [o2.2 16 4 (by omega)]; exact r41
        have kv3 := keepV_tr kv (keepV_tr k1 (keepV_tr (keepV_o (by omega) o2) (keepV_o (by omega) o3)))
        have f0 := (flt0 (p := p) (by omega)).2
        exact vc_X11_valley_93 (nI n0) (iI (-2000) - nI p) ⟨fun _ => ⟨fun _ => k h3 kv3 r43 p hr2, fun z => absurd f0 z⟩, fun z => absurd f0 z⟩
theorem lp1_X11_valley {S : Sm} {E : Nat → Int32} {sz a : Nat} {V : Vm} {h0 : AH} {K : Int32 → AH → Prop} (hv : WF V) (k : ∀ h', keepV h0 h' → RV (h'.1 16 0) (M_text (hb E sz) sz V).2 → K (M_text (hb E sz) sz V).1 h') : ∀ f p n h, p + f ≥ 101 → (p = 0 ∨ p < sz) → n + f ≤ 101 → sc (hb E sz) sz 101 0 0 = sc (hb E sz) sz f p n → keepV h0 h → txt h E sz p a → RV (h.1 16 0) V → AW M_X11_valley (.inl K) 41 [some (aR 15 0), none, none, some (aI (nI n)), some (aI (nI 0)), none, none, none] [] h 0 0 := by
  intro f
  induction f with
  | zero =>
    intro p n h hp hp2 hn hs kv ht rv
    have hz : sz ≤ 100 := ht.2.2.2.2.1
    omega
  | succ f ih =>
    intro p n h hp hp2 hn hs kv ht rv
    have hz : sz ≤ 100 := ht.2.2.2.2.1
    refine vc_X11_valley_41 (nI n) (nI 0) ⟨E, sz, p, a, ht, by omega, fun h1 n1 t1 _ => ?_⟩
    obtain ⟨p1, p2, p3⟩ := rdS_p (hb E sz) p
    have k1 : keepV h0 h1 := keepV_tr kv (keepV_M (keepN_M n1))
    have r1 : RV (h1.1 16 0) V := by
      have : h1.1 16 0 = h.1 16 0 := funext fun i => n1.2 16 0 i (by omega)
      rw [this]; exact rv
    rw [sc_s (f := f) (p := p) (n := n)] at hs
    by_cases ok : (rdS (hb E sz) p).1 = true
    · rw [if_pos ok] at hs ⊢
      rw [t1.1, t1.2.2.1, n_lt (by omega) (by omega), nI_add]
      refine ⟨fun _ => ⟨fun z => absurd rfl z, fun _ => ⟨fun q => ?_, fun q => ⟨by decide, fun h3 o3 c3 => ?_⟩⟩⟩, fun z => absurd (show ¬ nI 1 = 0 by decide) z⟩
      · rw [if_pos q] at hs
        exact ih (rdS (hb E sz) p).2.1 (n + 1) h1 (by have := p3 ok; omega) (Or.inr q) (by omega) hs k1 t1 r1
      · rw [if_neg q] at hs
        have k3 : keepV h0 (wI h3 15 0 6 (nI 0)) := keepV_tr k1 (keepV_tr (keepV_o (by omega) o3) (keepV_w (by omega)))
        have t3 : txt (wI h3 15 0 6 (nI 0)) E sz 0 a := txt_k keepN_6 (txt_o o3 t1) (wI_at _ _ _ _ _) (by omega)
        have r3 : RV ((wI h3 15 0 6 (nI 0)).1 16 0) V := by
          have : (wI h3 15 0 6 (nI 0)).1 16 0 = h1.1 16 0 := by
            funext i
            rw [wI_nt (by omega), o3.2 16 0 (by omega)]
          rw [this]; exact r1
        have r4 : RV ((wI h3 15 0 6 (nI 0)).1 16 4) V := RV_cp hv r1 (fun i hi => by rw [wI_nt (by omega)]; exact c3 i hi)
        refine lp2_X11_valley (h0 := h0) (V0 := V) hv (by omega) (fun h' q1 q2 p' q3 => ?_) (fun h' U q1 q2 q3 => ?_) 101 0 V _ (by omega) (by omega) (fun _ => ⟨0, n + 1, hs⟩) rfl k3 t3 r3 hv r4
        · have := k h' q1
          unfold M_text at this
          rw [hs] at this
          simp only [q3] at this
          exact this q2
        · have := k h' q1
          unfold M_text at this
          rw [hs] at this
          simp only [q3] at this
          exact this q2
    · rw [if_neg ok] at hs ⊢
      have f0 := (flt0 (p := (rdS (hb E sz) p).2.1) (by omega)).1
      rw [t1.1]
      refine ⟨fun z => absurd (show nI 0 = 0 by decide) z, fun _ => ⟨fun _ => ⟨by decide, fun h3 o3 c3 => ?_⟩, fun z => absurd f0 z⟩⟩
      have k3 : keepV h0 (wI h3 15 0 6 (nI 0)) := keepV_tr k1 (keepV_tr (keepV_o (by omega) o3) (keepV_w (by omega)))
      have r3 : RV ((wI h3 15 0 6 (nI 0)).1 16 0) V := by
        have : (wI h3 15 0 6 (nI 0)).1 16 0 = h1.1 16 0 := by
          funext i
          rw [wI_nt (by omega), o3.2 16 0 (by omega)]
        rw [this]; exact r1
      refine vc_X11_valley_93 _ _ ⟨fun _ => ⟨fun _ => ?_, fun z => absurd f0 z⟩, fun z => absurd f0 z⟩
      have := k _ k3
      unfold M_text at this
      rw [hs] at this
      exact this r3
theorem snd_X11_valley (d : Int32) {h : AH} {K : Int32 → AH → Prop} (k : S_X11_valley d h K) : AW M_X11_valley (.inl K) 0 [some (aR 15 0), some (aI d), none, none, none, none, none, none] [] h 0 0 := by
  obtain ⟨S, V, hs, hw, hr, hv, k⟩ := k
  refine vc_X11_valley d ⟨S, hs, hw, ?_⟩
  unfold M_valley at k
  rcases rwR0_cases hw d with ⟨m, hm, rfl, h2, h3, e⟩ | e
  case inr =>
    rw [if_pos e] at k
    exact ⟨fun q => absurd q e, fun _ => k h (keepV_rfl h) hr⟩
  refine ⟨fun _ => ?_, fun q => absurd e q⟩
  rw [if_neg (fun z => z e)] at k
  unfold nN at k
  rw [n_cl (show m < 2147483648 by omega)] at k
  obtain ⟨a, b, c⟩ := hs m hm
  obtain ⟨c1, c2, c3⟩ := c h2
  have hw3 := (hw m hm).2.2 h2
  simp (disch := omega) only [n_inT, n_cl, true_and, pk_mul]
  rw [uI_nt (show (21 : Nat) ≠ 15 by decide), c2]
  refine lp1_X11_valley (S := S) (h0 := h) (E := S.2 m) (sz := S.1 4 m) (a := 100 * m) hv k 101 0 0 _ (by omega) (Or.inl rfl) (by omega) rfl (keepV_tr (keepV_w (by omega)) (keepV_tr (keepV_w (by omega)) (keepV_w (by omega)))) ?_ ?_
  · refine ⟨wI_at _ _ _ _ _, ?_, ?_, by omega, by omega, by omega, fun i hi => ?_⟩
    · rw [wI_ni (by omega), wI_ni (by omega), wI_at]
    · rw [wI_ni (by omega), wI_at]
    · rw [wI_nt (by omega), wI_nt (by omega), wI_nt (by omega), c3 i (by omega)]
  · have : (wI (wI (wI h 15 0 7 (nI (100 * m))) 15 0 8 (nI (S.1 4 m))) 15 0 6 (nI 0)).1 16 0 = h.1 16 0 := by
      funext i
      rw [wI_nt (by omega), wI_nt (by omega), wI_nt (by omega)]
    rw [this]; exact hr
theorem tr_X11_valley : ∀ (as : List AV) (h : AH) (K : Int32 → AH → Prop), T_X11_valley as h K → ∃ (q : Nat) (r : List AV), as = aR 15 q :: r := by
  intro as h K hk
  match as, hk with
  | [.inr (.inr (.inl q0)), .inl q1], hk =>
    obtain ⟨hb, hk⟩ := tif_inv hk
    simp only [Bool.and_eq_true] at hb
    obtain ⟨e0, e1⟩ := hb
    obtain ⟨a0, b0⟩ := q0
    have f0 : a0 = 15 := Nat.eq_of_beq_eq_true e0
    subst f0
    have f1 : b0 = 0 := Nat.eq_of_beq_eq_true e1
    subst f1
    exact ⟨_, _, rfl⟩
theorem tw_X11_valley : ∀ (as : List AV) (h : AH) (K : Int32 → AH → Prop), T_X11_valley as h K → (ini as).length ≤ mNL M_X11_valley ∧ AW M_X11_valley (.inl K) 0 (initL (mNL M_X11_valley) as) [] h 0 0 := by
  intro as h K hk
  match as, hk with
  | [.inr (.inr (.inl q0)), .inl q1], hk =>
    obtain ⟨hb, hk⟩ := tif_inv hk
    simp only [Bool.and_eq_true] at hb
    obtain ⟨e0, e1⟩ := hb
    obtain ⟨a0, b0⟩ := q0
    have f0 : a0 = 15 := Nat.eq_of_beq_eq_true e0
    subst f0
    have f1 : b0 = 0 := Nat.eq_of_beq_eq_true e1
    subst f1
    exact ⟨Nat.le_of_ble_eq_true rfl, snd_X11_valley q1 hk⟩
end
section
/-! ===== the component: a valley object, its sheep ===== -/
def cA (h : AH) (t p sp t' p' dp n : Nat) : AH := (uC h.1 t p sp t' p' dp n, h.2)
/-- a sheep of a kind with a figure -/
def SHP (h : AH) (o : Option Nat) (k f : Nat) : Prop := ∃ a, o = some a ∧ h.1 18 a 0 = nI k ∧ h.1 18 a 1 = nI f ∧ h.1 18 a 2 = nI (wt k f) ∧ h.1 18 a 3 = nI (stk k f) ∧ h.1 18 a 4 = nI (fly k) ∧ h.1 18 a 5 = nI (prc k f) ∧ h.1 18 a 6 = nI (cstk k f)
def CV (h : AH) (v : Nat) (V : Vm) : Prop := (∀ t i, t < 8 → i < vLim V t → h.1 (t + 2) v i = nI (V t i)) ∧ h.1 1 v 4 = nI (V 10 0) ∧ h.1 1 v 9 = nI (V 10 1) ∧ h.1 1 v 11 = nI (V 10 2) ∧ h.1 1 v 12 = nI (V 10 3) ∧ ∀ s, s < V 10 1 → SHP h (h.2.1 10 v s) (V 8 s) (V 9 s)
theorem CVs {h : AH} {v : Nat} {V : Vm} (c : CV h v V) : (∀ c, c < 8 → h.1 2 v c = nI (V 0 c)) ∧ (∀ c, c < 8 → h.1 3 v c = nI (V 1 c)) ∧ (∀ c, c < 8 → h.1 4 v c = nI (V 2 c)) ∧ (∀ n, n < 4 → h.1 5 v n = nI (V 3 n)) ∧ (∀ e, e < V 10 0 → h.1 6 v e = nI (V 4 e)) ∧ (∀ e, e < V 10 0 → h.1 7 v e = nI (V 5 e)) ∧ (∀ e, e < V 10 0 → h.1 8 v e = nI (V 6 e)) ∧ (∀ e, e < V 10 0 → h.1 9 v e = nI (V 7 e)) ∧ h.1 1 v 4 = nI (V 10 0) ∧ h.1 1 v 9 = nI (V 10 1) ∧ h.1 1 v 11 = nI (V 10 2) ∧ h.1 1 v 12 = nI (V 10 3) ∧ ∀ s, s < V 10 1 → SHP h (h.2.1 10 v s) (V 8 s) (V 9 s) :=
  ⟨fun i q => c.1 0 i (by decide) q, fun i q => c.1 1 i (by decide) q, fun i q => c.1 2 i (by decide) q, fun i q => c.1 3 i (by decide) q, fun i q => c.1 4 i (by decide) q, fun i q => c.1 5 i (by decide) q, fun i q => c.1 6 i (by decide) q, fun i q => c.1 7 i (by decide) q, c.2⟩
/-- only the valley object v is another -/
def onlyV (v : Nat) (h h' : AH) : Prop := h'.2.2 = h.2.2 ∧ (∀ a b i, ¬ (1 ≤ a ∧ a ≤ 9 ∧ b = v) → h'.1 a b i = h.1 a b i) ∧ ∀ a b i, ¬ (a = 10 ∧ b = v) → h'.2.1 a b i = h.2.1 a b i
theorem onlyV_rfl (v : Nat) (h : AH) : onlyV v h h := ⟨rfl, fun _ _ _ _ => rfl, fun _ _ _ _ => rfl⟩
theorem onlyV_tr {v : Nat} {h h1 h2 : AH} (a : onlyV v h h1) (b : onlyV v h1 h2) : onlyV v h h2 := ⟨b.1.trans a.1, fun x y i q => (b.2.1 x y i q).trans (a.2.1 x y i q), fun x y i q => (b.2.2 x y i q).trans (a.2.2 x y i q)⟩
theorem onlyV_w {v t i : Nat} {x : Int32} {h : AH} (h1 : 1 ≤ t) (h2 : t ≤ 9) : onlyV v h (wI h t v i x) := ⟨rfl, fun a b j q => by rw [wI_get, if_neg (fun e => q ⟨by omega, by omega, e.2.1⟩)], fun _ _ _ _ => rfl⟩
theorem onlyV_r {v i : Nat} {x : Option Nat} {h : AH} : onlyV v h (wR h 10 v i x) := ⟨rfl, fun _ _ _ _ => rfl, fun a b j q => by rw [wR_get, if_neg (fun e => q ⟨e.1, e.2.1⟩)]⟩
theorem SHP_e {h h' : AH} {o : Option Nat} {k f : Nat} (e : ∀ a i, h'.1 18 a i = h.1 18 a i) (s : SHP h o k f) : SHP h' o k f := by
  obtain ⟨a, s0, s1, s2, s3, s4, s5, s6, s7⟩ := s
  exact ⟨a, s0, by rw [e, s1], by rw [e, s2], by rw [e, s3], by rw [e, s4], by rw [e, s5], by rw [e, s6], by rw [e, s7]⟩
theorem SHP_V {v : Nat} {h h' : AH} {o : Option Nat} {k f : Nat} (q : onlyV v h h') (s : SHP h o k f) : SHP h' o k f := SHP_e (fun a i => q.2.1 18 a i (by omega)) s
theorem CV_e {h h' : AH} {u : Nat} {V : Vm} (e1 : ∀ t i, 1 ≤ t → t ≤ 9 → h'.1 t u i = h.1 t u i) (e2 : ∀ i, h'.2.1 10 u i = h.2.1 10 u i) (e3 : ∀ a i, h'.1 18 a i = h.1 18 a i) (c : CV h u V) : CV h' u V := by
  obtain ⟨c1, c2, c3, c4, c5, c6⟩ := c
  refine ⟨fun t i ht hi => ?_, ?_, ?_, ?_, ?_, fun s hs => ?_⟩
  · rw [e1 _ _ (by omega) (by omega)]; exact c1 t i ht hi
  · rw [e1 _ _ (by omega) (by omega)]; exact c2
  · rw [e1 _ _ (by omega) (by omega)]; exact c3
  · rw [e1 _ _ (by omega) (by omega)]; exact c4
  · rw [e1 _ _ (by omega) (by omega)]; exact c5
  · rw [e2]; exact SHP_e e3 (c6 s hs)
theorem CV_V {v u : Nat} {h h' : AH} {V : Vm} (q : onlyV v h h') (hu : u ≠ v) (c : CV h u V) : CV h' u V := CV_e (fun t i _ _ => q.2.1 t u i (by omega)) (fun i => q.2.2 10 u i (by omega)) (fun a i => q.2.1 18 a i (by omega)) c
theorem CV_c {h : AH} {v : Nat} {V V' : Vm} (c : CV h v V) (h1 : ∀ i, i < 4 → V' 10 i = V 10 i) (hc : ∀ t i, t < 10 → i < vLim V t → V' t i = V t i) : CV h v V' := by
  obtain ⟨c1, c2, c3, c4, c5, c6⟩ := c
  have l : ∀ t, vLim V' t = vLim V t := fun t => vLim_c (h1 0 (by omega)) (h1 1 (by omega)) t
  refine ⟨fun t i ht hi => ?_, ?_, ?_, ?_, ?_, fun s hs => ?_⟩
  · rw [l] at hi
    rw [hc t i (by omega) hi]; exact c1 t i ht hi
  · rw [h1 0 (by omega)]; exact c2
  · rw [h1 1 (by omega)]; exact c3
  · rw [h1 2 (by omega)]; exact c4
  · rw [h1 3 (by omega)]; exact c5
  · rw [h1 1 (by omega)] at hs
    rw [hc 8 s (by omega) hs, hc 9 s (by omega) hs]; exact c6 s hs
theorem CV_set {h : AH} {v t i x : Nat} {V : Vm} (c : CV h v V) (ht : t < 8) : CV (wI h (t + 2) v i (nI x)) v (uV V t i x) := by
  obtain ⟨c1, c2, c3, c4, c5, c6⟩ := c
  refine ⟨fun a j ha hj => ?_, ?_, ?_, ?_, ?_, fun s hs => ?_⟩
  · rw [vLim_u (by omega)] at hj
    by_cases e : a = t ∧ j = i
    · obtain ⟨rfl, rfl⟩ := e
      rw [wI_at, uV_at]
    · rw [uV_ne e, wI_get, if_neg (fun z => e ⟨by omega, z.2.2⟩)]
      exact c1 a j ha hj
  · rw [uV_ne (by omega), wI_nt (by omega)]; exact c2
  · rw [uV_ne (by omega), wI_nt (by omega)]; exact c3
  · rw [uV_ne (by omega), wI_nt (by omega)]; exact c4
  · rw [uV_ne (by omega), wI_nt (by omega)]; exact c5
  · rw [uV_ne (by omega)] at hs
    rw [uV_ne (by omega), uV_ne (by omega)]
    exact SHP_e (fun a i => wI_nt (by omega)) (c6 s hs)
theorem CV_hour {h : AH} {v x : Nat} {V : Vm} (c : CV h v V) : CV (wI h 1 v 11 (nI x)) v (uV V 10 2 x) := by
  obtain ⟨c1, c2, c3, c4, c5, c6⟩ := c
  refine ⟨fun a j ha hj => ?_, ?_, ?_, ?_, ?_, fun s hs => ?_⟩
  · rw [vLim_u (by omega)] at hj
    rw [uV_ne (by omega), wI_nt (by omega)]
    exact c1 a j ha hj
  · rw [uV_ne (by omega), wI_ni (by omega)]; exact c2
  · rw [uV_ne (by omega), wI_ni (by omega)]; exact c3
  · rw [uV_at, wI_at]
  · rw [uV_ne (by omega), wI_ni (by omega)]; exact c5
  · rw [uV_ne (by omega)] at hs
    rw [uV_ne (by omega), uV_ne (by omega)]
    exact SHP_e (fun a i => wI_nt (by omega)) (c6 s hs)
theorem CV_drums {h : AH} {v x : Nat} {V : Vm} (c : CV h v V) : CV (wI h 1 v 12 (nI x)) v (uV V 10 3 x) := by
  obtain ⟨c1, c2, c3, c4, c5, c6⟩ := c
  refine ⟨fun a j ha hj => ?_, ?_, ?_, ?_, ?_, fun s hs => ?_⟩
  · rw [vLim_u (by omega)] at hj
    rw [uV_ne (by omega), wI_nt (by omega)]
    exact c1 a j ha hj
  · rw [uV_ne (by omega), wI_ni (by omega)]; exact c2
  · rw [uV_ne (by omega), wI_ni (by omega)]; exact c3
  · rw [uV_ne (by omega), wI_ni (by omega)]; exact c4
  · rw [uV_at, wI_at]
  · rw [uV_ne (by omega)] at hs
    rw [uV_ne (by omega), uV_ne (by omega)]
    exact SHP_e (fun a i => wI_nt (by omega)) (c6 s hs)
/-! the native calls of the component -/
theorem cr_RX9_139 : CR RX9 (kIns 139) (5, 1, 26, 0, 0, .inr (.inl T_acopy)) := cr_acopy (inG (i := 210) (w := Cond.methodLink RX9 46 arraycopyName) (by decide +kernel) rfl)
theorem cr_RX10_802 : CR RX10 (kIns 802) (5, 1, 26, 0, 0, .inr (.inl T_acopy)) := cr_acopy (inG (i := 762) (w := Cond.methodLink RX10 267 arraycopyName) (by decide +kernel) rfl)
theorem cr_RX9_313 : CR RX9 (kIns 313) (2, 1, 21, 0, 0, .inl T_min) := cr_min (inG (i := 456) (w := Cond.methodLink RX9 104 Lib.Math.min.name) (by decide +kernel) rfl)
theorem cr_RX10_1000 : CR RX10 (kIns 1000) (2, 1, 21, 0, 0, .inl T_min) := cr_min (inG (i := 503) (w := Cond.methodLink RX10 333 Lib.Math.min.name) (by decide +kernel) rfl)
theorem cr_RX9_340 : CR RX9 (kIns 340) (2, 1, 21, 0, 0, .inl T_max) := cr_max (inG (i := 507) (w := Cond.methodLink RX9 113 Lib.Math.max.name) (by decide +kernel) rfl)
/-! the leaves -/
def S_X10_within (v a b : Int32) (h : AH) (K : Int32 → AH → Prop) : Prop := K (if a ≤ v ∧ v ≤ b then nI 1 else nI 0) h
def T_X10_within : List AV → AH → (Int32 → AH → Prop) → Prop := fun as h K => match as with
  | [.inl q0, .inl q1, .inl q2] => S_X10_within q0 q1 q2 h K
  | _ => False

def M_X10_within : MI := (RX10, cX10_within, 3, [(0, .iload_n 0, []), (1, .iload_n 1, []), (2, .if_icmp .lt 12, [14]), (5, .iload_n 0, []), (6, .iload_n 2, []), (7, .if_icmp .gt 7, [14]), (10, .iconst 1, []), (11, .goto 4, [15]), (14, .iconst 0, []), (15, .ireturn, [])], [], [], [], [], 0, 0, 0, 0)
theorem ok_X10_within : MOK M_X10_within := ⟨by decide +kernel, fun _ h => absurd h List.not_mem_nil, fun _ h => absurd h List.not_mem_nil, fun _ h => absurd h List.not_mem_nil, fun _ h => absurd h List.not_mem_nil⟩
set_option maxRecDepth 100000 in
theorem vc_X10_within {K : Int32 → AH → Prop} {h : AH} (p0 : Int32) (p1 : Int32) (p2 : Int32) (H : ((p0 < p1) → (((nI 0) = 0 ∨ (nI 0) = 1) ∧ K (nI 0) h)) ∧ (¬ (p0 < p1) → ((p2 < p0) → (((nI 0) = 0 ∨ (nI 0) = 1) ∧ K (nI 0) h)) ∧ (¬ (p2 < p0) → (((nI 1) = 0 ∨ (nI 1) = 1) ∧ K (nI 1) h)))) : AW M_X10_within (.inl (fun x u => (x = 0 ∨ x = 1) ∧ K x u)) 0 [some (aI p0), some (aI p1), some (aI p2)] [] h 0 0 := AW_go (cuts := []) ok_X10_within 400 H

theorem not_lt_i {a b : Int32} : ¬ a < b ↔ b ≤ a := Int32.not_lt
theorem snd_X10_within (v a b : Int32) {h : AH} {K : Int32 → AH → Prop} (k : S_X10_within v a b h K) : AW M_X10_within (.inl (fun x u => (x = 0 ∨ x = 1) ∧ K x u)) 0 [some (aI v), some (aI a), some (aI b)] [] h 0 0 := by
  refine vc_X10_within v a b ?_
  unfold S_X10_within at k
  refine ⟨fun q => ⟨Or.inl (by decide), ?_⟩, fun q => ⟨fun q2 => ⟨Or.inl (by decide), ?_⟩, fun q2 => ⟨Or.inr (by decide), ?_⟩⟩⟩
  · rw [if_neg (fun z => not_lt_i.mpr z.1 q)] at k; exact k
  · rw [if_neg (fun z => not_lt_i.mpr z.2 q2)] at k; exact k
  · rw [if_pos ⟨not_lt_i.mp q, not_lt_i.mp q2⟩] at k; exact k
theorem tw_X10_within : ∀ (as : List AV) (h : AH) (K : Int32 → AH → Prop), T_X10_within as h K → (ini as).length ≤ mNL M_X10_within ∧ AW M_X10_within (.inl (fun x u => (x = 0 ∨ x = 1) ∧ K x u)) 0 (initL (mNL M_X10_within) as) [] h 0 0 := by
  intro as h K hk
  match as, hk with
  | [.inl q0, .inl q1, .inl q2], hk =>
    exact ⟨Nat.le_of_ble_eq_true rfl, snd_X10_within q0 q1 q2 hk⟩
theorem cr_RX10_178 : CR RX10 (kIns 178) (3, 1, 22, 0, 0, .inl T_X10_within) := crS_z (M := M_X10_within) (by decide) rfl (inG (i := 191) (w := Cond.methodLink RX10 59 yX10_within) (by decide +kernel) rfl) (inG (i := 192) (w := Cond.static yX10_within) (by decide +kernel) rfl) (inG (i := 37) (w := Cond.initialized RX10) (by decide +kernel) rfl) (inG (i := 193) (w := Cond.code yX10_within cX10_within 3 (some .boolean)) (by decide +kernel) rfl) ⟨by decide +kernel, by decide +kernel, by decide +kernel⟩ tw_X10_within
theorem cr_RX5_106 : CR RX5 (kIns 106) (3, 1, 22, 0, 0, .inl T_X10_within) := crN_z (host := RX10) (M := M_X10_within) (by decide) rfl (by decide +kernel) (inG (i := 192) (w := Cond.static yX10_within) (by decide +kernel) rfl) (inG (i := 37) (w := Cond.initialized RX10) (by decide +kernel) rfl) (inG (i := 193) (w := Cond.code yX10_within cX10_within 3 (some .boolean)) (by decide +kernel) rfl) ⟨by decide +kernel, by decide +kernel, by decide +kernel⟩ tw_X10_within
theorem cr_RX9_184 : CR RX9 (kIns 184) (3, 1, 22, 0, 0, .inl T_X10_within) := crN_z (host := RX10) (M := M_X10_within) (by decide) rfl (by decide +kernel) (inG (i := 192) (w := Cond.static yX10_within) (by decide +kernel) rfl) (inG (i := 37) (w := Cond.initialized RX10) (by decide +kernel) rfl) (inG (i := 193) (w := Cond.code yX10_within cX10_within 3 (some .boolean)) (by decide +kernel) rfl) ⟨by decide +kernel, by decide +kernel, by decide +kernel⟩ tw_X10_within

def S_X10_worthOfPair (p : Int32) (h : AH) (K : Int32 → AH → Prop) : Prop := ∃ P, P < 1000 ∧ p = nI P ∧ K (nI (5 * (P / 10) + P % 10)) h
def T_X10_worthOfPair : List AV → AH → (Int32 → AH → Prop) → Prop := fun as h K => match as with
  | [.inl q0] => S_X10_worthOfPair q0 h K
  | _ => False

def M_X10_worthOfPair : MI := (RX10, cX10_worthOfPair, 1, [(0, .iconst 5, []), (1, .iload_n 0, []), (2, .bipush 10, []), (4, .idiv, []), (5, .imul, []), (6, .iload_n 0, []), (7, .bipush 10, []), (9, .irem, []), (10, .iadd, []), (11, .ireturn, [])], [], [], [], [], 0, 0, 0, 0)
theorem ok_X10_worthOfPair : MOK M_X10_worthOfPair := ⟨by decide +kernel, fun _ h => absurd h List.not_mem_nil, fun _ h => absurd h List.not_mem_nil, fun _ h => absurd h List.not_mem_nil, fun _ h => absurd h List.not_mem_nil⟩
set_option maxRecDepth 100000 in
theorem vc_X10_worthOfPair {K : Int32 → AH → Prop} {h : AH} (p0 : Int32) (H : (¬ (nI 10) = 0) ∧ (¬ (nI 10) = 0) ∧ K (((nI 5) * (p0 / (nI 10))) + (p0 - p0 / (nI 10) * (nI 10))) h) : AW M_X10_worthOfPair (.inl K) 0 [some (aI p0)] [] h 0 0 := AW_go (cuts := []) ok_X10_worthOfPair 400 H

theorem snd_X10_worthOfPair (p : Int32) {h : AH} {K : Int32 → AH → Prop} (k : S_X10_worthOfPair p h K) : AW M_X10_worthOfPair (.inl K) 0 [some (aI p)] [] h 0 0 := by
  obtain ⟨P, hP, rfl, k⟩ := k
  refine vc_X10_worthOfPair (nI P) ⟨by decide, by decide, ?_⟩
  rw [n_rem (show P < 2147483648 by omega) (by omega) (by omega), n_div (show P < 2147483648 by omega) (by omega) (by omega), pk_mul, nI_add]
  exact k
theorem tw_X10_worthOfPair : ∀ (as : List AV) (h : AH) (K : Int32 → AH → Prop), T_X10_worthOfPair as h K → (ini as).length ≤ mNL M_X10_worthOfPair ∧ AW M_X10_worthOfPair (.inl K) 0 (initL (mNL M_X10_worthOfPair) as) [] h 0 0 := by
  intro as h K hk
  match as, hk with
  | [.inl q0], hk =>
    exact ⟨Nat.le_of_ble_eq_true rfl, snd_X10_worthOfPair q0 hk⟩
theorem cr_RX10_592 : CR RX10 (kIns 592) (1, 1, 20, 0, 0, .inl T_X10_worthOfPair) := crS_i (M := M_X10_worthOfPair) (by decide) rfl (inG (i := 652) (w := Cond.methodLink RX10 197 yX10_worthOfPair) (by decide +kernel) rfl) (inG (i := 505) (w := Cond.static yX10_worthOfPair) (by decide +kernel) rfl) (inG (i := 37) (w := Cond.initialized RX10) (by decide +kernel) rfl) (inG (i := 506) (w := Cond.code yX10_worthOfPair cX10_worthOfPair 1 (some .int)) (by decide +kernel) rfl) ⟨by decide +kernel, by decide +kernel, by decide +kernel⟩ tw_X10_worthOfPair
theorem cr_RX9_304 : CR RX9 (kIns 304) (1, 1, 20, 0, 0, .inl T_X10_worthOfPair) := crN_i (host := RX10) (M := M_X10_worthOfPair) (by decide) rfl (by decide +kernel) (inG (i := 505) (w := Cond.static yX10_worthOfPair) (by decide +kernel) rfl) (inG (i := 37) (w := Cond.initialized RX10) (by decide +kernel) rfl) (inG (i := 506) (w := Cond.code yX10_worthOfPair cX10_worthOfPair 1 (some .int)) (by decide +kernel) rfl) ⟨by decide +kernel, by decide +kernel, by decide +kernel⟩ tw_X10_worthOfPair

def skP (k P : Nat) : Nat := 10 * tkB k (P / 10) + tkS k (P / 10) (P % 10)
theorem skP_ok {k P : Nat} (hP : P < 100) : skP k P / 10 = tkB k (P / 10) ∧ skP k P % 10 = tkS k (P / 10) (P % 10) ∧ skP k P < 100 ∧ skP k P ≤ P := by
  have := tk_le k (P / 10) (P % 10)
  unfold skP
  omega
def S_X10_stuckOf (p k : Int32) (h : AH) (K : Int32 → AH → Prop) : Prop := ∃ P x, P < 100 ∧ x ≤ 12 ∧ p = nI P ∧ k = nI x ∧ K (nI (skP x P)) h
def T_X10_stuckOf : List AV → AH → (Int32 → AH → Prop) → Prop := fun as h K => match as with
  | [.inl q0, .inl q1] => S_X10_stuckOf q0 q1 h K
  | _ => False

def M_X10_stuckOf : MI := (RX10, cX10_stuckOf, 3, [(0, .iload_n 0, []), (1, .bipush 10, []), (3, .idiv, []), (4, .iload_n 1, []), (5, .invokestatic 333, []), (8, .istore_n 2, []), (9, .bipush 10, []), (11, .iload_n 2, []), (12, .imul, []), (13, .iload_n 0, []), (14, .bipush 10, []), (16, .irem, []), (17, .iload_n 1, []), (18, .iload_n 2, []), (19, .isub, []), (20, .invokestatic 333, []), (23, .iadd, []), (24, .ireturn, [])], [], [], [], [(1000, (2, 1, 21, 0, 0, .inl T_min))], 1, 21, 0, 0)
theorem ok_X10_stuckOf : MOK M_X10_stuckOf := ⟨by decide +kernel, fun _ h => absurd h List.not_mem_nil, fun _ h => absurd h List.not_mem_nil, fun _ h => absurd h List.not_mem_nil, List.forall_mem_cons.mpr ⟨⟨Nat.le_of_ble_eq_true rfl, Nat.le_of_ble_eq_true rfl, cr_RX10_1000⟩, fun _ h => absurd h List.not_mem_nil⟩⟩
set_option maxRecDepth 100000 in
theorem vc_X10_stuckOf {K : Int32 → AH → Prop} {h : AH} (p0 : Int32) (p1 : Int32) (H : (¬ (nI 10) = 0) ∧ (¬ (nI 10) = 0) ∧ K (((nI 10) * (if p1 < (p0 / (nI 10)) then p1 else (p0 / (nI 10)))) + (if (p1 - (if p1 < (p0 / (nI 10)) then p1 else (p0 / (nI 10)))) < (p0 - p0 / (nI 10) * (nI 10)) then (p1 - (if p1 < (p0 / (nI 10)) then p1 else (p0 / (nI 10)))) else (p0 - p0 / (nI 10) * (nI 10)))) h) : AW M_X10_stuckOf (.inl K) 0 [some (aI p0), some (aI p1), none] [] h 0 0 := AW_go (cuts := []) ok_X10_stuckOf 400 H

theorem min_n {a b : Nat} (ha : a < 2147483648) (hb : b < 2147483648) : (if nI b < nI a then nI b else nI a) = nI (min a b) := by
  by_cases h : b < a
  · rw [if_pos ((n_lt hb ha).mpr h), Nat.min_eq_right (by omega)]
  · rw [if_neg (fun q => h ((n_lt hb ha).mp q)), Nat.min_eq_left (by omega)]
theorem snd_X10_stuckOf (p k : Int32) {h : AH} {K : Int32 → AH → Prop} (kk : S_X10_stuckOf p k h K) : AW M_X10_stuckOf (.inl K) 0 [some (aI p), some (aI k), none] [] h 0 0 := by
  obtain ⟨P, x, hP, hx, rfl, rfl, kk⟩ := kk
  refine vc_X10_stuckOf (nI P) (nI x) ⟨by decide, by decide, ?_⟩
  rw [n_rem (show P < 2147483648 by omega) (by omega) (by omega), n_div (show P < 2147483648 by omega) (by omega) (by omega)]
  rw [min_n (by omega) (by omega), n_sub (by omega), min_n (by omega) (by omega), pk_mul, nI_add]
  unfold skP tkB tkS at kk
  rw [Nat.min_comm (P / 10) x, Nat.min_comm (P % 10)]
  exact kk
theorem tw_X10_stuckOf : ∀ (as : List AV) (h : AH) (K : Int32 → AH → Prop), T_X10_stuckOf as h K → (ini as).length ≤ mNL M_X10_stuckOf ∧ AW M_X10_stuckOf (.inl K) 0 (initL (mNL M_X10_stuckOf) as) [] h 0 0 := by
  intro as h K hk
  match as, hk with
  | [.inl q0, .inl q1], hk =>
    exact ⟨Nat.le_of_ble_eq_true rfl, snd_X10_stuckOf q0 q1 hk⟩
theorem cr_RX10_1027 : CR RX10 (kIns 1027) (2, 2, 43, 0, 0, .inl T_X10_stuckOf) := crS_i (M := M_X10_stuckOf) (by decide) rfl (inG (i := 651) (w := Cond.methodLink RX10 342 yX10_stuckOf) (by decide +kernel) rfl) (inG (i := 501) (w := Cond.static yX10_stuckOf) (by decide +kernel) rfl) (inG (i := 37) (w := Cond.initialized RX10) (by decide +kernel) rfl) (inG (i := 502) (w := Cond.code yX10_stuckOf cX10_stuckOf 3 (some .int)) (by decide +kernel) rfl) ⟨by decide +kernel, by decide +kernel, by decide +kernel⟩ tw_X10_stuckOf
theorem cr_RX9_271 : CR RX9 (kIns 271) (2, 2, 43, 0, 0, .inl T_X10_stuckOf) := crN_i (host := RX10) (M := M_X10_stuckOf) (by decide) rfl (by decide +kernel) (inG (i := 501) (w := Cond.static yX10_stuckOf) (by decide +kernel) rfl) (inG (i := 37) (w := Cond.initialized RX10) (by decide +kernel) rfl) (inG (i := 502) (w := Cond.code yX10_stuckOf cX10_stuckOf 3 (some .int)) (by decide +kernel) rfl) ⟨by decide +kernel, by decide +kernel, by decide +kernel⟩ tw_X10_stuckOf

def rsO (k : Nat) (e : Int32) (o : Option Nat) : Option Nat := match o with
  | none => none
  | some P => if nI (tkV k (P / 10) (P % 10)) = e then some (P - skP k P) else none
def S_X10_restOf (p k e : Int32) (h : AH) (K : Int32 → AH → Prop) : Prop := ∃ o x, (∀ P, o = some P → P < 100) ∧ p = oI o ∧ x ≤ 12 ∧ k = nI x ∧ K (oI (rsO x e o)) h
def T_X10_restOf : List AV → AH → (Int32 → AH → Prop) → Prop := fun as h K => match as with
  | [.inl q0, .inl q1, .inl q2] => S_X10_restOf q0 q1 q2 h K
  | _ => False

def M_X10_restOf : MI := (RX10, cX10_restOf, 4, [(0, .iload_n 0, []), (1, .bipush (-4), []), (3, .if_icmp .ne 6, [9]), (6, .bipush (-4), []), (8, .ireturn, []), (9, .iload_n 0, []), (10, .iload_n 1, []), (11, .invokestatic 342, []), (14, .istore_n 3, []), (15, .iload_n 3, []), (16, .invokestatic 197, []), (19, .iload_n 2, []), (20, .if_icmp .ne 9, [29]), (23, .iload_n 0, []), (24, .iload_n 3, []), (25, .isub, []), (26, .goto 5, [31]), (29, .bipush (-4), []), (31, .ireturn, [])], [], [], [], [(1027, (2, 2, 43, 0, 0, .inl T_X10_stuckOf)), (592, (1, 1, 20, 0, 0, .inl T_X10_worthOfPair))], 2, 43, 0, 0)
theorem ok_X10_restOf : MOK M_X10_restOf := ⟨by decide +kernel, fun _ h => absurd h List.not_mem_nil, fun _ h => absurd h List.not_mem_nil, fun _ h => absurd h List.not_mem_nil, List.forall_mem_cons.mpr ⟨⟨Nat.le_of_ble_eq_true rfl, Nat.le_of_ble_eq_true rfl, cr_RX10_1027⟩, List.forall_mem_cons.mpr ⟨⟨Nat.le_of_ble_eq_true rfl, Nat.le_of_ble_eq_true rfl, cr_RX10_592⟩, fun _ h => absurd h List.not_mem_nil⟩⟩⟩
set_option maxRecDepth 100000 in
theorem vc_X10_restOf {K : Int32 → AH → Prop} {h : AH} (p0 : Int32) (p1 : Int32) (p2 : Int32) (H : ((¬ p0 = (iI (-4))) → S_X10_stuckOf p0 p1 h (fun x2 h1 => S_X10_worthOfPair x2 h1 (fun x4 h3 => ((¬ x4 = p2) → K (iI (-4)) h3) ∧ (¬ (¬ x4 = p2) → K (p0 - x2) h3)))) ∧ (¬ (¬ p0 = (iI (-4))) → K (iI (-4)) h)) : AW M_X10_restOf (.inl K) 0 [some (aI p0), some (aI p1), some (aI p2), none] [] h 0 0 := AW_go (cuts := []) ok_X10_restOf 400 H

theorem snd_X10_restOf (p k e : Int32) {h : AH} {K : Int32 → AH → Prop} (kk : S_X10_restOf p k e h K) : AW M_X10_restOf (.inl K) 0 [some (aI p), some (aI k), some (aI e), none] [] h 0 0 := by
  obtain ⟨o, x, ho, rfl, hx, rfl, kk⟩ := kk
  refine vc_X10_restOf (oI o) (nI x) e ?_
  cases o with
  | none => exact ⟨fun q => absurd rfl q, fun _ => kk⟩
  | some P =>
    have hP := ho P rfl
    obtain ⟨s1, s2, s3, s4⟩ := skP_ok (k := x) hP
    refine ⟨fun _ => ⟨P, x, hP, hx, rfl, rfl, skP x P, by omega, rfl, ?_⟩, fun z => absurd (fun e => by
      have e : nI P = iI (-4) := e
      rw [m_ne (by omega) (by omega) (by omega)] at e
      exact e) z⟩
    rw [s1, s2]
    have kk : K (oI (if nI (tkV x (P / 10) (P % 10)) = e then some (P - skP x P) else none)) h := kk
    unfold tkV at kk
    refine ⟨fun q => ?_, fun q => ?_⟩
    · rw [if_neg q] at kk; exact kk
    · rw [if_pos (Decidable.not_not.mp q)] at kk
      show K (nI P - nI (skP x P)) h
      rw [n_sub s4]
      exact kk
theorem tw_X10_restOf : ∀ (as : List AV) (h : AH) (K : Int32 → AH → Prop), T_X10_restOf as h K → (ini as).length ≤ mNL M_X10_restOf ∧ AW M_X10_restOf (.inl K) 0 (initL (mNL M_X10_restOf) as) [] h 0 0 := by
  intro as h K hk
  match as, hk with
  | [.inl q0, .inl q1, .inl q2], hk =>
    exact ⟨Nat.le_of_ble_eq_true rfl, snd_X10_restOf q0 q1 q2 hk⟩
theorem cr_RX10_1015 : CR RX10 (kIns 1015) (3, 3, 66, 0, 0, .inl T_X10_restOf) := crS_i (M := M_X10_restOf) (by decide) rfl (inG (i := 648) (w := Cond.methodLink RX10 338 yX10_restOf) (by decide +kernel) rfl) (inG (i := 649) (w := Cond.static yX10_restOf) (by decide +kernel) rfl) (inG (i := 37) (w := Cond.initialized RX10) (by decide +kernel) rfl) (inG (i := 650) (w := Cond.code yX10_restOf cX10_restOf 4 (some .int)) (by decide +kernel) rfl) ⟨by decide +kernel, by decide +kernel, by decide +kernel⟩ tw_X10_restOf

def S_X10_nextSeed (z : Int32) (h : AH) (K : Int32 → AH → Prop) : Prop := K (nxs z) h
def T_X10_nextSeed : List AV → AH → (Int32 → AH → Prop) → Prop := fun as h K => match as with
  | [.inl q0] => S_X10_nextSeed q0 h K
  | _ => False

def M_X10_nextSeed : MI := (RX10, cX10_nextSeed, 1, [(0, .iload_n 0, []), (1, .ldc_w 351, []), (4, .imul, []), (5, .sipush 12345, []), (8, .iadd, []), (9, .ireturn, [])], [], [(351, 1103515245)], [], [], 0, 0, 0, 0)
theorem ok_X10_nextSeed : MOK M_X10_nextSeed := ⟨by decide +kernel, fun _ h => absurd h List.not_mem_nil, List.forall_mem_cons.mpr ⟨(inG (i := 715) (w := Cond.constant RX10 351 1103515245) (by decide +kernel) rfl), fun _ h => absurd h List.not_mem_nil⟩, fun _ h => absurd h List.not_mem_nil, fun _ h => absurd h List.not_mem_nil⟩
set_option maxRecDepth 100000 in
theorem vc_X10_nextSeed {K : Int32 → AH → Prop} {h : AH} (p0 : Int32) (H : K ((p0 * (1103515245 : Int32)) + (nI 12345)) h) : AW M_X10_nextSeed (.inl K) 0 [some (aI p0)] [] h 0 0 := AW_go (cuts := []) ok_X10_nextSeed 400 H

theorem snd_X10_nextSeed (z : Int32) {h : AH} {K : Int32 → AH → Prop} (k : S_X10_nextSeed z h K) : AW M_X10_nextSeed (.inl K) 0 [some (aI z)] [] h 0 0 := vc_X10_nextSeed z k
theorem tw_X10_nextSeed : ∀ (as : List AV) (h : AH) (K : Int32 → AH → Prop), T_X10_nextSeed as h K → (ini as).length ≤ mNL M_X10_nextSeed ∧ AW M_X10_nextSeed (.inl K) 0 (initL (mNL M_X10_nextSeed) as) [] h 0 0 := by
  intro as h K hk
  match as, hk with
  | [.inl q0], hk =>
    exact ⟨Nat.le_of_ble_eq_true rfl, snd_X10_nextSeed q0 hk⟩
theorem cr_RX10_652 : CR RX10 (kIns 652) (1, 1, 20, 0, 0, .inl T_X10_nextSeed) := crS_i (M := M_X10_nextSeed) (by decide) rfl (inG (i := 712) (w := Cond.methodLink RX10 217 yX10_nextSeed) (by decide +kernel) rfl) (inG (i := 713) (w := Cond.static yX10_nextSeed) (by decide +kernel) rfl) (inG (i := 37) (w := Cond.initialized RX10) (by decide +kernel) rfl) (inG (i := 714) (w := Cond.code yX10_nextSeed cX10_nextSeed 1 (some .int)) (by decide +kernel) rfl) ⟨by decide +kernel, by decide +kernel, by decide +kernel⟩ tw_X10_nextSeed
end

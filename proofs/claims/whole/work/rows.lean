section
-- ===== PART A: goes FIRST, ahead of the names: the tables' words, and 'selects' of the private methods out of them =====
/-- a private method of a class that the tables say can be made, by its rows of tables_1 -/
def lw_okq (q : MethodName × Nat) : Prop := (q.1.cls ≠ "java/lang/invoke/MethodHandle" ∧ q.1.cls ≠ "java/lang/invoke/VarHandle") ∧ Cond.instantiable q.1.cls q.2 ∈ tables_1 ∧ Cond.privateMethod q.1 ∈ tables_1 ∧ Cond.instanceMethod q.1 ∈ tables_1
theorem lw_p0 : lw_okq (⟨"MeatForDiamonds", "refusedBytes", "(I)I"⟩, 6) := ⟨⟨by decide +kernel, by decide +kernel⟩, List.mem_of_getElem? (i := 23) (by decide +kernel), List.mem_of_getElem? (i := 144) (by decide +kernel), List.mem_of_getElem? (i := 145) (by decide +kernel)⟩
theorem lw_p1 : lw_okq (⟨"MeatForDiamonds", "refusedRow", "(I)I"⟩, 6) := ⟨⟨by decide +kernel, by decide +kernel⟩, List.mem_of_getElem? (i := 23) (by decide +kernel), List.mem_of_getElem? (i := 148) (by decide +kernel), List.mem_of_getElem? (i := 149) (by decide +kernel)⟩
theorem lw_p2 : lw_okq (⟨"MeatForDiamonds", "refusedHeld", "(I)I"⟩, 6) := ⟨⟨by decide +kernel, by decide +kernel⟩, List.mem_of_getElem? (i := 23) (by decide +kernel), List.mem_of_getElem? (i := 152) (by decide +kernel), List.mem_of_getElem? (i := 153) (by decide +kernel)⟩
theorem lw_p3 : lw_okq (⟨"MeatForDiamonds", "follow", "(LMeatForDiamonds$Shelf;I)Z"⟩, 6) := ⟨⟨by decide +kernel, by decide +kernel⟩, List.mem_of_getElem? (i := 23) (by decide +kernel), List.mem_of_getElem? (i := 179) (by decide +kernel), List.mem_of_getElem? (i := 180) (by decide +kernel)⟩
theorem lw_p4 : lw_okq (⟨"MeatForDiamonds", "followCell", "(LMeatForDiamonds$Shelf;I)Z"⟩, 6) := ⟨⟨by decide +kernel, by decide +kernel⟩, List.mem_of_getElem? (i := 23) (by decide +kernel), List.mem_of_getElem? (i := 183) (by decide +kernel), List.mem_of_getElem? (i := 184) (by decide +kernel)⟩
theorem lw_p5 : lw_okq (⟨"MeatForDiamonds", "followEagle", "(LMeatForDiamonds$Shelf;I)Z"⟩, 6) := ⟨⟨by decide +kernel, by decide +kernel⟩, List.mem_of_getElem? (i := 23) (by decide +kernel), List.mem_of_getElem? (i := 195) (by decide +kernel), List.mem_of_getElem? (i := 196) (by decide +kernel)⟩
theorem lw_p6 : lw_okq (⟨"MeatForDiamonds", "followDrums", "(I)Z"⟩, 6) := ⟨⟨by decide +kernel, by decide +kernel⟩, List.mem_of_getElem? (i := 23) (by decide +kernel), List.mem_of_getElem? (i := 409) (by decide +kernel), List.mem_of_getElem? (i := 410) (by decide +kernel)⟩
theorem lw_p7 : lw_okq (⟨"MeatForDiamonds", "followWait", "(I)Z"⟩, 6) := ⟨⟨by decide +kernel, by decide +kernel⟩, List.mem_of_getElem? (i := 23) (by decide +kernel), List.mem_of_getElem? (i := 413) (by decide +kernel), List.mem_of_getElem? (i := 414) (by decide +kernel)⟩
theorem lw_p8 : lw_okq (⟨"MeatForDiamonds", "followThrow", "(II)Z"⟩, 6) := ⟨⟨by decide +kernel, by decide +kernel⟩, List.mem_of_getElem? (i := 23) (by decide +kernel), List.mem_of_getElem? (i := 424) (by decide +kernel), List.mem_of_getElem? (i := 425) (by decide +kernel)⟩
theorem lw_p9 : lw_okq (⟨"MeatForDiamonds", "refusedSheep", "(I)I"⟩, 6) := ⟨⟨by decide +kernel, by decide +kernel⟩, List.mem_of_getElem? (i := 23) (by decide +kernel), List.mem_of_getElem? (i := 496) (by decide +kernel), List.mem_of_getElem? (i := 497) (by decide +kernel)⟩
theorem lw_p10 : lw_okq (⟨"MeatForDiamonds", "broughtDrumming", "(IIII)I"⟩, 6) := ⟨⟨by decide +kernel, by decide +kernel⟩, List.mem_of_getElem? (i := 23) (by decide +kernel), List.mem_of_getElem? (i := 571) (by decide +kernel), List.mem_of_getElem? (i := 572) (by decide +kernel)⟩
theorem lw_p11 : lw_okq (⟨"MeatForDiamonds", "refusedTold", "(II)I"⟩, 6) := ⟨⟨by decide +kernel, by decide +kernel⟩, List.mem_of_getElem? (i := 23) (by decide +kernel), List.mem_of_getElem? (i := 605) (by decide +kernel), List.mem_of_getElem? (i := 606) (by decide +kernel)⟩
theorem lw_p12 : lw_okq (⟨"MeatForDiamonds", "fitPairs", "(LMeatForDiamonds$Sheep;LMeatForDiamonds$Shelf;)I"⟩, 6) := ⟨⟨by decide +kernel, by decide +kernel⟩, List.mem_of_getElem? (i := 23) (by decide +kernel), List.mem_of_getElem? (i := 609) (by decide +kernel), List.mem_of_getElem? (i := 610) (by decide +kernel)⟩
theorem lw_p13 : lw_okq (⟨"MeatForDiamonds", "unlikeNumbers", "(LMeatForDiamonds$Sheep;)I"⟩, 6) := ⟨⟨by decide +kernel, by decide +kernel⟩, List.mem_of_getElem? (i := 23) (by decide +kernel), List.mem_of_getElem? (i := 622) (by decide +kernel), List.mem_of_getElem? (i := 623) (by decide +kernel)⟩
theorem lw_p14 : lw_okq (⟨"java/lang/Throwable", "fillInStackTrace", "(I)Ljava/lang/Throwable;"⟩, 6) := ⟨⟨by decide +kernel, by decide +kernel⟩, List.mem_of_getElem? (i := 790) (by decide +kernel), List.mem_of_getElem? (i := 788) (by decide +kernel), List.mem_of_getElem? (i := 789) (by decide +kernel)⟩
theorem lw_p15 : lw_okq (⟨"MeatForDiamondsModel", "wrongRow", "(II)I"⟩, 23) := ⟨⟨by decide +kernel, by decide +kernel⟩, List.mem_of_getElem? (i := 873) (by decide +kernel), List.mem_of_getElem? (i := 954) (by decide +kernel), List.mem_of_getElem? (i := 955) (by decide +kernel)⟩
def lw_privs_1 : List (MethodName × Nat) := [(⟨"MeatForDiamonds", "refusedBytes", "(I)I"⟩, 6), (⟨"MeatForDiamonds", "refusedRow", "(I)I"⟩, 6), (⟨"MeatForDiamonds", "refusedHeld", "(I)I"⟩, 6), (⟨"MeatForDiamonds", "follow", "(LMeatForDiamonds$Shelf;I)Z"⟩, 6), (⟨"MeatForDiamonds", "followCell", "(LMeatForDiamonds$Shelf;I)Z"⟩, 6), (⟨"MeatForDiamonds", "followEagle", "(LMeatForDiamonds$Shelf;I)Z"⟩, 6), (⟨"MeatForDiamonds", "followDrums", "(I)Z"⟩, 6), (⟨"MeatForDiamonds", "followWait", "(I)Z"⟩, 6), (⟨"MeatForDiamonds", "followThrow", "(II)Z"⟩, 6), (⟨"MeatForDiamonds", "refusedSheep", "(I)I"⟩, 6), (⟨"MeatForDiamonds", "broughtDrumming", "(IIII)I"⟩, 6), (⟨"MeatForDiamonds", "refusedTold", "(II)I"⟩, 6), (⟨"MeatForDiamonds", "fitPairs", "(LMeatForDiamonds$Sheep;LMeatForDiamonds$Shelf;)I"⟩, 6), (⟨"MeatForDiamonds", "unlikeNumbers", "(LMeatForDiamonds$Sheep;)I"⟩, 6), (⟨"java/lang/Throwable", "fillInStackTrace", "(I)Ljava/lang/Throwable;"⟩, 6), (⟨"MeatForDiamondsModel", "wrongRow", "(II)I"⟩, 23)]
theorem lw_r1 : ∀ q ∈ lw_privs_1, lw_okq q := List.forall_mem_cons.mpr ⟨lw_p0, List.forall_mem_cons.mpr ⟨lw_p1, List.forall_mem_cons.mpr ⟨lw_p2, List.forall_mem_cons.mpr ⟨lw_p3, List.forall_mem_cons.mpr ⟨lw_p4, List.forall_mem_cons.mpr ⟨lw_p5, List.forall_mem_cons.mpr ⟨lw_p6, List.forall_mem_cons.mpr ⟨lw_p7, List.forall_mem_cons.mpr ⟨lw_p8, List.forall_mem_cons.mpr ⟨lw_p9, List.forall_mem_cons.mpr ⟨lw_p10, List.forall_mem_cons.mpr ⟨lw_p11, List.forall_mem_cons.mpr ⟨lw_p12, List.forall_mem_cons.mpr ⟨lw_p13, List.forall_mem_cons.mpr ⟨lw_p14, List.forall_mem_cons.mpr ⟨lw_p15, fun _ h => absurd h List.not_mem_nil⟩⟩⟩⟩⟩⟩⟩⟩⟩⟩⟩⟩⟩⟩⟩⟩
theorem lw_p16 : lw_okq (⟨"MeatForDiamondsModel", "readsStatement", "()Z"⟩, 23) := ⟨⟨by decide +kernel, by decide +kernel⟩, List.mem_of_getElem? (i := 873) (by decide +kernel), List.mem_of_getElem? (i := 964) (by decide +kernel), List.mem_of_getElem? (i := 965) (by decide +kernel)⟩
theorem lw_p17 : lw_okq (⟨"MeatForDiamondsModel", "here", "()I"⟩, 23) := ⟨⟨by decide +kernel, by decide +kernel⟩, List.mem_of_getElem? (i := 873) (by decide +kernel), List.mem_of_getElem? (i := 968) (by decide +kernel), List.mem_of_getElem? (i := 969) (by decide +kernel)⟩
theorem lw_p18 : lw_okq (⟨"MeatForDiamondsModel", "readsNumber", "(II)Z"⟩, 23) := ⟨⟨by decide +kernel, by decide +kernel⟩, List.mem_of_getElem? (i := 873) (by decide +kernel), List.mem_of_getElem? (i := 972) (by decide +kernel), List.mem_of_getElem? (i := 973) (by decide +kernel)⟩
theorem lw_p19 : lw_okq (⟨"MeatForDiamondsModel", "isDone", "(I)Z"⟩, 23) := ⟨⟨by decide +kernel, by decide +kernel⟩, List.mem_of_getElem? (i := 873) (by decide +kernel), List.mem_of_getElem? (i := 979) (by decide +kernel), List.mem_of_getElem? (i := 980) (by decide +kernel)⟩
theorem lw_p20 : lw_okq (⟨"MeatForDiamondsModel", "addsSheep", "(II)V"⟩, 23) := ⟨⟨by decide +kernel, by decide +kernel⟩, List.mem_of_getElem? (i := 873) (by decide +kernel), List.mem_of_getElem? (i := 992) (by decide +kernel), List.mem_of_getElem? (i := 993) (by decide +kernel)⟩
theorem lw_p21 : lw_okq (⟨"MeatForDiamondsModel", "isSheep", "(I)Z"⟩, 23) := ⟨⟨by decide +kernel, by decide +kernel⟩, List.mem_of_getElem? (i := 873) (by decide +kernel), List.mem_of_getElem? (i := 1008) (by decide +kernel), List.mem_of_getElem? (i := 1009) (by decide +kernel)⟩
theorem lw_p22 : lw_okq (⟨"MeatForDiamondsModel", "isEagle", "(I)Z"⟩, 23) := ⟨⟨by decide +kernel, by decide +kernel⟩, List.mem_of_getElem? (i := 873) (by decide +kernel), List.mem_of_getElem? (i := 1050) (by decide +kernel), List.mem_of_getElem? (i := 1051) (by decide +kernel)⟩
theorem lw_p23 : lw_okq (⟨"MeatForDiamondsModel", "wrongKept", "(I)I"⟩, 23) := ⟨⟨by decide +kernel, by decide +kernel⟩, List.mem_of_getElem? (i := 873) (by decide +kernel), List.mem_of_getElem? (i := 1069) (by decide +kernel), List.mem_of_getElem? (i := 1070) (by decide +kernel)⟩
theorem lw_p24 : lw_okq (⟨"MeatForDiamondsModel", "wrongThrow", "(II)I"⟩, 23) := ⟨⟨by decide +kernel, by decide +kernel⟩, List.mem_of_getElem? (i := 873) (by decide +kernel), List.mem_of_getElem? (i := 1085) (by decide +kernel), List.mem_of_getElem? (i := 1086) (by decide +kernel)⟩
theorem lw_p25 : lw_okq (⟨"MeatForDiamondsModel", "broughtBy", "([III)I"⟩, 23) := ⟨⟨by decide +kernel, by decide +kernel⟩, List.mem_of_getElem? (i := 873) (by decide +kernel), List.mem_of_getElem? (i := 1097) (by decide +kernel), List.mem_of_getElem? (i := 1098) (by decide +kernel)⟩
theorem lw_p26 : lw_okq (⟨"MeatForDiamondsModel", "bestBy", "([I)I"⟩, 23) := ⟨⟨by decide +kernel, by decide +kernel⟩, List.mem_of_getElem? (i := 873) (by decide +kernel), List.mem_of_getElem? (i := 1109) (by decide +kernel), List.mem_of_getElem? (i := 1110) (by decide +kernel)⟩
theorem lw_p27 : lw_okq (⟨"MeatForDiamondsModel", "wrongSheepRow", "(II)I"⟩, 23) := ⟨⟨by decide +kernel, by decide +kernel⟩, List.mem_of_getElem? (i := 873) (by decide +kernel), List.mem_of_getElem? (i := 1163) (by decide +kernel), List.mem_of_getElem? (i := 1164) (by decide +kernel)⟩
theorem lw_p28 : lw_okq (⟨"MeatForDiamondsModel", "wrongAt", "(III)I"⟩, 23) := ⟨⟨by decide +kernel, by decide +kernel⟩, List.mem_of_getElem? (i := 873) (by decide +kernel), List.mem_of_getElem? (i := 1167) (by decide +kernel), List.mem_of_getElem? (i := 1168) (by decide +kernel)⟩
theorem lw_p29 : lw_okq (⟨"MeatForDiamondsModel", "takes", "(I)I"⟩, 23) := ⟨⟨by decide +kernel, by decide +kernel⟩, List.mem_of_getElem? (i := 873) (by decide +kernel), List.mem_of_getElem? (i := 1171) (by decide +kernel), List.mem_of_getElem? (i := 1172) (by decide +kernel)⟩
theorem lw_p30 : lw_okq (⟨"MeatForDiamondsModel", "partsBy", "(III)I"⟩, 23) := ⟨⟨by decide +kernel, by decide +kernel⟩, List.mem_of_getElem? (i := 873) (by decide +kernel), List.mem_of_getElem? (i := 1179) (by decide +kernel), List.mem_of_getElem? (i := 1180) (by decide +kernel)⟩
theorem lw_p31 : lw_okq (⟨"MeatForDiamondsModel", "isChoice", "(II)Z"⟩, 23) := ⟨⟨by decide +kernel, by decide +kernel⟩, List.mem_of_getElem? (i := 873) (by decide +kernel), List.mem_of_getElem? (i := 1202) (by decide +kernel), List.mem_of_getElem? (i := 1203) (by decide +kernel)⟩
def lw_privs_2 : List (MethodName × Nat) := [(⟨"MeatForDiamondsModel", "readsStatement", "()Z"⟩, 23), (⟨"MeatForDiamondsModel", "here", "()I"⟩, 23), (⟨"MeatForDiamondsModel", "readsNumber", "(II)Z"⟩, 23), (⟨"MeatForDiamondsModel", "isDone", "(I)Z"⟩, 23), (⟨"MeatForDiamondsModel", "addsSheep", "(II)V"⟩, 23), (⟨"MeatForDiamondsModel", "isSheep", "(I)Z"⟩, 23), (⟨"MeatForDiamondsModel", "isEagle", "(I)Z"⟩, 23), (⟨"MeatForDiamondsModel", "wrongKept", "(I)I"⟩, 23), (⟨"MeatForDiamondsModel", "wrongThrow", "(II)I"⟩, 23), (⟨"MeatForDiamondsModel", "broughtBy", "([III)I"⟩, 23), (⟨"MeatForDiamondsModel", "bestBy", "([I)I"⟩, 23), (⟨"MeatForDiamondsModel", "wrongSheepRow", "(II)I"⟩, 23), (⟨"MeatForDiamondsModel", "wrongAt", "(III)I"⟩, 23), (⟨"MeatForDiamondsModel", "takes", "(I)I"⟩, 23), (⟨"MeatForDiamondsModel", "partsBy", "(III)I"⟩, 23), (⟨"MeatForDiamondsModel", "isChoice", "(II)Z"⟩, 23)]
theorem lw_r2 : ∀ q ∈ lw_privs_2, lw_okq q := List.forall_mem_cons.mpr ⟨lw_p16, List.forall_mem_cons.mpr ⟨lw_p17, List.forall_mem_cons.mpr ⟨lw_p18, List.forall_mem_cons.mpr ⟨lw_p19, List.forall_mem_cons.mpr ⟨lw_p20, List.forall_mem_cons.mpr ⟨lw_p21, List.forall_mem_cons.mpr ⟨lw_p22, List.forall_mem_cons.mpr ⟨lw_p23, List.forall_mem_cons.mpr ⟨lw_p24, List.forall_mem_cons.mpr ⟨lw_p25, List.forall_mem_cons.mpr ⟨lw_p26, List.forall_mem_cons.mpr ⟨lw_p27, List.forall_mem_cons.mpr ⟨lw_p28, List.forall_mem_cons.mpr ⟨lw_p29, List.forall_mem_cons.mpr ⟨lw_p30, List.forall_mem_cons.mpr ⟨lw_p31, fun _ h => absurd h List.not_mem_nil⟩⟩⟩⟩⟩⟩⟩⟩⟩⟩⟩⟩⟩⟩⟩⟩
theorem lw_p32 : lw_okq (⟨"MeatForDiamondsModel", "isBest", "([III)Z"⟩, 23) := ⟨⟨by decide +kernel, by decide +kernel⟩, List.mem_of_getElem? (i := 873) (by decide +kernel), List.mem_of_getElem? (i := 1206) (by decide +kernel), List.mem_of_getElem? (i := 1207) (by decide +kernel)⟩
theorem lw_p33 : lw_okq (⟨"MeatForDiamondsModel", "gainBy", "([III)I"⟩, 23) := ⟨⟨by decide +kernel, by decide +kernel⟩, List.mem_of_getElem? (i := 873) (by decide +kernel), List.mem_of_getElem? (i := 1210) (by decide +kernel), List.mem_of_getElem? (i := 1211) (by decide +kernel)⟩
theorem lw_p34 : lw_okq (⟨"MeatForDiamondsModel", "sorts", "()V"⟩, 23) := ⟨⟨by decide +kernel, by decide +kernel⟩, List.mem_of_getElem? (i := 873) (by decide +kernel), List.mem_of_getElem? (i := 1218) (by decide +kernel), List.mem_of_getElem? (i := 1219) (by decide +kernel)⟩
theorem lw_p35 : lw_okq (⟨"MeatForDiamondsModel", "drawn", "(I)I"⟩, 23) := ⟨⟨by decide +kernel, by decide +kernel⟩, List.mem_of_getElem? (i := 873) (by decide +kernel), List.mem_of_getElem? (i := 1238) (by decide +kernel), List.mem_of_getElem? (i := 1239) (by decide +kernel)⟩
def lw_privs_3 : List (MethodName × Nat) := [(⟨"MeatForDiamondsModel", "isBest", "([III)Z"⟩, 23), (⟨"MeatForDiamondsModel", "gainBy", "([III)I"⟩, 23), (⟨"MeatForDiamondsModel", "sorts", "()V"⟩, 23), (⟨"MeatForDiamondsModel", "drawn", "(I)I"⟩, 23)]
theorem lw_r3 : ∀ q ∈ lw_privs_3, lw_okq q := List.forall_mem_cons.mpr ⟨lw_p32, List.forall_mem_cons.mpr ⟨lw_p33, List.forall_mem_cons.mpr ⟨lw_p34, List.forall_mem_cons.mpr ⟨lw_p35, fun _ h => absurd h List.not_mem_nil⟩⟩⟩⟩
def lw_privs : List (MethodName × Nat) := lw_privs_1 ++ (lw_privs_2 ++ (lw_privs_3))
def lw_tbl : List Cond := k2_sels lw_privs ++ tables_1
theorem lw_privs_ok : ∀ q ∈ lw_privs, lw_okq q := by
  show ∀ q ∈ lw_privs_1 ++ (lw_privs_2 ++ (lw_privs_3)), lw_okq q
  exact List.forall_mem_append.mpr ⟨lw_r1, List.forall_mem_append.mpr ⟨lw_r2, lw_r3⟩⟩
end
section
def RX0 : String := "MeatForDiamonds$Bone"
def TX0 : u_T := fun k => match k with
  | 0 => ("MeatForDiamonds$Sheep", "kind", "I", true)
  | 1 => ("MeatForDiamonds$Sheep", "figure", "I", true)
  | 2 => ("MeatForDiamonds$Sheep", "weight", "I", false)
  | 3 => ("MeatForDiamonds$Sheep", "sticks", "I", false)
  | 4 => ("MeatForDiamonds$Sheep", "flies", "I", false)
  | 5 => ("MeatForDiamonds$Sheep", "price", "I", false)
  | _ => ("MeatForDiamonds$Sheep", "costs", "I", false)
def tyX0 : Nat → FieldType := fun k => match k with
  | 0 => .int
  | 1 => .int
  | 2 => .int
  | 3 => .int
  | 4 => .int
  | 5 => .int
  | _ => .int
abbrev wsX00 : List Cond := u_ws RX0 TX0 7
theorem nmX0 : ∀ a, a < 7 → ∀ b, b < 7 → a ≠ b → (TX0 a).2.1 ≠ (TX0 b).2.1 := by decide +kernel
theorem tyX0_ok : ∀ k, k < 7 → parseFieldDescriptor (TX0 k).2.2.1 = some (tyX0 k) := by decide +kernel
abbrev cX0_init : ByteArray := prog_2_method_1_code
def yX0_init : MethodName := ⟨RX0, "<init>", "(II)V"⟩
abbrev cX0_fail : ByteArray := prog_2_method_2_code
def yX0_fail : MethodName := ⟨RX0, "fail", "()V"⟩
def RX1 : String := "MeatForDiamonds$DoubleSheep"
def TX1 : u_T := fun k => match k with
  | 0 => ("MeatForDiamonds$Sheep", "kind", "I", true)
  | 1 => ("MeatForDiamonds$Sheep", "figure", "I", true)
  | 2 => ("MeatForDiamonds$Sheep", "weight", "I", false)
  | 3 => ("MeatForDiamonds$Sheep", "sticks", "I", false)
  | 4 => ("MeatForDiamonds$Sheep", "flies", "I", false)
  | 5 => ("MeatForDiamonds$Sheep", "price", "I", false)
  | _ => ("MeatForDiamonds$Sheep", "costs", "I", false)
def tyX1 : Nat → FieldType := fun k => match k with
  | 0 => .int
  | 1 => .int
  | 2 => .int
  | 3 => .int
  | 4 => .int
  | 5 => .int
  | _ => .int
abbrev wsX10 : List Cond := u_ws RX1 TX1 7
theorem nmX1 : ∀ a, a < 7 → ∀ b, b < 7 → a ≠ b → (TX1 a).2.1 ≠ (TX1 b).2.1 := by decide +kernel
theorem tyX1_ok : ∀ k, k < 7 → parseFieldDescriptor (TX1 k).2.2.1 = some (tyX1 k) := by decide +kernel
abbrev cX1_init : ByteArray := prog_3_method_1_code
def yX1_init : MethodName := ⟨RX1, "<init>", "(II)V"⟩
def RX2 : String := "MeatForDiamonds$FatSheep"
def TX2 : u_T := fun k => match k with
  | 0 => ("MeatForDiamonds$Sheep", "kind", "I", true)
  | 1 => ("MeatForDiamonds$Sheep", "figure", "I", true)
  | 2 => ("MeatForDiamonds$Sheep", "weight", "I", false)
  | 3 => ("MeatForDiamonds$Sheep", "sticks", "I", false)
  | 4 => ("MeatForDiamonds$Sheep", "flies", "I", false)
  | 5 => ("MeatForDiamonds$Sheep", "price", "I", false)
  | _ => ("MeatForDiamonds$Sheep", "costs", "I", false)
def tyX2 : Nat → FieldType := fun k => match k with
  | 0 => .int
  | 1 => .int
  | 2 => .int
  | 3 => .int
  | 4 => .int
  | 5 => .int
  | _ => .int
abbrev wsX20 : List Cond := u_ws RX2 TX2 7
theorem nmX2 : ∀ a, a < 7 → ∀ b, b < 7 → a ≠ b → (TX2 a).2.1 ≠ (TX2 b).2.1 := by decide +kernel
theorem tyX2_ok : ∀ k, k < 7 → parseFieldDescriptor (TX2 k).2.2.1 = some (tyX2 k) := by decide +kernel
abbrev cX2_init : ByteArray := prog_4_method_1_code
def yX2_init : MethodName := ⟨RX2, "<init>", "(II)V"⟩
abbrev cX2_fail : ByteArray := prog_4_method_2_code
def yX2_fail : MethodName := ⟨RX2, "fail", "()V"⟩
def RX3 : String := "MeatForDiamonds$PaintedSheep"
def TX3 : u_T := fun k => match k with
  | 0 => ("MeatForDiamonds$Sheep", "kind", "I", true)
  | 1 => ("MeatForDiamonds$Sheep", "figure", "I", true)
  | 2 => ("MeatForDiamonds$Sheep", "weight", "I", false)
  | 3 => ("MeatForDiamonds$Sheep", "sticks", "I", false)
  | 4 => ("MeatForDiamonds$Sheep", "flies", "I", false)
  | 5 => ("MeatForDiamonds$Sheep", "price", "I", false)
  | _ => ("MeatForDiamonds$Sheep", "costs", "I", false)
def tyX3 : Nat → FieldType := fun k => match k with
  | 0 => .int
  | 1 => .int
  | 2 => .int
  | 3 => .int
  | 4 => .int
  | 5 => .int
  | _ => .int
abbrev wsX30 : List Cond := u_ws RX3 TX3 7
theorem nmX3 : ∀ a, a < 7 → ∀ b, b < 7 → a ≠ b → (TX3 a).2.1 ≠ (TX3 b).2.1 := by decide +kernel
theorem tyX3_ok : ∀ k, k < 7 → parseFieldDescriptor (TX3 k).2.2.1 = some (tyX3 k) := by decide +kernel
abbrev cX3_init : ByteArray := prog_5_method_1_code
def yX3_init : MethodName := ⟨RX3, "<init>", "(II)V"⟩
def RX4 : String := "MeatForDiamonds$Sheep"
def TX4 : u_T := fun k => match k with
  | 0 => ("MeatForDiamonds$Sheep", "kind", "I", true)
  | 1 => ("MeatForDiamonds$Sheep", "figure", "I", true)
  | 2 => ("MeatForDiamonds$Sheep", "weight", "I", false)
  | 3 => ("MeatForDiamonds$Sheep", "sticks", "I", false)
  | 4 => ("MeatForDiamonds$Sheep", "flies", "I", false)
  | 5 => ("MeatForDiamonds$Sheep", "price", "I", false)
  | _ => ("MeatForDiamonds$Sheep", "costs", "I", false)
def tyX4 : Nat → FieldType := fun k => match k with
  | 0 => .int
  | 1 => .int
  | 2 => .int
  | 3 => .int
  | 4 => .int
  | 5 => .int
  | _ => .int
abbrev wsX40 : List Cond := u_ws RX4 TX4 7
theorem nmX4 : ∀ a, a < 7 → ∀ b, b < 7 → a ≠ b → (TX4 a).2.1 ≠ (TX4 b).2.1 := by decide +kernel
theorem tyX4_ok : ∀ k, k < 7 → parseFieldDescriptor (TX4 k).2.2.1 = some (tyX4 k) := by decide +kernel
abbrev cX4_init : ByteArray := prog_6_method_1_code
def yX4_init : MethodName := ⟨RX4, "<init>", "(II)V"⟩
abbrev cX4_fail : ByteArray := prog_6_method_2_code
def yX4_fail : MethodName := ⟨RX4, "fail", "()V"⟩
def RX5 : String := "MeatForDiamonds$Shelf"
def TX5 : u_T := fun k => match k with
  | 0 => ("MeatForDiamonds$Shelf", "held", "LMeatForDiamonds$Sheep;", false)
  | 1 => ("MeatForDiamonds$Shelf", "holdsRow", "Z", false)
  | 2 => ("MeatForDiamonds$Shelf", "sort", "I", false)
  | 3 => ("MeatForDiamonds$Shelf", "size", "I", false)
  | _ => ("MeatForDiamonds$Shelf", "elements", "[I", true)
def tyX5 : Nat → FieldType := fun k => match k with
  | 0 => .object "MeatForDiamonds$Sheep"
  | 1 => .boolean
  | 2 => .int
  | 3 => .int
  | _ => .array .int
abbrev wsX50 : List Cond := u_ws RX5 TX5 5
theorem nmX5 : ∀ a, a < 5 → ∀ b, b < 5 → a ≠ b → (TX5 a).2.1 ≠ (TX5 b).2.1 := by decide +kernel
theorem tyX5_ok : ∀ k, k < 5 → parseFieldDescriptor (TX5 k).2.2.1 = some (tyX5 k) := by decide +kernel
abbrev cX5_init : ByteArray := prog_7_method_1_code
def yX5_init : MethodName := ⟨RX5, "<init>", "()V"⟩
abbrev cX5_isEmpty : ByteArray := prog_7_method_2_code
def yX5_isEmpty : MethodName := ⟨RX5, "isEmpty", "()Z"⟩
abbrev cX5_holdSheep : ByteArray := prog_7_method_3_code
def yX5_holdSheep : MethodName := ⟨RX5, "holdSheep", "(LMeatForDiamonds$Sheep;)V"⟩
abbrev cX5_holdRow : ByteArray := prog_7_method_4_code
def yX5_holdRow : MethodName := ⟨RX5, "holdRow", "(II)V"⟩
abbrev cX5_cutToSort : ByteArray := prog_7_method_5_code
def yX5_cutToSort : MethodName := ⟨RX5, "cutToSort", "(I)I"⟩
abbrev cX5_leastNumber : ByteArray := prog_7_method_6_code
def yX5_leastNumber : MethodName := ⟨RX5, "leastNumber", "()I"⟩
abbrev cX5_digitsBehind : ByteArray := prog_7_method_7_code
def yX5_digitsBehind : MethodName := ⟨RX5, "digitsBehind", "(I)I"⟩
abbrev cX5_firstBadByte : ByteArray := prog_7_method_8_code
def yX5_firstBadByte : MethodName := ⟨RX5, "firstBadByte", "()I"⟩
abbrev cX5_number : ByteArray := prog_7_method_9_code
def yX5_number : MethodName := ⟨RX5, "number", "(II)I"⟩
def RX6 : String := "MeatForDiamonds$StolenSheep"
def TX6 : u_T := fun k => match k with
  | 0 => ("MeatForDiamonds$Sheep", "kind", "I", true)
  | 1 => ("MeatForDiamonds$Sheep", "figure", "I", true)
  | 2 => ("MeatForDiamonds$Sheep", "weight", "I", false)
  | 3 => ("MeatForDiamonds$Sheep", "sticks", "I", false)
  | 4 => ("MeatForDiamonds$Sheep", "flies", "I", false)
  | 5 => ("MeatForDiamonds$Sheep", "price", "I", false)
  | _ => ("MeatForDiamonds$Sheep", "costs", "I", false)
def tyX6 : Nat → FieldType := fun k => match k with
  | 0 => .int
  | 1 => .int
  | 2 => .int
  | 3 => .int
  | 4 => .int
  | 5 => .int
  | _ => .int
abbrev wsX60 : List Cond := u_ws RX6 TX6 7
theorem nmX6 : ∀ a, a < 7 → ∀ b, b < 7 → a ≠ b → (TX6 a).2.1 ≠ (TX6 b).2.1 := by decide +kernel
theorem tyX6_ok : ∀ k, k < 7 → parseFieldDescriptor (TX6 k).2.2.1 = some (tyX6 k) := by decide +kernel
abbrev cX6_init : ByteArray := prog_8_method_1_code
def yX6_init : MethodName := ⟨RX6, "<init>", "(II)V"⟩
def RX7 : String := "MeatForDiamonds$ThinSheep"
def TX7 : u_T := fun k => match k with
  | 0 => ("MeatForDiamonds$Sheep", "kind", "I", true)
  | 1 => ("MeatForDiamonds$Sheep", "figure", "I", true)
  | 2 => ("MeatForDiamonds$Sheep", "weight", "I", false)
  | 3 => ("MeatForDiamonds$Sheep", "sticks", "I", false)
  | 4 => ("MeatForDiamonds$Sheep", "flies", "I", false)
  | 5 => ("MeatForDiamonds$Sheep", "price", "I", false)
  | _ => ("MeatForDiamonds$Sheep", "costs", "I", false)
def tyX7 : Nat → FieldType := fun k => match k with
  | 0 => .int
  | 1 => .int
  | 2 => .int
  | 3 => .int
  | 4 => .int
  | 5 => .int
  | _ => .int
abbrev wsX70 : List Cond := u_ws RX7 TX7 7
theorem nmX7 : ∀ a, a < 7 → ∀ b, b < 7 → a ≠ b → (TX7 a).2.1 ≠ (TX7 b).2.1 := by decide +kernel
theorem tyX7_ok : ∀ k, k < 7 → parseFieldDescriptor (TX7 k).2.2.1 = some (tyX7 k) := by decide +kernel
abbrev cX7_init : ByteArray := prog_9_method_1_code
def yX7_init : MethodName := ⟨RX7, "<init>", "(II)V"⟩
def RX8 : String := "MeatForDiamonds$TiedSheep"
def TX8 : u_T := fun k => match k with
  | 0 => ("MeatForDiamonds$Sheep", "kind", "I", true)
  | 1 => ("MeatForDiamonds$Sheep", "figure", "I", true)
  | 2 => ("MeatForDiamonds$Sheep", "weight", "I", false)
  | 3 => ("MeatForDiamonds$Sheep", "sticks", "I", false)
  | 4 => ("MeatForDiamonds$Sheep", "flies", "I", false)
  | 5 => ("MeatForDiamonds$Sheep", "price", "I", false)
  | _ => ("MeatForDiamonds$Sheep", "costs", "I", false)
def tyX8 : Nat → FieldType := fun k => match k with
  | 0 => .int
  | 1 => .int
  | 2 => .int
  | 3 => .int
  | 4 => .int
  | 5 => .int
  | _ => .int
abbrev wsX80 : List Cond := u_ws RX8 TX8 7
theorem nmX8 : ∀ a, a < 7 → ∀ b, b < 7 → a ≠ b → (TX8 a).2.1 ≠ (TX8 b).2.1 := by decide +kernel
theorem tyX8_ok : ∀ k, k < 7 → parseFieldDescriptor (TX8 k).2.2.1 = some (tyX8 k) := by decide +kernel
abbrev cX8_init : ByteArray := prog_10_method_1_code
def yX8_init : MethodName := ⟨RX8, "<init>", "(II)V"⟩
abbrev cX8_fail : ByteArray := prog_10_method_2_code
def yX8_fail : MethodName := ⟨RX8, "fail", "()V"⟩
def RX9 : String := "MeatForDiamonds$Valley"
def TX9 : u_T := fun k => match k with
  | 0 => ("MeatForDiamonds$Valley", "big", "[I", true)
  | 1 => ("MeatForDiamonds$Valley", "small", "[I", true)
  | 2 => ("MeatForDiamonds$Valley", "snakes", "[I", true)
  | 3 => ("MeatForDiamonds$Valley", "worth", "[I", true)
  | 4 => ("MeatForDiamonds$Valley", "eagles", "I", false)
  | 5 => ("MeatForDiamonds$Valley", "strength", "[I", true)
  | 6 => ("MeatForDiamonds$Valley", "hunger", "[I", true)
  | 7 => ("MeatForDiamonds$Valley", "home", "[I", true)
  | 8 => ("MeatForDiamonds$Valley", "wary", "[I", true)
  | 9 => ("MeatForDiamonds$Valley", "flockSize", "I", false)
  | 10 => ("MeatForDiamonds$Valley", "flock", "[LMeatForDiamonds$Sheep;", true)
  | 11 => ("MeatForDiamonds$Valley", "hour", "I", false)
  | _ => ("MeatForDiamonds$Valley", "drums", "I", false)
def tyX9 : Nat → FieldType := fun k => match k with
  | 0 => .array .int
  | 1 => .array .int
  | 2 => .array .int
  | 3 => .array .int
  | 4 => .int
  | 5 => .array .int
  | 6 => .array .int
  | 7 => .array .int
  | 8 => .array .int
  | 9 => .int
  | 10 => .array (.object "MeatForDiamonds$Sheep")
  | 11 => .int
  | _ => .int
abbrev wsX90 : List Cond := u_ws RX9 TX9 13
theorem nmX9 : ∀ a, a < 13 → ∀ b, b < 13 → a ≠ b → (TX9 a).2.1 ≠ (TX9 b).2.1 := by decide +kernel
theorem tyX9_ok : ∀ k, k < 13 → parseFieldDescriptor (TX9 k).2.2.1 = some (tyX9 k) := by decide +kernel
abbrev cX9_init : ByteArray := prog_11_method_1_code
def yX9_init : MethodName := ⟨RX9, "<init>", "()V"⟩
abbrev cX9_become : ByteArray := prog_11_method_2_code
def yX9_become : MethodName := ⟨RX9, "become", "(LMeatForDiamonds$Valley;)V"⟩
abbrev cX9_sheepAt : ByteArray := prog_11_method_3_code
def yX9_sheepAt : MethodName := ⟨RX9, "sheepAt", "(I)LMeatForDiamonds$Sheep;"⟩
abbrev cX9_addSheep : ByteArray := prog_11_method_4_code
def yX9_addSheep : MethodName := ⟨RX9, "addSheep", "(LMeatForDiamonds$Sheep;)Z"⟩
abbrev cX9_addEagle : ByteArray := prog_11_method_5_code
def yX9_addEagle : MethodName := ⟨RX9, "addEagle", "(III)Z"⟩
abbrev cX9_fillCell : ByteArray := prog_11_method_6_code
def yX9_fillCell : MethodName := ⟨RX9, "fillCell", "(IIII)V"⟩
abbrev cX9_worthIn : ByteArray := prog_11_method_7_code
def yX9_worthIn : MethodName := ⟨RX9, "worthIn", "(I)I"⟩
abbrev cX9_refusedThrow : ByteArray := prog_11_method_8_code
def yX9_refusedThrow : MethodName := ⟨RX9, "refusedThrow", "(II)I"⟩
abbrev cX9_snakesSleep : ByteArray := prog_11_method_9_code
def yX9_snakesSleep : MethodName := ⟨RX9, "snakesSleep", "()Z"⟩
abbrev cX9_isEaten : ByteArray := prog_11_method_10_code
def yX9_isEaten : MethodName := ⟨RX9, "isEaten", "(LMeatForDiamonds$Sheep;I)Z"⟩
abbrev cX9_carrierOf : ByteArray := prog_11_method_11_code
def yX9_carrierOf : MethodName := ⟨RX9, "carrierOf", "(I)I"⟩
abbrev cX9_takerOf : ByteArray := prog_11_method_12_code
def yX9_takerOf : MethodName := ⟨RX9, "takerOf", "(LMeatForDiamonds$Sheep;I)I"⟩
abbrev cX9_stuckIn : ByteArray := prog_11_method_13_code
def yX9_stuckIn : MethodName := ⟨RX9, "stuckIn", "(LMeatForDiamonds$Sheep;I)I"⟩
abbrev cX9_broughtBy : ByteArray := prog_11_method_14_code
def yX9_broughtBy : MethodName := ⟨RX9, "broughtBy", "(LMeatForDiamonds$Sheep;I)I"⟩
abbrev cX9_throwOnto : ByteArray := prog_11_method_15_code
def yX9_throwOnto : MethodName := ⟨RX9, "throwOnto", "(II)I"⟩
abbrev cX9_carryOff : ByteArray := prog_11_method_16_code
def yX9_carryOff : MethodName := ⟨RX9, "carryOff", "(LMeatForDiamonds$Sheep;II)I"⟩
abbrev cX9_pass : ByteArray := prog_11_method_17_code
def yX9_pass : MethodName := ⟨RX9, "pass", "(I)V"⟩
abbrev cX9_richestCell : ByteArray := prog_11_method_18_code
def yX9_richestCell : MethodName := ⟨RX9, "richestCell", "(LMeatForDiamonds$Sheep;)I"⟩
abbrev cX9_richestThrow : ByteArray := prog_11_method_19_code
def yX9_richestThrow : MethodName := ⟨RX9, "richestThrow", "()I"⟩
abbrev cX9_gainOf : ByteArray := prog_11_method_20_code
def yX9_gainOf : MethodName := ⟨RX9, "gainOf", "(II)I"⟩
abbrev cX9_bestChoice : ByteArray := prog_11_method_21_code
def yX9_bestChoice : MethodName := ⟨RX9, "bestChoice", "(I)I"⟩
abbrev cX9_shared : ByteArray := prog_11_method_22_code
def yX9_shared : MethodName := ⟨RX9, "shared", "()I"⟩
def RX10 : String := "MeatForDiamonds"
def TX10 : u_T := fun k => match k with
  | 0 => ("MeatForDiamonds", "now", "LMeatForDiamonds$Valley;", true)
  | 1 => ("MeatForDiamonds", "mind", "LMeatForDiamonds$Valley;", true)
  | 2 => ("MeatForDiamonds", "kept", "LMeatForDiamonds$Valley;", true)
  | 3 => ("MeatForDiamonds", "imageTaken", "Z", false)
  | 4 => ("MeatForDiamonds", "shelves", "[LMeatForDiamonds$Shelf;", true)
  | _ => ("MeatForDiamonds", "rests", "[I", true)
def tyX10 : Nat → FieldType := fun k => match k with
  | 0 => .object "MeatForDiamonds$Valley"
  | 1 => .object "MeatForDiamonds$Valley"
  | 2 => .object "MeatForDiamonds$Valley"
  | 3 => .boolean
  | 4 => .array (.object "MeatForDiamonds$Shelf")
  | _ => .array .int
abbrev wsX100 : List Cond := u_ws RX10 TX10 6
theorem nmX10 : ∀ a, a < 6 → ∀ b, b < 6 → a ≠ b → (TX10 a).2.1 ≠ (TX10 b).2.1 := by decide +kernel
theorem tyX10_ok : ∀ k, k < 6 → parseFieldDescriptor (TX10 k).2.2.1 = some (tyX10 k) := by decide +kernel
abbrev cX10_init : ByteArray := prog_1_method_1_code
def yX10_init : MethodName := ⟨RX10, "<init>", "()V"⟩
abbrev cX10_valley : ByteArray := prog_1_method_2_code
def yX10_valley : MethodName := ⟨RX10, "valley", "(I)I"⟩
abbrev cX10_cellOf : ByteArray := prog_1_method_3_code
def yX10_cellOf : MethodName := ⟨RX10, "cellOf", "(II)I"⟩
abbrev cX10_eagle : ByteArray := prog_1_method_4_code
def yX10_eagle : MethodName := ⟨RX10, "eagle", "(II)I"⟩
abbrev cX10_sheep : ByteArray := prog_1_method_5_code
def yX10_sheep : MethodName := ⟨RX10, "sheep", "(II)I"⟩
abbrev cX10_nest : ByteArray := prog_1_method_6_code
def yX10_nest : MethodName := ⟨RX10, "nest", "(I)I"⟩
abbrev cX10_buys : ByteArray := prog_1_method_7_code
def yX10_buys : MethodName := ⟨RX10, "buys", "(I)I"⟩
abbrev cX10_lays : ByteArray := prog_1_method_8_code
def yX10_lays : MethodName := ⟨RX10, "lays", "(IIII)I"⟩
abbrev cX10_set : ByteArray := prog_1_method_9_code
def yX10_set : MethodName := ⟨RX10, "set", "(II)I"⟩
abbrev cX10_throwsOne : ByteArray := prog_1_method_10_code
def yX10_throwsOne : MethodName := ⟨RX10, "throwsOne", "(II)I"⟩
abbrev cX10_waits : ByteArray := prog_1_method_11_code
def yX10_waits : MethodName := ⟨RX10, "waits", "(I)I"⟩
abbrev cX10_brings : ByteArray := prog_1_method_12_code
def yX10_brings : MethodName := ⟨RX10, "brings", "(III)I"⟩
abbrev cX10_bestCell : ByteArray := prog_1_method_13_code
def yX10_bestCell : MethodName := ⟨RX10, "bestCell", "(I)I"⟩
abbrev cX10_bestThrow : ByteArray := prog_1_method_14_code
def yX10_bestThrow : MethodName := ⟨RX10, "bestThrow", "()I"⟩
abbrev cX10_gain : ByteArray := prog_1_method_15_code
def yX10_gain : MethodName := ⟨RX10, "gain", "()I"⟩
abbrev cX10_bestHour : ByteArray := prog_1_method_16_code
def yX10_bestHour : MethodName := ⟨RX10, "bestHour", "(III)I"⟩
abbrev cX10_twoThrows : ByteArray := prog_1_method_17_code
def yX10_twoThrows : MethodName := ⟨RX10, "twoThrows", "(I)I"⟩
abbrev cX10_greedily : ByteArray := prog_1_method_18_code
def yX10_greedily : MethodName := ⟨RX10, "greedily", "(II)I"⟩
abbrev cX10_drum : ByteArray := prog_1_method_19_code
def yX10_drum : MethodName := ⟨RX10, "drum", "(IIII)I"⟩
abbrev cX10_lifts : ByteArray := prog_1_method_20_code
def yX10_lifts : MethodName := ⟨RX10, "lifts", "(II)I"⟩
abbrev cX10_man : ByteArray := prog_1_method_21_code
def yX10_man : MethodName := ⟨RX10, "man", "(I)I"⟩
abbrev cX10_safe : ByteArray := prog_1_method_22_code
def yX10_safe : MethodName := ⟨RX10, "safe", "(I)I"⟩
abbrev cX10_noon : ByteArray := prog_1_method_23_code
def yX10_noon : MethodName := ⟨RX10, "noon", "()I"⟩
abbrev cX10_left : ByteArray := prog_1_method_24_code
def yX10_left : MethodName := ⟨RX10, "left", "(I)I"⟩
abbrev cX10_still : ByteArray := prog_1_method_25_code
def yX10_still : MethodName := ⟨RX10, "still", "(III)I"⟩
abbrev cX10_tellsMost : ByteArray := prog_1_method_26_code
def yX10_tellsMost : MethodName := ⟨RX10, "tellsMost", "(III)I"⟩
abbrev cX10_whose : ByteArray := prog_1_method_27_code
def yX10_whose : MethodName := ⟨RX10, "whose", "(II)I"⟩
abbrev cX10_mean : ByteArray := prog_1_method_28_code
def yX10_mean : MethodName := ⟨RX10, "mean", "(II)J"⟩
abbrev cX10_merchants : ByteArray := prog_1_method_29_code
def yX10_merchants : MethodName := ⟨RX10, "merchants", "(I)I"⟩
abbrev cX10_quarrel : ByteArray := prog_1_method_30_code
def yX10_quarrel : MethodName := ⟨RX10, "quarrel", "(I)I"⟩
abbrev cX10_forged : ByteArray := prog_1_method_31_code
def yX10_forged : MethodName := ⟨RX10, "forged", "(II)I"⟩
abbrev cX10_judge : ByteArray := prog_1_method_32_code
def yX10_judge : MethodName := ⟨RX10, "judge", "(III)I"⟩
abbrev cX10_seasons : ByteArray := prog_1_method_33_code
def yX10_seasons : MethodName := ⟨RX10, "seasons", "(III)I"⟩
abbrev cX10_image : ByteArray := prog_1_method_34_code
def yX10_image : MethodName := ⟨RX10, "image", "()I"⟩
abbrev cX10_restore : ByteArray := prog_1_method_35_code
def yX10_restore : MethodName := ⟨RX10, "restore", "()I"⟩
abbrev cX10_count : ByteArray := prog_1_method_36_code
def yX10_count : MethodName := ⟨RX10, "count", "(I)I"⟩
abbrev cX10_keep : ByteArray := prog_1_method_37_code
def yX10_keep : MethodName := ⟨RX10, "keep", "(IIII)I"⟩
abbrev cX10_row : ByteArray := prog_1_method_38_code
def yX10_row : MethodName := ⟨RX10, "row", "(III)I"⟩
abbrev cX10_put : ByteArray := prog_1_method_39_code
def yX10_put : MethodName := ⟨RX10, "put", "(III)I"⟩
abbrev cX10_element : ByteArray := prog_1_method_40_code
def yX10_element : MethodName := ⟨RX10, "element", "(II)J"⟩
abbrev cX10_copy : ByteArray := prog_1_method_41_code
def yX10_copy : MethodName := ⟨RX10, "copy", "(IIIII)I"⟩
abbrev cX10_cost : ByteArray := prog_1_method_42_code
def yX10_cost : MethodName := ⟨RX10, "cost", "(I)I"⟩
abbrev cX10_toss : ByteArray := prog_1_method_43_code
def yX10_toss : MethodName := ⟨RX10, "toss", "(I)I"⟩
abbrev cX10_within : ByteArray := prog_1_method_44_code
def yX10_within : MethodName := ⟨RX10, "within", "(III)Z"⟩
abbrev cX10_sum : ByteArray := prog_1_method_45_code
def yX10_sum : MethodName := ⟨RX10, "sum", "([II)I"⟩
abbrev cX10_refusedHeld : ByteArray := prog_1_method_46_code
def yX10_refusedHeld : MethodName := ⟨RX10, "refusedHeld", "(I)I"⟩
abbrev cX10_refusedSheep : ByteArray := prog_1_method_47_code
def yX10_refusedSheep : MethodName := ⟨RX10, "refusedSheep", "(I)I"⟩
abbrev cX10_refusedRow : ByteArray := prog_1_method_48_code
def yX10_refusedRow : MethodName := ⟨RX10, "refusedRow", "(I)I"⟩
abbrev cX10_refusedBytes : ByteArray := prog_1_method_49_code
def yX10_refusedBytes : MethodName := ⟨RX10, "refusedBytes", "(I)I"⟩
abbrev cX10_refusedTold : ByteArray := prog_1_method_50_code
def yX10_refusedTold : MethodName := ⟨RX10, "refusedTold", "(II)I"⟩
abbrev cX10_newSheep : ByteArray := prog_1_method_51_code
def yX10_newSheep : MethodName := ⟨RX10, "newSheep", "(II)LMeatForDiamonds$Sheep;"⟩
abbrev cX10_caughtFailure : ByteArray := prog_1_method_52_code
def yX10_caughtFailure : MethodName := ⟨RX10, "caughtFailure", "(LMeatForDiamonds$Sheep;)I"⟩
abbrev cX10_follow : ByteArray := prog_1_method_53_code
def yX10_follow : MethodName := ⟨RX10, "follow", "(LMeatForDiamonds$Shelf;I)Z"⟩
abbrev cX10_followCell : ByteArray := prog_1_method_54_code
def yX10_followCell : MethodName := ⟨RX10, "followCell", "(LMeatForDiamonds$Shelf;I)Z"⟩
abbrev cX10_followEagle : ByteArray := prog_1_method_55_code
def yX10_followEagle : MethodName := ⟨RX10, "followEagle", "(LMeatForDiamonds$Shelf;I)Z"⟩
abbrev cX10_followDrums : ByteArray := prog_1_method_56_code
def yX10_followDrums : MethodName := ⟨RX10, "followDrums", "(I)Z"⟩
abbrev cX10_followWait : ByteArray := prog_1_method_57_code
def yX10_followWait : MethodName := ⟨RX10, "followWait", "(I)Z"⟩
abbrev cX10_followThrow : ByteArray := prog_1_method_58_code
def yX10_followThrow : MethodName := ⟨RX10, "followThrow", "(II)Z"⟩
abbrev cX10_broughtDrumming : ByteArray := prog_1_method_59_code
def yX10_broughtDrumming : MethodName := ⟨RX10, "broughtDrumming", "(IIII)I"⟩
abbrev cX10_worthOfPair : ByteArray := prog_1_method_60_code
def yX10_worthOfPair : MethodName := ⟨RX10, "worthOfPair", "(I)I"⟩
abbrev cX10_stuckOf : ByteArray := prog_1_method_61_code
def yX10_stuckOf : MethodName := ⟨RX10, "stuckOf", "(II)I"⟩
abbrev cX10_fitPairs : ByteArray := prog_1_method_62_code
def yX10_fitPairs : MethodName := ⟨RX10, "fitPairs", "(LMeatForDiamonds$Sheep;LMeatForDiamonds$Shelf;)I"⟩
abbrev cX10_restOf : ByteArray := prog_1_method_63_code
def yX10_restOf : MethodName := ⟨RX10, "restOf", "(III)I"⟩
abbrev cX10_unlikeNumbers : ByteArray := prog_1_method_64_code
def yX10_unlikeNumbers : MethodName := ⟨RX10, "unlikeNumbers", "(LMeatForDiamonds$Sheep;)I"⟩
abbrev cX10_nextSeed : ByteArray := prog_1_method_65_code
def yX10_nextSeed : MethodName := ⟨RX10, "nextSeed", "(I)I"⟩
abbrev cX10_drawn : ByteArray := prog_1_method_66_code
def yX10_drawn : MethodName := ⟨RX10, "drawn", "(II)I"⟩
def RX11 : String := "MeatForDiamondsModel"
def TX11 : u_T := fun k => match k with
  | 0 => ("MeatForDiamondsModel", "s", "[I", true)
  | 1 => ("MeatForDiamondsModel", "m", "[I", true)
  | 2 => ("MeatForDiamondsModel", "then", "[I", true)
  | 3 => ("MeatForDiamondsModel", "image", "[I", true)
  | 4 => ("MeatForDiamondsModel", "was", "[I", true)
  | 5 => ("MeatForDiamondsModel", "hasImage", "Z", false)
  | 6 => ("MeatForDiamondsModel", "place", "I", false)
  | 7 => ("MeatForDiamondsModel", "rowAt", "I", false)
  | 8 => ("MeatForDiamondsModel", "rowEnd", "I", false)
  | 9 => ("MeatForDiamondsModel", "numbers", "[I", true)
  | 10 => ("MeatForDiamondsModel", "bestGain", "I", false)
  | 11 => ("MeatForDiamondsModel", "bigLeft", "I", false)
  | 12 => ("MeatForDiamondsModel", "smallLeft", "I", false)
  | 13 => ("MeatForDiamondsModel", "told", "[Z", true)
  | 14 => ("MeatForDiamondsModel", "sorted", "[I", true)
  | 15 => ("MeatForDiamondsModel", "seed", "I", false)
  | 16 => ("MeatForDiamondsModel", "kept", "[I", true)
  | 17 => ("MeatForDiamondsModel", "keptKind", "[I", true)
  | 18 => ("MeatForDiamondsModel", "keptFigure", "[I", true)
  | 19 => ("MeatForDiamondsModel", "sort", "[I", true)
  | 20 => ("MeatForDiamondsModel", "size", "[I", true)
  | 21 => ("MeatForDiamondsModel", "element", "[I", true)
  | _ => ("MeatForDiamondsModel", "thrown", "I", false)
def tyX11 : Nat → FieldType := fun k => match k with
  | 0 => .array .int
  | 1 => .array .int
  | 2 => .array .int
  | 3 => .array .int
  | 4 => .array .int
  | 5 => .boolean
  | 6 => .int
  | 7 => .int
  | 8 => .int
  | 9 => .array .int
  | 10 => .int
  | 11 => .int
  | 12 => .int
  | 13 => .array .boolean
  | 14 => .array .int
  | 15 => .int
  | 16 => .array .int
  | 17 => .array .int
  | 18 => .array .int
  | 19 => .array .int
  | 20 => .array .int
  | 21 => .array .int
  | _ => .int
abbrev wsX110 : List Cond := u_ws RX11 TX11 23
theorem nmX11 : ∀ a, a < 23 → ∀ b, b < 23 → a ≠ b → (TX11 a).2.1 ≠ (TX11 b).2.1 := by decide +kernel
theorem tyX11_ok : ∀ k, k < 23 → parseFieldDescriptor (TX11 k).2.2.1 = some (tyX11 k) := by decide +kernel
abbrev cX11_init : ByteArray := prog_13_method_1_code
def yX11_init : MethodName := ⟨RX11, "<init>", "()V"⟩
abbrev cX11_isIn : ByteArray := prog_13_method_2_code
def yX11_isIn : MethodName := ⟨RX11, "isIn", "(III)Z"⟩
abbrev cX11_least : ByteArray := prog_13_method_3_code
def yX11_least : MethodName := ⟨RX11, "least", "(II)I"⟩
abbrev cX11_most : ByteArray := prog_13_method_4_code
def yX11_most : MethodName := ⟨RX11, "most", "(II)I"⟩
abbrev cX11_copies : ByteArray := prog_13_method_5_code
def yX11_copies : MethodName := ⟨RX11, "copies", "([I[I)V"⟩
abbrev cX11_atCell : ByteArray := prog_13_method_6_code
def yX11_atCell : MethodName := ⟨RX11, "atCell", "(II)I"⟩
abbrev cX11_atEagle : ByteArray := prog_13_method_7_code
def yX11_atEagle : MethodName := ⟨RX11, "atEagle", "(II)I"⟩
abbrev cX11_kind : ByteArray := prog_13_method_8_code
def yX11_kind : MethodName := ⟨RX11, "kind", "([II)I"⟩
abbrev cX11_figure : ByteArray := prog_13_method_9_code
def yX11_figure : MethodName := ⟨RX11, "figure", "([II)I"⟩
abbrev cX11_isCell : ByteArray := prog_13_method_10_code
def yX11_isCell : MethodName := ⟨RX11, "isCell", "(I)Z"⟩
abbrev cX11_isEagle : ByteArray := prog_13_method_11_code
def yX11_isEagle : MethodName := ⟨RX11, "isEagle", "(I)Z"⟩
abbrev cX11_isSheep : ByteArray := prog_13_method_12_code
def yX11_isSheep : MethodName := ⟨RX11, "isSheep", "(I)Z"⟩
abbrev cX11_weight : ByteArray := prog_13_method_13_code
def yX11_weight : MethodName := ⟨RX11, "weight", "([II)I"⟩
abbrev cX11_sticks : ByteArray := prog_13_method_14_code
def yX11_sticks : MethodName := ⟨RX11, "sticks", "([II)I"⟩
abbrev cX11_flies : ByteArray := prog_13_method_15_code
def yX11_flies : MethodName := ⟨RX11, "flies", "([II)I"⟩
abbrev cX11_price : ByteArray := prog_13_method_16_code
def yX11_price : MethodName := ⟨RX11, "price", "([II)I"⟩
abbrev cX11_isNoon : ByteArray := prog_13_method_17_code
def yX11_isNoon : MethodName := ⟨RX11, "isNoon", "([I)Z"⟩
abbrev cX11_isEaten : ByteArray := prog_13_method_18_code
def yX11_isEaten : MethodName := ⟨RX11, "isEaten", "([III)Z"⟩
abbrev cX11_power : ByteArray := prog_13_method_19_code
def yX11_power : MethodName := ⟨RX11, "power", "([II)I"⟩
abbrev cX11_carrier : ByteArray := prog_13_method_20_code
def yX11_carrier : MethodName := ⟨RX11, "carrier", "([III)I"⟩
abbrev cX11_hungers : ByteArray := prog_13_method_21_code
def yX11_hungers : MethodName := ⟨RX11, "hungers", "([III)V"⟩
abbrev cX11_throwIn : ByteArray := prog_13_method_22_code
def yX11_throwIn : MethodName := ⟨RX11, "throwIn", "([III)I"⟩
abbrev cX11_waitIn : ByteArray := prog_13_method_23_code
def yX11_waitIn : MethodName := ⟨RX11, "waitIn", "([II)V"⟩
abbrev cX11_here : ByteArray := prog_13_method_24_code
def yX11_here : MethodName := ⟨RX11, "here", "()I"⟩
abbrev cX11_readsNumber : ByteArray := prog_13_method_25_code
def yX11_readsNumber : MethodName := ⟨RX11, "readsNumber", "(II)Z"⟩
abbrev cX11_readsStatement : ByteArray := prog_13_method_26_code
def yX11_readsStatement : MethodName := ⟨RX11, "readsStatement", "()Z"⟩
abbrev cX11_addsSheep : ByteArray := prog_13_method_27_code
def yX11_addsSheep : MethodName := ⟨RX11, "addsSheep", "(II)V"⟩
abbrev cX11_isDone : ByteArray := prog_13_method_28_code
def yX11_isDone : MethodName := ⟨RX11, "isDone", "(I)Z"⟩
abbrev cX11_valley : ByteArray := prog_13_method_29_code
def yX11_valley : MethodName := ⟨RX11, "valley", "(I)I"⟩
abbrev cX11_cellOf : ByteArray := prog_13_method_30_code
def yX11_cellOf : MethodName := ⟨RX11, "cellOf", "(II)I"⟩
abbrev cX11_eagle : ByteArray := prog_13_method_31_code
def yX11_eagle : MethodName := ⟨RX11, "eagle", "(II)I"⟩
abbrev cX11_sheep : ByteArray := prog_13_method_32_code
def yX11_sheep : MethodName := ⟨RX11, "sheep", "(II)I"⟩
abbrev cX11_nest : ByteArray := prog_13_method_33_code
def yX11_nest : MethodName := ⟨RX11, "nest", "(I)I"⟩
abbrev cX11_buys : ByteArray := prog_13_method_34_code
def yX11_buys : MethodName := ⟨RX11, "buys", "(I)I"⟩
abbrev cX11_lays : ByteArray := prog_13_method_35_code
def yX11_lays : MethodName := ⟨RX11, "lays", "(IIII)I"⟩
abbrev cX11_set : ByteArray := prog_13_method_36_code
def yX11_set : MethodName := ⟨RX11, "set", "(II)I"⟩
abbrev cX11_wrongThrow : ByteArray := prog_13_method_37_code
def yX11_wrongThrow : MethodName := ⟨RX11, "wrongThrow", "(II)I"⟩
abbrev cX11_throwsOne : ByteArray := prog_13_method_38_code
def yX11_throwsOne : MethodName := ⟨RX11, "throwsOne", "(II)I"⟩
abbrev cX11_waits : ByteArray := prog_13_method_39_code
def yX11_waits : MethodName := ⟨RX11, "waits", "(I)I"⟩
abbrev cX11_broughtBy : ByteArray := prog_13_method_40_code
def yX11_broughtBy : MethodName := ⟨RX11, "broughtBy", "([III)I"⟩
abbrev cX11_brings : ByteArray := prog_13_method_41_code
def yX11_brings : MethodName := ⟨RX11, "brings", "(III)I"⟩
abbrev cX11_bestCell : ByteArray := prog_13_method_42_code
def yX11_bestCell : MethodName := ⟨RX11, "bestCell", "(I)I"⟩
abbrev cX11_bestBy : ByteArray := prog_13_method_43_code
def yX11_bestBy : MethodName := ⟨RX11, "bestBy", "([I)I"⟩
abbrev cX11_bestThrow : ByteArray := prog_13_method_44_code
def yX11_bestThrow : MethodName := ⟨RX11, "bestThrow", "()I"⟩
abbrev cX11_gain : ByteArray := prog_13_method_45_code
def yX11_gain : MethodName := ⟨RX11, "gain", "()I"⟩
abbrev cX11_bestHour : ByteArray := prog_13_method_46_code
def yX11_bestHour : MethodName := ⟨RX11, "bestHour", "(III)I"⟩
abbrev cX11_twoThrows : ByteArray := prog_13_method_47_code
def yX11_twoThrows : MethodName := ⟨RX11, "twoThrows", "(I)I"⟩
abbrev cX11_greedily : ByteArray := prog_13_method_48_code
def yX11_greedily : MethodName := ⟨RX11, "greedily", "(II)I"⟩
abbrev cX11_drum : ByteArray := prog_13_method_49_code
def yX11_drum : MethodName := ⟨RX11, "drum", "(IIII)I"⟩
abbrev cX11_lifts : ByteArray := prog_13_method_50_code
def yX11_lifts : MethodName := ⟨RX11, "lifts", "(II)I"⟩
abbrev cX11_man : ByteArray := prog_13_method_51_code
def yX11_man : MethodName := ⟨RX11, "man", "(I)I"⟩
abbrev cX11_safe : ByteArray := prog_13_method_52_code
def yX11_safe : MethodName := ⟨RX11, "safe", "(I)I"⟩
abbrev cX11_noon : ByteArray := prog_13_method_53_code
def yX11_noon : MethodName := ⟨RX11, "noon", "()I"⟩
abbrev cX11_worthOf : ByteArray := prog_13_method_54_code
def yX11_worthOf : MethodName := ⟨RX11, "worthOf", "([II)I"⟩
abbrev cX11_left : ByteArray := prog_13_method_55_code
def yX11_left : MethodName := ⟨RX11, "left", "(I)I"⟩
abbrev cX11_takes : ByteArray := prog_13_method_56_code
def yX11_takes : MethodName := ⟨RX11, "takes", "(I)I"⟩
abbrev cX11_wrongAt : ByteArray := prog_13_method_57_code
def yX11_wrongAt : MethodName := ⟨RX11, "wrongAt", "(III)I"⟩
abbrev cX11_wrongSheepRow : ByteArray := prog_13_method_58_code
def yX11_wrongSheepRow : MethodName := ⟨RX11, "wrongSheepRow", "(II)I"⟩
abbrev cX11_still : ByteArray := prog_13_method_59_code
def yX11_still : MethodName := ⟨RX11, "still", "(III)I"⟩
abbrev cX11_partsBy : ByteArray := prog_13_method_60_code
def yX11_partsBy : MethodName := ⟨RX11, "partsBy", "(III)I"⟩
abbrev cX11_tellsMost : ByteArray := prog_13_method_61_code
def yX11_tellsMost : MethodName := ⟨RX11, "tellsMost", "(III)I"⟩
abbrev cX11_whose : ByteArray := prog_13_method_62_code
def yX11_whose : MethodName := ⟨RX11, "whose", "(II)I"⟩
abbrev cX11_gcd : ByteArray := prog_13_method_63_code
def yX11_gcd : MethodName := ⟨RX11, "gcd", "(JJ)J"⟩
abbrev cX11_partOf : ByteArray := prog_13_method_64_code
def yX11_partOf : MethodName := ⟨RX11, "partOf", "(JJI)J"⟩
abbrev cX11_mean : ByteArray := prog_13_method_65_code
def yX11_mean : MethodName := ⟨RX11, "mean", "(II)J"⟩
abbrev cX11_isChoice : ByteArray := prog_13_method_66_code
def yX11_isChoice : MethodName := ⟨RX11, "isChoice", "(II)Z"⟩
abbrev cX11_gainBy : ByteArray := prog_13_method_67_code
def yX11_gainBy : MethodName := ⟨RX11, "gainBy", "([III)I"⟩
abbrev cX11_isBest : ByteArray := prog_13_method_68_code
def yX11_isBest : MethodName := ⟨RX11, "isBest", "([III)Z"⟩
abbrev cX11_merchants : ByteArray := prog_13_method_69_code
def yX11_merchants : MethodName := ⟨RX11, "merchants", "(I)I"⟩
abbrev cX11_sorts : ByteArray := prog_13_method_70_code
def yX11_sorts : MethodName := ⟨RX11, "sorts", "()V"⟩
abbrev cX11_quarrel : ByteArray := prog_13_method_71_code
def yX11_quarrel : MethodName := ⟨RX11, "quarrel", "(I)I"⟩
abbrev cX11_forged : ByteArray := prog_13_method_72_code
def yX11_forged : MethodName := ⟨RX11, "forged", "(II)I"⟩
abbrev cX11_leastOf : ByteArray := prog_13_method_73_code
def yX11_leastOf : MethodName := ⟨RX11, "leastOf", "(I)I"⟩
abbrev cX11_judge : ByteArray := prog_13_method_74_code
def yX11_judge : MethodName := ⟨RX11, "judge", "(III)I"⟩
abbrev cX11_drawn : ByteArray := prog_13_method_75_code
def yX11_drawn : MethodName := ⟨RX11, "drawn", "(I)I"⟩
abbrev cX11_seasons : ByteArray := prog_13_method_76_code
def yX11_seasons : MethodName := ⟨RX11, "seasons", "(III)I"⟩
abbrev cX11_image : ByteArray := prog_13_method_77_code
def yX11_image : MethodName := ⟨RX11, "image", "()I"⟩
abbrev cX11_restore : ByteArray := prog_13_method_78_code
def yX11_restore : MethodName := ⟨RX11, "restore", "()I"⟩
abbrev cX11_count : ByteArray := prog_13_method_79_code
def yX11_count : MethodName := ⟨RX11, "count", "(I)I"⟩
abbrev cX11_thrown : ByteArray := prog_13_method_80_code
def yX11_thrown : MethodName := ⟨RX11, "thrown", "()I"⟩
abbrev cX11_isShelf : ByteArray := prog_13_method_81_code
def yX11_isShelf : MethodName := ⟨RX11, "isShelf", "(I)Z"⟩
abbrev cX11_wrongRow : ByteArray := prog_13_method_82_code
def yX11_wrongRow : MethodName := ⟨RX11, "wrongRow", "(II)I"⟩
abbrev cX11_wrongKept : ByteArray := prog_13_method_83_code
def yX11_wrongKept : MethodName := ⟨RX11, "wrongKept", "(I)I"⟩
abbrev cX11_keep : ByteArray := prog_13_method_84_code
def yX11_keep : MethodName := ⟨RX11, "keep", "(IIII)I"⟩
abbrev cX11_row : ByteArray := prog_13_method_85_code
def yX11_row : MethodName := ⟨RX11, "row", "(III)I"⟩
abbrev cX11_put : ByteArray := prog_13_method_86_code
def yX11_put : MethodName := ⟨RX11, "put", "(III)I"⟩
abbrev cX11_element : ByteArray := prog_13_method_87_code
def yX11_element : MethodName := ⟨RX11, "element", "(II)J"⟩
abbrev cX11_copy : ByteArray := prog_13_method_88_code
def yX11_copy : MethodName := ⟨RX11, "copy", "(IIIII)I"⟩
abbrev cX11_costBy : ByteArray := prog_13_method_89_code
def yX11_costBy : MethodName := ⟨RX11, "costBy", "(II)I"⟩
abbrev cX11_cost : ByteArray := prog_13_method_90_code
def yX11_cost : MethodName := ⟨RX11, "cost", "(I)I"⟩
abbrev cX11_toss : ByteArray := prog_13_method_91_code
def yX11_toss : MethodName := ⟨RX11, "toss", "(I)I"⟩
def RJ13 : String := "java/lang/Long"
def TJ13 : u_T := fun k => match k with
  | _ => ("", "", "", false)
def tyJ13 : Nat → FieldType := fun k => match k with
  | _ => .int
abbrev wsJ130 : List Cond := u_ws RJ13 TJ13 0
theorem nmJ13 : ∀ a, a < 0 → ∀ b, b < 0 → a ≠ b → (TJ13 a).2.1 ≠ (TJ13 b).2.1 := by decide +kernel
theorem tyJ13_ok : ∀ k, k < 0 → parseFieldDescriptor (TJ13 k).2.2.1 = some (tyJ13 k) := by decide +kernel
abbrev cJ13_bitCount_95d88 : ByteArray := prog_17_method_50_code
def yJ13_bitCount_95d88 : MethodName := ⟨RJ13, "bitCount", "(J)I"⟩
def RJ9 : String := "java/lang/Math"
def TJ9 : u_T := fun k => match k with
  | _ => ("", "", "", false)
def tyJ9 : Nat → FieldType := fun k => match k with
  | _ => .int
abbrev wsJ90 : List Cond := u_ws RJ9 TJ9 0
theorem nmJ9 : ∀ a, a < 0 → ∀ b, b < 0 → a ≠ b → (TJ9 a).2.1 ≠ (TJ9 b).2.1 := by decide +kernel
theorem tyJ9_ok : ∀ k, k < 0 → parseFieldDescriptor (TJ9 k).2.2.1 = some (tyJ9 k) := by decide +kernel
abbrev cJ9_max_7cf53 : ByteArray := prog_18_method_65_code
def yJ9_max_7cf53 : MethodName := ⟨RJ9, "max", "(II)I"⟩
abbrev cJ9_min_7cf53 : ByteArray := prog_18_method_69_code
def yJ9_min_7cf53 : MethodName := ⟨RJ9, "min", "(II)I"⟩
def RJ0 : String := "java/lang/String"
def TJ0 : u_T := fun k => match k with
  | _ => ("", "", "", false)
def tyJ0 : Nat → FieldType := fun k => match k with
  | _ => .int
abbrev wsJ00 : List Cond := u_ws RJ0 TJ0 0
theorem nmJ0 : ∀ a, a < 0 → ∀ b, b < 0 → a ≠ b → (TJ0 a).2.1 ≠ (TJ0 b).2.1 := by decide +kernel
theorem tyJ0_ok : ∀ k, k < 0 → parseFieldDescriptor (TJ0 k).2.2.1 = some (tyJ0 k) := by decide +kernel
def RJ10 : String := "java/lang/System"
def TJ10 : u_T := fun k => match k with
  | _ => ("", "", "", false)
def tyJ10 : Nat → FieldType := fun k => match k with
  | _ => .int
abbrev wsJ100 : List Cond := u_ws RJ10 TJ10 0
theorem nmJ10 : ∀ a, a < 0 → ∀ b, b < 0 → a ≠ b → (TJ10 a).2.1 ≠ (TJ10 b).2.1 := by decide +kernel
theorem tyJ10_ok : ∀ k, k < 0 → parseFieldDescriptor (TJ10 k).2.2.1 = some (tyJ10 k) := by decide +kernel
def RL : String := "MeatForDiamondsLaw"
abbrev cL_element : ByteArray := method_3_code
def yL_element : MethodName := ⟨RL, "element", "(LMeatForDiamonds;II[J)I"⟩
abbrev cL_law : ByteArray := code
def yL_law : MethodName := ⟨RL, "law", "([I)Z"⟩
/-- the words that a callee may be given -/
def lw_g : List Cond := lw_tbl.filter goodWord
theorem inX0 : ∀ w ∈ wsX00, w ∈ lw_g := by decide +kernel
theorem inX1 : ∀ w ∈ wsX10, w ∈ lw_g := by decide +kernel
theorem inX2 : ∀ w ∈ wsX20, w ∈ lw_g := by decide +kernel
theorem inX3 : ∀ w ∈ wsX30, w ∈ lw_g := by decide +kernel
theorem inX4 : ∀ w ∈ wsX40, w ∈ lw_g := by decide +kernel
theorem inX5 : ∀ w ∈ wsX50, w ∈ lw_g := by decide +kernel
theorem inX6 : ∀ w ∈ wsX60, w ∈ lw_g := by decide +kernel
theorem inX7 : ∀ w ∈ wsX70, w ∈ lw_g := by decide +kernel
theorem inX8 : ∀ w ∈ wsX80, w ∈ lw_g := by decide +kernel
theorem inX9 : ∀ w ∈ wsX90, w ∈ lw_g := by decide +kernel
theorem inX10 : ∀ w ∈ wsX100, w ∈ lw_g := by decide +kernel
theorem inX11 : ∀ w ∈ wsX110, w ∈ lw_g := by decide +kernel
abbrev classes : List vw_C := [(RX0, TX0, 7), (RX1, TX1, 7), (RX2, TX2, 7), (RX3, TX3, 7), (RX4, TX4, 7), (RX5, TX5, 5), (RX6, TX6, 7), (RX7, TX7, 7), (RX8, TX8, 7), (RX9, TX9, 13), (RX10, TX10, 6), (RX11, TX11, 23)]
end

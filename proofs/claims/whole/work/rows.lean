section
-- ===== PART A: goes FIRST, ahead of the names: the tables' words, and 'selects' of the private methods out of them =====
/-- a private method of a class that the tables say can be made, by its rows of tables_1 -/
def lw_okq (q : MethodName × Nat) : Prop := (q.1.cls ≠ "java/lang/invoke/MethodHandle" ∧ q.1.cls ≠ "java/lang/invoke/VarHandle") ∧ Cond.instantiable q.1.cls q.2 ∈ tables_1 ∧ Cond.privateMethod q.1 ∈ tables_1 ∧ Cond.instanceMethod q.1 ∈ tables_1
theorem lw_p0 : lw_okq (⟨"CopyRows", "fail", "(I)I"⟩, 2) := ⟨⟨by decide +kernel, by decide +kernel⟩, List.mem_of_getElem? (i := 9) (by decide +kernel), List.mem_of_getElem? (i := 38) (by decide +kernel), List.mem_of_getElem? (i := 39) (by decide +kernel)⟩
theorem lw_p1 : lw_okq (⟨"CopyRows", "put", "(ILCopyRows$Row;)I"⟩, 2) := ⟨⟨by decide +kernel, by decide +kernel⟩, List.mem_of_getElem? (i := 9) (by decide +kernel), List.mem_of_getElem? (i := 70) (by decide +kernel), List.mem_of_getElem? (i := 71) (by decide +kernel)⟩
theorem lw_p2 : lw_okq (⟨"CopyRows", "rowOf", "(II)LCopyRows$Row;"⟩, 2) := ⟨⟨by decide +kernel, by decide +kernel⟩, List.mem_of_getElem? (i := 9) (by decide +kernel), List.mem_of_getElem? (i := 97) (by decide +kernel), List.mem_of_getElem? (i := 98) (by decide +kernel)⟩
theorem lw_p3 : lw_okq (⟨"CopyRows", "sumOfTable", "(LCopyRows$Row;)I"⟩, 2) := ⟨⟨by decide +kernel, by decide +kernel⟩, List.mem_of_getElem? (i := 9) (by decide +kernel), List.mem_of_getElem? (i := 234) (by decide +kernel), List.mem_of_getElem? (i := 235) (by decide +kernel)⟩
theorem lw_p4 : lw_okq (⟨"CopyRows", "isFirstHeldAt", "(LCopyRows$Row;I)Z"⟩, 2) := ⟨⟨by decide +kernel, by decide +kernel⟩, List.mem_of_getElem? (i := 9) (by decide +kernel), List.mem_of_getElem? (i := 270) (by decide +kernel), List.mem_of_getElem? (i := 271) (by decide +kernel)⟩
theorem lw_p5 : lw_okq (⟨"CopyRowsModel", "no", "(I)I"⟩, 11) := ⟨⟨by decide +kernel, by decide +kernel⟩, List.mem_of_getElem? (i := 278) (by decide +kernel), List.mem_of_getElem? (i := 335) (by decide +kernel), List.mem_of_getElem? (i := 336) (by decide +kernel)⟩
theorem lw_p6 : lw_okq (⟨"CopyRowsModel", "newRow", "(II)I"⟩, 11) := ⟨⟨by decide +kernel, by decide +kernel⟩, List.mem_of_getElem? (i := 278) (by decide +kernel), List.mem_of_getElem? (i := 339) (by decide +kernel), List.mem_of_getElem? (i := 340) (by decide +kernel)⟩
theorem lw_p7 : lw_okq (⟨"CopyRowsModel", "put", "(III)V"⟩, 11) := ⟨⟨by decide +kernel, by decide +kernel⟩, List.mem_of_getElem? (i := 278) (by decide +kernel), List.mem_of_getElem? (i := 343) (by decide +kernel), List.mem_of_getElem? (i := 344) (by decide +kernel)⟩
theorem lw_p8 : lw_okq (⟨"CopyRowsModel", "yes", "(I)I"⟩, 11) := ⟨⟨by decide +kernel, by decide +kernel⟩, List.mem_of_getElem? (i := 278) (by decide +kernel), List.mem_of_getElem? (i := 347) (by decide +kernel), List.mem_of_getElem? (i := 348) (by decide +kernel)⟩
theorem lw_p9 : lw_okq (⟨"CopyRowsModel", "kindOf", "(I)I"⟩, 11) := ⟨⟨by decide +kernel, by decide +kernel⟩, List.mem_of_getElem? (i := 278) (by decide +kernel), List.mem_of_getElem? (i := 355) (by decide +kernel), List.mem_of_getElem? (i := 356) (by decide +kernel)⟩
theorem lw_p10 : lw_okq (⟨"CopyRowsModel", "wantsRow", "(I)I"⟩, 11) := ⟨⟨by decide +kernel, by decide +kernel⟩, List.mem_of_getElem? (i := 278) (by decide +kernel), List.mem_of_getElem? (i := 375) (by decide +kernel), List.mem_of_getElem? (i := 376) (by decide +kernel)⟩
theorem lw_p11 : lw_okq (⟨"CopyRowsModel", "lengthOf", "(I)I"⟩, 11) := ⟨⟨by decide +kernel, by decide +kernel⟩, List.mem_of_getElem? (i := 278) (by decide +kernel), List.mem_of_getElem? (i := 379) (by decide +kernel), List.mem_of_getElem? (i := 380) (by decide +kernel)⟩
theorem lw_p12 : lw_okq (⟨"CopyRowsModel", "wantsItem", "(IIII)I"⟩, 11) := ⟨⟨by decide +kernel, by decide +kernel⟩, List.mem_of_getElem? (i := 278) (by decide +kernel), List.mem_of_getElem? (i := 387) (by decide +kernel), List.mem_of_getElem? (i := 388) (by decide +kernel)⟩
theorem lw_p13 : lw_okq (⟨"CopyRowsModel", "get", "(II)I"⟩, 11) := ⟨⟨by decide +kernel, by decide +kernel⟩, List.mem_of_getElem? (i := 278) (by decide +kernel), List.mem_of_getElem? (i := 391) (by decide +kernel), List.mem_of_getElem? (i := 392) (by decide +kernel)⟩
theorem lw_p14 : lw_okq (⟨"CopyRowsModel", "unlike", "(II)I"⟩, 11) := ⟨⟨by decide +kernel, by decide +kernel⟩, List.mem_of_getElem? (i := 278) (by decide +kernel), List.mem_of_getElem? (i := 423) (by decide +kernel), List.mem_of_getElem? (i := 424) (by decide +kernel)⟩
theorem lw_p15 : lw_okq (⟨"CopyRowsModel", "fits", "(III)Z"⟩, 11) := ⟨⟨by decide +kernel, by decide +kernel⟩, List.mem_of_getElem? (i := 278) (by decide +kernel), List.mem_of_getElem? (i := 427) (by decide +kernel), List.mem_of_getElem? (i := 428) (by decide +kernel)⟩
def lw_privs_1 : List (MethodName × Nat) := [(⟨"CopyRows", "fail", "(I)I"⟩, 2), (⟨"CopyRows", "put", "(ILCopyRows$Row;)I"⟩, 2), (⟨"CopyRows", "rowOf", "(II)LCopyRows$Row;"⟩, 2), (⟨"CopyRows", "sumOfTable", "(LCopyRows$Row;)I"⟩, 2), (⟨"CopyRows", "isFirstHeldAt", "(LCopyRows$Row;I)Z"⟩, 2), (⟨"CopyRowsModel", "no", "(I)I"⟩, 11), (⟨"CopyRowsModel", "newRow", "(II)I"⟩, 11), (⟨"CopyRowsModel", "put", "(III)V"⟩, 11), (⟨"CopyRowsModel", "yes", "(I)I"⟩, 11), (⟨"CopyRowsModel", "kindOf", "(I)I"⟩, 11), (⟨"CopyRowsModel", "wantsRow", "(I)I"⟩, 11), (⟨"CopyRowsModel", "lengthOf", "(I)I"⟩, 11), (⟨"CopyRowsModel", "wantsItem", "(IIII)I"⟩, 11), (⟨"CopyRowsModel", "get", "(II)I"⟩, 11), (⟨"CopyRowsModel", "unlike", "(II)I"⟩, 11), (⟨"CopyRowsModel", "fits", "(III)Z"⟩, 11)]
theorem lw_r1 : ∀ q ∈ lw_privs_1, lw_okq q := List.forall_mem_cons.mpr ⟨lw_p0, List.forall_mem_cons.mpr ⟨lw_p1, List.forall_mem_cons.mpr ⟨lw_p2, List.forall_mem_cons.mpr ⟨lw_p3, List.forall_mem_cons.mpr ⟨lw_p4, List.forall_mem_cons.mpr ⟨lw_p5, List.forall_mem_cons.mpr ⟨lw_p6, List.forall_mem_cons.mpr ⟨lw_p7, List.forall_mem_cons.mpr ⟨lw_p8, List.forall_mem_cons.mpr ⟨lw_p9, List.forall_mem_cons.mpr ⟨lw_p10, List.forall_mem_cons.mpr ⟨lw_p11, List.forall_mem_cons.mpr ⟨lw_p12, List.forall_mem_cons.mpr ⟨lw_p13, List.forall_mem_cons.mpr ⟨lw_p14, List.forall_mem_cons.mpr ⟨lw_p15, fun _ h => absurd h List.not_mem_nil⟩⟩⟩⟩⟩⟩⟩⟩⟩⟩⟩⟩⟩⟩⟩⟩
theorem lw_p16 : lw_okq (⟨"CopyRowsModel", "sliced", "(IIII)I"⟩, 11) := ⟨⟨by decide +kernel, by decide +kernel⟩, List.mem_of_getElem? (i := 278) (by decide +kernel), List.mem_of_getElem? (i := 439) (by decide +kernel), List.mem_of_getElem? (i := 440) (by decide +kernel)⟩
theorem lw_p17 : lw_okq (⟨"CopyRowsModel", "sumOf", "(I)I"⟩, 11) := ⟨⟨by decide +kernel, by decide +kernel⟩, List.mem_of_getElem? (i := 278) (by decide +kernel), List.mem_of_getElem? (i := 463) (by decide +kernel), List.mem_of_getElem? (i := 464) (by decide +kernel)⟩
theorem lw_p18 : lw_okq (⟨"CopyRowsModel", "isRow", "(I)Z"⟩, 11) := ⟨⟨by decide +kernel, by decide +kernel⟩, List.mem_of_getElem? (i := 278) (by decide +kernel), List.mem_of_getElem? (i := 479) (by decide +kernel), List.mem_of_getElem? (i := 480) (by decide +kernel)⟩
def lw_privs_2 : List (MethodName × Nat) := [(⟨"CopyRowsModel", "sliced", "(IIII)I"⟩, 11), (⟨"CopyRowsModel", "sumOf", "(I)I"⟩, 11), (⟨"CopyRowsModel", "isRow", "(I)Z"⟩, 11)]
theorem lw_r2 : ∀ q ∈ lw_privs_2, lw_okq q := List.forall_mem_cons.mpr ⟨lw_p16, List.forall_mem_cons.mpr ⟨lw_p17, List.forall_mem_cons.mpr ⟨lw_p18, fun _ h => absurd h List.not_mem_nil⟩⟩⟩
def lw_privs : List (MethodName × Nat) := lw_privs_1 ++ (lw_privs_2)
def lw_tbl : List Cond := k2_sels lw_privs ++ tables_1
theorem lw_privs_ok : ∀ q ∈ lw_privs, lw_okq q := by
  show ∀ q ∈ lw_privs_1 ++ (lw_privs_2), lw_okq q
  exact List.forall_mem_append.mpr ⟨lw_r1, lw_r2⟩
end
section
/-! ===== BEGIN words of one list among another's, by their places ===== -/
theorem goodIn_r {big : List Cond} (ws : List Cond) (ps : List Nat) (hp : ws = ps.filterMap (fun i => big[i]?)) (h : ws.all goodWord = true) : GoodIn big ws := by
  intro w hw
  have h1 := List.all_eq_true.mp h w hw
  rw [hp] at hw
  obtain ⟨i, -, hi⟩ := List.mem_filterMap.mp hw
  have hm : w ∈ big := by first | exact List.mem_of_getElem? hi | exact List.getElem?_mem hi
  exact ⟨hm, good_of_word h1⟩
theorem goodIn_app {big a b : List Cond} (ha : GoodIn big a) (hb : GoodIn big b) : GoodIn big (a ++ b) := fun w h => (List.mem_append.mp h).elim (ha w) (hb w)
theorem goodIn_ca {big a b : List Cond} {c : Cond} (ha : GoodIn big (c :: a)) (hb : GoodIn big b) : GoodIn big (c :: (a ++ b)) := fun w h => (List.mem_cons.mp h).elim (fun e => ha w (List.mem_cons.mpr (Or.inl e))) (fun h => (List.mem_append.mp h).elim (fun h => ha w (List.mem_cons.mpr (Or.inr h))) (hb w))
theorem goodIn_sub {big ws : List Cond} (hm : ∀ w ∈ ws, w ∈ big) (h : ws.all goodWord = true) : GoodIn big ws := fun w hw => ⟨hm w hw, good_of_word (List.all_eq_true.mp h w hw)⟩
/-! ===== END ===== -/

/-! ===== BEGIN printed: names, fields, word lists, decode rows ===== -/
def RX0 : String := "CopyRows$Part"
def TX0 : u_T := fun k => match k with
  | _ => ("", "", "", false)
def tyX0 : Nat → FieldType := fun k => match k with
  | _ => .int
abbrev wsX00 : List Cond := u_ws RX0 TX0 0
theorem nmX0 : ∀ a, a < 0 → ∀ b, b < 0 → a ≠ b → (TX0 a).2.1 ≠ (TX0 b).2.1 := by decide +kernel
theorem tyX0_ok : ∀ k, k < 0 → parseFieldDescriptor (TX0 k).2.2.1 = some (tyX0 k) := by decide +kernel
abbrev cX0_init : ByteArray := prog_2_method_1_code
def yX0_init : MethodName := ⟨RX0, "<init>", "()V"⟩
def RX1 : String := "CopyRows$Row"
def TX1 : u_T := fun k => match k with
  | 0 => ("CopyRows$Row", "kind", "I", true)
  | 1 => ("CopyRows$Row", "length", "I", true)
  | 2 => ("CopyRows$Row", "numbers", "[I", true)
  | _ => ("CopyRows$Row", "parts", "[LCopyRows$Part;", true)
def tyX1 : Nat → FieldType := fun k => match k with
  | 0 => .int
  | 1 => .int
  | 2 => .array .int
  | _ => .array (.object "CopyRows$Part")
abbrev wsX10 : List Cond := u_ws RX1 TX1 4
theorem nmX1 : ∀ a, a < 4 → ∀ b, b < 4 → a ≠ b → (TX1 a).2.1 ≠ (TX1 b).2.1 := by decide +kernel
theorem tyX1_ok : ∀ k, k < 4 → parseFieldDescriptor (TX1 k).2.2.1 = some (tyX1 k) := by decide +kernel
abbrev cX1_init : ByteArray := prog_3_method_1_code
def yX1_init : MethodName := ⟨RX1, "<init>", "(II)V"⟩
abbrev cX1_fitsInto : ByteArray := prog_3_method_2_code
def yX1_fitsInto : MethodName := ⟨RX1, "fitsInto", "(I)Z"⟩
abbrev cX1_shown : ByteArray := prog_3_method_3_code
def yX1_shown : MethodName := ⟨RX1, "shown", "()I"⟩
abbrev cX1_isOfNumbers : ByteArray := prog_3_method_4_code
def yX1_isOfNumbers : MethodName := ⟨RX1, "isOfNumbers", "()Z"⟩
abbrev cX1_has : ByteArray := prog_3_method_5_code
def yX1_has : MethodName := ⟨RX1, "has", "(I)Z"⟩
abbrev cX1_hasRange : ByteArray := prog_3_method_6_code
def yX1_hasRange : MethodName := ⟨RX1, "hasRange", "(II)Z"⟩
abbrev cX1_takes : ByteArray := prog_3_method_7_code
def yX1_takes : MethodName := ⟨RX1, "takes", "(LCopyRows$Part;)Z"⟩
abbrev cX1_mayTakeOf : ByteArray := prog_3_method_8_code
def yX1_mayTakeOf : MethodName := ⟨RX1, "mayTakeOf", "(LCopyRows$Row;)Z"⟩
abbrev cX1_countTaken : ByteArray := prog_3_method_9_code
def yX1_countTaken : MethodName := ⟨RX1, "countTaken", "(LCopyRows$Row;II)I"⟩
abbrev cX1_take : ByteArray := prog_3_method_10_code
def yX1_take : MethodName := ⟨RX1, "take", "(LCopyRows$Row;III)V"⟩
abbrev cX1_cut : ByteArray := prog_3_method_11_code
def yX1_cut : MethodName := ⟨RX1, "cut", "(II)LCopyRows$Row;"⟩
abbrev cX1_total : ByteArray := prog_3_method_12_code
def yX1_total : MethodName := ⟨RX1, "total", "()I"⟩
abbrev cX1_isLike : ByteArray := prog_3_method_13_code
def yX1_isLike : MethodName := ⟨RX1, "isLike", "(LCopyRows$Row;)Z"⟩
abbrev cX1_order : ByteArray := prog_3_method_14_code
def yX1_order : MethodName := ⟨RX1, "order", "(LCopyRows$Row;)I"⟩
abbrev cX1_countOf : ByteArray := prog_3_method_15_code
def yX1_countOf : MethodName := ⟨RX1, "countOf", "(LCopyRows$Row;)I"⟩
def RX2 : String := "CopyRows$Thing"
def TX2 : u_T := fun k => match k with
  | 0 => ("CopyRows$Thing", "cls", "I", true)
  | _ => ("CopyRows$Thing", "number", "I", true)
def tyX2 : Nat → FieldType := fun k => match k with
  | 0 => .int
  | _ => .int
abbrev wsX20 : List Cond := u_ws RX2 TX2 2
theorem nmX2 : ∀ a, a < 2 → ∀ b, b < 2 → a ≠ b → (TX2 a).2.1 ≠ (TX2 b).2.1 := by decide +kernel
theorem tyX2_ok : ∀ k, k < 2 → parseFieldDescriptor (TX2 k).2.2.1 = some (tyX2 k) := by decide +kernel
abbrev cX2_init : ByteArray := prog_4_method_1_code
def yX2_init : MethodName := ⟨RX2, "<init>", "(II)V"⟩
abbrev cX2_fitsInto : ByteArray := prog_4_method_2_code
def yX2_fitsInto : MethodName := ⟨RX2, "fitsInto", "(I)Z"⟩
abbrev cX2_shown : ByteArray := prog_4_method_3_code
def yX2_shown : MethodName := ⟨RX2, "shown", "()I"⟩
def RX3 : String := "CopyRows"
def TX3 : u_T := fun k => match k with
  | 0 => ("CopyRows", "places", "[LCopyRows$Row;", true)
  | _ => ("CopyRows", "code", "I", false)
def tyX3 : Nat → FieldType := fun k => match k with
  | 0 => .array (.object "CopyRows$Row")
  | _ => .int
abbrev wsX30 : List Cond := u_ws RX3 TX3 2
theorem nmX3 : ∀ a, a < 2 → ∀ b, b < 2 → a ≠ b → (TX3 a).2.1 ≠ (TX3 b).2.1 := by decide +kernel
theorem tyX3_ok : ∀ k, k < 2 → parseFieldDescriptor (TX3 k).2.2.1 = some (tyX3 k) := by decide +kernel
abbrev cX3_init : ByteArray := prog_1_method_1_code
def yX3_init : MethodName := ⟨RX3, "<init>", "()V"⟩
abbrev cX3_code : ByteArray := prog_1_method_2_code
def yX3_code : MethodName := ⟨RX3, "code", "()I"⟩
abbrev cX3_make : ByteArray := prog_1_method_3_code
def yX3_make : MethodName := ⟨RX3, "make", "(III)I"⟩
abbrev cX3_share : ByteArray := prog_1_method_4_code
def yX3_share : MethodName := ⟨RX3, "share", "(II)I"⟩
abbrev cX3_nothing : ByteArray := prog_1_method_5_code
def yX3_nothing : MethodName := ⟨RX3, "nothing", "(I)I"⟩
abbrev cX3_lump : ByteArray := prog_1_method_6_code
def yX3_lump : MethodName := ⟨RX3, "lump", "(I)I"⟩
abbrev cX3_kind : ByteArray := prog_1_method_7_code
def yX3_kind : MethodName := ⟨RX3, "kind", "(I)I"⟩
abbrev cX3_length : ByteArray := prog_1_method_8_code
def yX3_length : MethodName := ⟨RX3, "length", "(I)I"⟩
abbrev cX3_set : ByteArray := prog_1_method_9_code
def yX3_set : MethodName := ⟨RX3, "set", "(III)I"⟩
abbrev cX3_thing : ByteArray := prog_1_method_10_code
def yX3_thing : MethodName := ⟨RX3, "thing", "(IIII)I"⟩
abbrev cX3_hang : ByteArray := prog_1_method_11_code
def yX3_hang : MethodName := ⟨RX3, "hang", "(III)I"⟩
abbrev cX3_item : ByteArray := prog_1_method_12_code
def yX3_item : MethodName := ⟨RX3, "item", "(II)I"⟩
abbrev cX3_classOf : ByteArray := prog_1_method_13_code
def yX3_classOf : MethodName := ⟨RX3, "classOf", "(II)I"⟩
abbrev cX3_move : ByteArray := prog_1_method_14_code
def yX3_move : MethodName := ⟨RX3, "move", "(IIIII)I"⟩
abbrev cX3_loop : ByteArray := prog_1_method_15_code
def yX3_loop : MethodName := ⟨RX3, "loop", "(IIIII)I"⟩
abbrev cX3_copy : ByteArray := prog_1_method_16_code
def yX3_copy : MethodName := ⟨RX3, "copy", "(II)I"⟩
abbrev cX3_slice : ByteArray := prog_1_method_17_code
def yX3_slice : MethodName := ⟨RX3, "slice", "(IIII)I"⟩
abbrev cX3_join : ByteArray := prog_1_method_18_code
def yX3_join : MethodName := ⟨RX3, "join", "(III)I"⟩
abbrev cX3_update : ByteArray := prog_1_method_19_code
def yX3_update : MethodName := ⟨RX3, "update", "(III)I"⟩
abbrev cX3_rotate : ByteArray := prog_1_method_20_code
def yX3_rotate : MethodName := ⟨RX3, "rotate", "(II)I"⟩
abbrev cX3_sum : ByteArray := prog_1_method_21_code
def yX3_sum : MethodName := ⟨RX3, "sum", "(I)I"⟩
abbrev cX3_mean : ByteArray := prog_1_method_22_code
def yX3_mean : MethodName := ⟨RX3, "mean", "(I)I"⟩
abbrev cX3_same : ByteArray := prog_1_method_23_code
def yX3_same : MethodName := ⟨RX3, "same", "(II)I"⟩
abbrev cX3_equal : ByteArray := prog_1_method_24_code
def yX3_equal : MethodName := ⟨RX3, "equal", "(II)I"⟩
abbrev cX3_compare : ByteArray := prog_1_method_25_code
def yX3_compare : MethodName := ⟨RX3, "compare", "(II)I"⟩
abbrev cX3_held : ByteArray := prog_1_method_26_code
def yX3_held : MethodName := ⟨RX3, "held", "(I)I"⟩
abbrev cX3_isOutside : ByteArray := prog_1_method_27_code
def yX3_isOutside : MethodName := ⟨RX3, "isOutside", "(I)Z"⟩
abbrev cX3_kindOf : ByteArray := prog_1_method_28_code
def yX3_kindOf : MethodName := ⟨RX3, "kindOf", "(LCopyRows$Row;)I"⟩
abbrev cX3_fail : ByteArray := prog_1_method_29_code
def yX3_fail : MethodName := ⟨RX3, "fail", "(I)I"⟩
abbrev cX3_put : ByteArray := prog_1_method_30_code
def yX3_put : MethodName := ⟨RX3, "put", "(ILCopyRows$Row;)I"⟩
abbrev cX3_rowOf : ByteArray := prog_1_method_31_code
def yX3_rowOf : MethodName := ⟨RX3, "rowOf", "(II)LCopyRows$Row;"⟩
abbrev cX3_moveOne : ByteArray := prog_1_method_32_code
def yX3_moveOne : MethodName := ⟨RX3, "moveOne", "(LCopyRows$Row;ILCopyRows$Row;I)I"⟩
abbrev cX3_sumOfTable : ByteArray := prog_1_method_33_code
def yX3_sumOfTable : MethodName := ⟨RX3, "sumOfTable", "(LCopyRows$Row;)I"⟩
abbrev cX3_isFirstHeldAt : ByteArray := prog_1_method_34_code
def yX3_isFirstHeldAt : MethodName := ⟨RX3, "isFirstHeldAt", "(LCopyRows$Row;I)Z"⟩
def RX4 : String := "CopyRowsModel"
def TX4 : u_T := fun k => match k with
  | 0 => ("CopyRowsModel", "code", "I", false)
  | 1 => ("CopyRowsModel", "places", "[I", true)
  | 2 => ("CopyRowsModel", "rows", "I", false)
  | 3 => ("CopyRowsModel", "kinds", "[I", true)
  | 4 => ("CopyRowsModel", "lengths", "[I", true)
  | 5 => ("CopyRowsModel", "items", "[I", true)
  | 6 => ("CopyRowsModel", "things", "I", false)
  | 7 => ("CopyRowsModel", "classes", "[I", true)
  | 8 => ("CopyRowsModel", "numbers", "[I", true)
  | 9 => ("CopyRowsModel", "lumps", "I", false)
  | _ => ("CopyRowsModel", "third", "[I", true)
def tyX4 : Nat → FieldType := fun k => match k with
  | 0 => .int
  | 1 => .array .int
  | 2 => .int
  | 3 => .array .int
  | 4 => .array .int
  | 5 => .array .int
  | 6 => .int
  | 7 => .array .int
  | 8 => .array .int
  | 9 => .int
  | _ => .array .int
abbrev wsX40 : List Cond := u_ws RX4 TX4 11
theorem nmX4 : ∀ a, a < 11 → ∀ b, b < 11 → a ≠ b → (TX4 a).2.1 ≠ (TX4 b).2.1 := by decide +kernel
theorem tyX4_ok : ∀ k, k < 11 → parseFieldDescriptor (TX4 k).2.2.1 = some (tyX4 k) := by decide +kernel
abbrev cX4_init : ByteArray := prog_6_method_1_code
def yX4_init : MethodName := ⟨RX4, "<init>", "()V"⟩
abbrev cX4_within : ByteArray := prog_6_method_3_code
def yX4_within : MethodName := ⟨RX4, "within", "(JJJ)Z"⟩
abbrev cX4_isPlace : ByteArray := prog_6_method_4_code
def yX4_isPlace : MethodName := ⟨RX4, "isPlace", "(I)Z"⟩
abbrev cX4_code : ByteArray := prog_6_method_5_code
def yX4_code : MethodName := ⟨RX4, "code", "()I"⟩
abbrev cX4_no : ByteArray := prog_6_method_6_code
def yX4_no : MethodName := ⟨RX4, "no", "(I)I"⟩
abbrev cX4_yes : ByteArray := prog_6_method_7_code
def yX4_yes : MethodName := ⟨RX4, "yes", "(I)I"⟩
abbrev cX4_kindOf : ByteArray := prog_6_method_8_code
def yX4_kindOf : MethodName := ⟨RX4, "kindOf", "(I)I"⟩
abbrev cX4_isRow : ByteArray := prog_6_method_9_code
def yX4_isRow : MethodName := ⟨RX4, "isRow", "(I)Z"⟩
abbrev cX4_wantsRow : ByteArray := prog_6_method_10_code
def yX4_wantsRow : MethodName := ⟨RX4, "wantsRow", "(I)I"⟩
abbrev cX4_lengthOf : ByteArray := prog_6_method_11_code
def yX4_lengthOf : MethodName := ⟨RX4, "lengthOf", "(I)I"⟩
abbrev cX4_get : ByteArray := prog_6_method_12_code
def yX4_get : MethodName := ⟨RX4, "get", "(II)I"⟩
abbrev cX4_put : ByteArray := prog_6_method_13_code
def yX4_put : MethodName := ⟨RX4, "put", "(III)V"⟩
abbrev cX4_newRow : ByteArray := prog_6_method_14_code
def yX4_newRow : MethodName := ⟨RX4, "newRow", "(II)I"⟩
abbrev cX4_make : ByteArray := prog_6_method_15_code
def yX4_make : MethodName := ⟨RX4, "make", "(III)I"⟩
abbrev cX4_share : ByteArray := prog_6_method_16_code
def yX4_share : MethodName := ⟨RX4, "share", "(II)I"⟩
abbrev cX4_nothing : ByteArray := prog_6_method_17_code
def yX4_nothing : MethodName := ⟨RX4, "nothing", "(I)I"⟩
abbrev cX4_lump : ByteArray := prog_6_method_18_code
def yX4_lump : MethodName := ⟨RX4, "lump", "(I)I"⟩
abbrev cX4_kind : ByteArray := prog_6_method_19_code
def yX4_kind : MethodName := ⟨RX4, "kind", "(I)I"⟩
abbrev cX4_length : ByteArray := prog_6_method_20_code
def yX4_length : MethodName := ⟨RX4, "length", "(I)I"⟩
abbrev cX4_wantsItem : ByteArray := prog_6_method_21_code
def yX4_wantsItem : MethodName := ⟨RX4, "wantsItem", "(IIII)I"⟩
abbrev cX4_low8 : ByteArray := prog_6_method_22_code
def yX4_low8 : MethodName := ⟨RX4, "low8", "(I)I"⟩
abbrev cX4_set : ByteArray := prog_6_method_23_code
def yX4_set : MethodName := ⟨RX4, "set", "(III)I"⟩
abbrev cX4_fitsClass : ByteArray := prog_6_method_24_code
def yX4_fitsClass : MethodName := ⟨RX4, "fitsClass", "(II)Z"⟩
abbrev cX4_thing : ByteArray := prog_6_method_25_code
def yX4_thing : MethodName := ⟨RX4, "thing", "(IIII)I"⟩
abbrev cX4_hang : ByteArray := prog_6_method_26_code
def yX4_hang : MethodName := ⟨RX4, "hang", "(III)I"⟩
abbrev cX4_item : ByteArray := prog_6_method_27_code
def yX4_item : MethodName := ⟨RX4, "item", "(II)I"⟩
abbrev cX4_classOf : ByteArray := prog_6_method_28_code
def yX4_classOf : MethodName := ⟨RX4, "classOf", "(II)I"⟩
abbrev cX4_fits : ByteArray := prog_6_method_29_code
def yX4_fits : MethodName := ⟨RX4, "fits", "(III)Z"⟩
abbrev cX4_unlike : ByteArray := prog_6_method_30_code
def yX4_unlike : MethodName := ⟨RX4, "unlike", "(II)I"⟩
abbrev cX4_move : ByteArray := prog_6_method_31_code
def yX4_move : MethodName := ⟨RX4, "move", "(IIIII)I"⟩
abbrev cX4_loop : ByteArray := prog_6_method_32_code
def yX4_loop : MethodName := ⟨RX4, "loop", "(IIIII)I"⟩
abbrev cX4_copy : ByteArray := prog_6_method_33_code
def yX4_copy : MethodName := ⟨RX4, "copy", "(II)I"⟩
abbrev cX4_sliced : ByteArray := prog_6_method_34_code
def yX4_sliced : MethodName := ⟨RX4, "sliced", "(IIII)I"⟩
abbrev cX4_slice : ByteArray := prog_6_method_35_code
def yX4_slice : MethodName := ⟨RX4, "slice", "(IIII)I"⟩
abbrev cX4_join : ByteArray := prog_6_method_36_code
def yX4_join : MethodName := ⟨RX4, "join", "(III)I"⟩
abbrev cX4_update : ByteArray := prog_6_method_37_code
def yX4_update : MethodName := ⟨RX4, "update", "(III)I"⟩
abbrev cX4_rotate : ByteArray := prog_6_method_38_code
def yX4_rotate : MethodName := ⟨RX4, "rotate", "(II)I"⟩
abbrev cX4_sumOf : ByteArray := prog_6_method_39_code
def yX4_sumOf : MethodName := ⟨RX4, "sumOf", "(I)I"⟩
abbrev cX4_sum : ByteArray := prog_6_method_40_code
def yX4_sum : MethodName := ⟨RX4, "sum", "(I)I"⟩
abbrev cX4_mean : ByteArray := prog_6_method_41_code
def yX4_mean : MethodName := ⟨RX4, "mean", "(I)I"⟩
abbrev cX4_same : ByteArray := prog_6_method_42_code
def yX4_same : MethodName := ⟨RX4, "same", "(II)I"⟩
abbrev cX4_equal : ByteArray := prog_6_method_43_code
def yX4_equal : MethodName := ⟨RX4, "equal", "(II)I"⟩
abbrev cX4_compare : ByteArray := prog_6_method_44_code
def yX4_compare : MethodName := ⟨RX4, "compare", "(II)I"⟩
abbrev cX4_held : ByteArray := prog_6_method_45_code
def yX4_held : MethodName := ⟨RX4, "held", "(I)I"⟩
def RJ9 : String := "java/lang/Math"
def TJ9 : u_T := fun k => match k with
  | _ => ("", "", "", false)
def tyJ9 : Nat → FieldType := fun k => match k with
  | _ => .int
abbrev wsJ90 : List Cond := u_ws RJ9 TJ9 0
theorem nmJ9 : ∀ a, a < 0 → ∀ b, b < 0 → a ≠ b → (TJ9 a).2.1 ≠ (TJ9 b).2.1 := by decide +kernel
theorem tyJ9_ok : ∀ k, k < 0 → parseFieldDescriptor (TJ9 k).2.2.1 = some (tyJ9 k) := by decide +kernel
abbrev cJ9_floorMod_7cf53 : ByteArray := prog_7_method_50_code
def yJ9_floorMod_7cf53 : MethodName := ⟨RJ9, "floorMod", "(II)I"⟩
abbrev cJ9_max_7cf53 : ByteArray := prog_7_method_65_code
def yJ9_max_7cf53 : MethodName := ⟨RJ9, "max", "(II)I"⟩
def RJ10 : String := "java/lang/System"
def TJ10 : u_T := fun k => match k with
  | _ => ("", "", "", false)
def tyJ10 : Nat → FieldType := fun k => match k with
  | _ => .int
abbrev wsJ100 : List Cond := u_ws RJ10 TJ10 0
theorem nmJ10 : ∀ a, a < 0 → ∀ b, b < 0 → a ≠ b → (TJ10 a).2.1 ≠ (TJ10 b).2.1 := by decide +kernel
theorem tyJ10_ok : ∀ k, k < 0 → parseFieldDescriptor (TJ10 k).2.2.1 = some (tyJ10 k) := by decide +kernel
def RL : String := "CopyRowsLaw"
abbrev cL_law : ByteArray := code
def yL_law : MethodName := ⟨RL, "law", "([I)Z"⟩
def wsX0_init : List Cond := .code yX0_init cX0_init 1 none :: ([.methodLink RX0 1 objectInit, .instanceMethod objectInit, .code objectInit ⟨#[0xb1]⟩ 1 none])
def wsX1_init : List Cond := .code yX1_init cX1_init 4 none :: ([.fieldLink RX1 9 "CopyRows$Row" "kind" "I", .fieldLink RX1 15 "CopyRows$Row" "length" "I", .arrayClass .int, .fieldLink RX1 18 "CopyRows$Row" "numbers" "[I", .classLink RX1 4 RX0, .fieldLink RX1 22 "CopyRows$Row" "parts" "[LCopyRows$Part;", .instanceMethod yX0_init, .initialized RX0, .code yX0_init cX0_init 1 none, .methodLink RX0 1 objectInit, .instanceMethod objectInit, .code objectInit ⟨#[0xb1]⟩ 1 none] ++ wsX10)
def wsX1_fitsInto : List Cond := .code yX1_fitsInto cX1_fitsInto 2 (some .boolean) :: ([])
def wsX1_shown : List Cond := .code yX1_shown cX1_shown 1 (some .int) :: ([.fieldLink RX1 15 "CopyRows$Row" "length" "I"] ++ wsX10)
def wsX1_isOfNumbers : List Cond := .code yX1_isOfNumbers cX1_isOfNumbers 1 (some .boolean) :: ([.fieldLink RX1 9 "CopyRows$Row" "kind" "I"] ++ wsX10)
def wsX1_has : List Cond := .code yX1_has cX1_has 2 (some .boolean) :: ([.fieldLink RX1 15 "CopyRows$Row" "length" "I"] ++ wsX10)
def wsX1_hasRange : List Cond := .code yX1_hasRange cX1_hasRange 3 (some .boolean) :: ([.fieldLink RX1 15 "CopyRows$Row" "length" "I"] ++ wsX10)
def wsX2_fitsInto : List Cond := .code yX2_fitsInto cX2_fitsInto 2 (some .boolean) :: ([.fieldLink RX2 9 "CopyRows$Thing" "cls" "I"] ++ wsX20)
def wsX1_takes : List Cond := .code yX1_takes cX1_takes 2 (some .boolean) :: ([.fieldLink RX1 9 "CopyRows$Row" "kind" "I", .methodLink RX1 26 ⟨"CopyRows$Part", "fitsInto", "(I)Z"⟩, .sameMethod "CopyRows$Part" "CopyRows$Part" "fitsInto" "(I)Z", .selects RX1 ⟨"CopyRows$Part", "fitsInto", "(I)Z"⟩ yX1_fitsInto, .instanceMethod yX1_fitsInto, .initialized RX1, .code yX1_fitsInto cX1_fitsInto 2 (some .boolean), .selects RX2 ⟨"CopyRows$Part", "fitsInto", "(I)Z"⟩ yX2_fitsInto, .instanceMethod yX2_fitsInto, .initialized RX2, .code yX2_fitsInto cX2_fitsInto 2 (some .boolean), .fieldLink RX2 9 "CopyRows$Thing" "cls" "I"] ++ wsX10 ++ wsX20)
def wsX1_mayTakeOf : List Cond := .code yX1_mayTakeOf cX1_mayTakeOf 2 (some .boolean) :: ([.fieldLink RX1 9 "CopyRows$Row" "kind" "I", .methodLink RX1 30 yX1_isOfNumbers, .instanceMethod yX1_isOfNumbers, .selects RX1 yX1_isOfNumbers yX1_isOfNumbers, .initialized RX1, .code yX1_isOfNumbers cX1_isOfNumbers 1 (some .boolean)] ++ wsX10)
def wsX1_countTaken : List Cond := .code yX1_countTaken cX1_countTaken 5 (some .int) :: ([.fieldLink RX1 22 "CopyRows$Row" "parts" "[LCopyRows$Part;", .methodLink RX1 30 yX1_isOfNumbers, .instanceMethod yX1_isOfNumbers, .selects RX1 yX1_isOfNumbers yX1_isOfNumbers, .initialized RX1, .code yX1_isOfNumbers cX1_isOfNumbers 1 (some .boolean), .fieldLink RX1 9 "CopyRows$Row" "kind" "I", .methodLink RX1 34 yX1_takes, .instanceMethod yX1_takes, .selects RX1 yX1_takes yX1_takes, .code yX1_takes cX1_takes 2 (some .boolean), .methodLink RX1 26 ⟨"CopyRows$Part", "fitsInto", "(I)Z"⟩, .sameMethod "CopyRows$Part" "CopyRows$Part" "fitsInto" "(I)Z", .selects RX1 ⟨"CopyRows$Part", "fitsInto", "(I)Z"⟩ yX1_fitsInto, .instanceMethod yX1_fitsInto, .code yX1_fitsInto cX1_fitsInto 2 (some .boolean), .selects RX2 ⟨"CopyRows$Part", "fitsInto", "(I)Z"⟩ yX2_fitsInto, .instanceMethod yX2_fitsInto, .initialized RX2, .code yX2_fitsInto cX2_fitsInto 2 (some .boolean), .fieldLink RX2 9 "CopyRows$Thing" "cls" "I"] ++ wsX10 ++ wsX20)
def wsX1_take : List Cond := .code yX1_take cX1_take 5 none :: ([.fieldLink RX1 18 "CopyRows$Row" "numbers" "[I", .methodLink RX1 38 arraycopyName, .native arraycopyName, .static arraycopyName, .initialized "java/lang/System", .fieldLink RX1 22 "CopyRows$Row" "parts" "[LCopyRows$Part;", .methodLink RX1 30 yX1_isOfNumbers, .instanceMethod yX1_isOfNumbers, .selects RX1 yX1_isOfNumbers yX1_isOfNumbers, .initialized RX1, .code yX1_isOfNumbers cX1_isOfNumbers 1 (some .boolean), .fieldLink RX1 9 "CopyRows$Row" "kind" "I"] ++ wsX10)
def wsX1_cut_r1 : List Cond := [Cond.classLink RX1 10 RX1, Cond.instantiable RX1 4, Cond.initialized RX1, Cond.fieldLink RX1 9 "CopyRows$Row" "kind" "I", Cond.methodLink RX1 44 yX1_init, Cond.instanceMethod yX1_init, Cond.code yX1_init cX1_init 4 none, Cond.fieldLink RX1 15 "CopyRows$Row" "length" "I", Cond.arrayClass .int, Cond.fieldLink RX1 18 "CopyRows$Row" "numbers" "[I", Cond.classLink RX1 4 RX0, Cond.fieldLink RX1 22 "CopyRows$Row" "parts" "[LCopyRows$Part;", Cond.instanceMethod yX0_init, Cond.initialized RX0, Cond.code yX0_init cX0_init 1 none, Cond.methodLink RX0 1 objectInit, Cond.instanceMethod objectInit, Cond.code objectInit ⟨#[0xb1]⟩ 1 none, Cond.methodLink RX1 47 yX1_take, Cond.instanceMethod yX1_take, Cond.selects RX1 yX1_take yX1_take, Cond.code yX1_take cX1_take 5 none, Cond.methodLink RX1 38 arraycopyName, Cond.native arraycopyName]
def wsX1_cut_r2 : List Cond := [Cond.static arraycopyName, Cond.initialized "java/lang/System", Cond.methodLink RX1 30 yX1_isOfNumbers, Cond.instanceMethod yX1_isOfNumbers, Cond.selects RX1 yX1_isOfNumbers yX1_isOfNumbers, Cond.code yX1_isOfNumbers cX1_isOfNumbers 1 (some .boolean)]
def wsX1_cut : List Cond := .code yX1_cut cX1_cut 4 (some (.object "CopyRows$Row")) :: ((wsX1_cut_r1 ++ wsX1_cut_r2) ++ wsX10)
def wsX1_total : List Cond := .code yX1_total cX1_total 3 (some .int) :: ([.fieldLink RX1 18 "CopyRows$Row" "numbers" "[I"] ++ wsX10)
def wsX1_isLike : List Cond := .code yX1_isLike cX1_isLike 4 (some .boolean) :: ([.fieldLink RX1 9 "CopyRows$Row" "kind" "I", .fieldLink RX1 15 "CopyRows$Row" "length" "I", .fieldLink RX1 18 "CopyRows$Row" "numbers" "[I", .fieldLink RX1 22 "CopyRows$Row" "parts" "[LCopyRows$Part;", .methodLink RX1 30 yX1_isOfNumbers, .instanceMethod yX1_isOfNumbers, .selects RX1 yX1_isOfNumbers yX1_isOfNumbers, .initialized RX1, .code yX1_isOfNumbers cX1_isOfNumbers 1 (some .boolean)] ++ wsX10)
def wsX1_order : List Cond := .code yX1_order cX1_order 3 (some .int) :: ([.fieldLink RX1 18 "CopyRows$Row" "numbers" "[I", .fieldLink RX1 15 "CopyRows$Row" "length" "I"] ++ wsX10)
def wsX1_countOf : List Cond := .code yX1_countOf cX1_countOf 4 (some .int) :: ([.fieldLink RX1 22 "CopyRows$Row" "parts" "[LCopyRows$Part;"] ++ wsX10)
def wsX2_init : List Cond := .code yX2_init cX2_init 3 none :: ([.fieldLink RX2 9 "CopyRows$Thing" "cls" "I", .fieldLink RX2 15 "CopyRows$Thing" "number" "I", .instanceMethod yX0_init, .initialized RX0, .code yX0_init cX0_init 1 none, .methodLink RX0 1 objectInit, .instanceMethod objectInit, .code objectInit ⟨#[0xb1]⟩ 1 none] ++ wsX20)
def wsX2_shown : List Cond := .code yX2_shown cX2_shown 1 (some .int) :: ([.fieldLink RX2 15 "CopyRows$Thing" "number" "I"] ++ wsX20)
def wsX3_init : List Cond := .code yX3_init cX3_init 1 none :: ([.methodLink RX3 3 objectInit, .instanceMethod objectInit, .code objectInit ⟨#[0xb1]⟩ 1 none, .classLink RX3 9 RX1, .fieldLink RX3 11 "CopyRows" "places" "[LCopyRows$Row;", .fieldLink RX3 15 "CopyRows" "code" "I"] ++ wsX30)
def wsX3_code : List Cond := .code yX3_code cX3_code 1 (some .int) :: ([.fieldLink RX3 15 "CopyRows" "code" "I"] ++ wsX30)
def wsX3_isOutside : List Cond := .code yX3_isOutside cX3_isOutside 1 (some .boolean) :: ([])
def wsX3_fail : List Cond := .code yX3_fail cX3_fail 2 (some .int) :: ([.fieldLink RX3 15 "CopyRows" "code" "I"] ++ wsX30)
def wsX3_put : List Cond := .code yX3_put cX3_put 3 (some .int) :: ([.fieldLink RX3 11 "CopyRows" "places" "[LCopyRows$Row;", .fieldLink RX3 15 "CopyRows" "code" "I", .fieldLink RX3 43 "CopyRows$Row" "length" "I"] ++ wsX30 ++ wsX10)
def wsX3_make_r1 : List Cond := [Cond.constant RX3 23 (-2000000001), Cond.classLink RX3 9 RX1, Cond.instantiable RX1 4, Cond.initialized RX1, Cond.methodLink RX3 19 yX3_isOutside, Cond.static yX3_isOutside, Cond.initialized RX3, Cond.code yX3_isOutside cX3_isOutside 1 (some .boolean), Cond.methodLink RX3 24 yX3_fail, Cond.instanceMethod yX3_fail, Cond.selects RX3 yX3_fail yX3_fail, Cond.code yX3_fail cX3_fail 2 (some .int), Cond.fieldLink RX3 15 "CopyRows" "code" "I", Cond.methodLink RX3 28 yX1_init, Cond.instanceMethod yX1_init, Cond.code yX1_init cX1_init 4 none, Cond.fieldLink RX1 9 "CopyRows$Row" "kind" "I", Cond.fieldLink RX1 15 "CopyRows$Row" "length" "I", Cond.arrayClass .int, Cond.fieldLink RX1 18 "CopyRows$Row" "numbers" "[I", Cond.classLink RX1 4 RX0, Cond.fieldLink RX1 22 "CopyRows$Row" "parts" "[LCopyRows$Part;", Cond.instanceMethod yX0_init, Cond.initialized RX0]
def wsX3_make_r2 : List Cond := [Cond.code yX0_init cX0_init 1 none, Cond.methodLink RX0 1 objectInit, Cond.instanceMethod objectInit, Cond.code objectInit ⟨#[0xb1]⟩ 1 none, Cond.methodLink RX3 31 yX3_put, Cond.instanceMethod yX3_put, Cond.selects RX3 yX3_put yX3_put, Cond.code yX3_put cX3_put 3 (some .int), Cond.fieldLink RX3 11 "CopyRows" "places" "[LCopyRows$Row;", Cond.fieldLink RX3 43 "CopyRows$Row" "length" "I"]
def wsX3_make : List Cond := .code yX3_make cX3_make 4 (some .int) :: ((wsX3_make_r1 ++ wsX3_make_r2) ++ wsX10 ++ wsX30)
def wsX3_kindOf : List Cond := .code yX3_kindOf cX3_kindOf 1 (some .int) :: ([.fieldLink RX3 53 "CopyRows$Row" "kind" "I"] ++ wsX10)
def wsX3_share : List Cond := .code yX3_share cX3_share 3 (some .int) :: ([.constant RX3 23 (-2000000001), .fieldLink RX3 11 "CopyRows" "places" "[LCopyRows$Row;", .methodLink RX3 19 yX3_isOutside, .static yX3_isOutside, .initialized RX3, .code yX3_isOutside cX3_isOutside 1 (some .boolean), .methodLink RX3 35 yX3_kindOf, .static yX3_kindOf, .code yX3_kindOf cX3_kindOf 1 (some .int), .fieldLink RX3 53 "CopyRows$Row" "kind" "I"] ++ wsX30 ++ wsX10)
def wsX3_nothing : List Cond := .code yX3_nothing cX3_nothing 3 (some .int) :: ([.constant RX3 23 (-2000000001), .fieldLink RX3 11 "CopyRows" "places" "[LCopyRows$Row;", .methodLink RX3 19 yX3_isOutside, .static yX3_isOutside, .initialized RX3, .code yX3_isOutside cX3_isOutside 1 (some .boolean), .methodLink RX3 35 yX3_kindOf, .static yX3_kindOf, .code yX3_kindOf cX3_kindOf 1 (some .int), .fieldLink RX3 53 "CopyRows$Row" "kind" "I"] ++ wsX30 ++ wsX10)
def wsX3_lump : List Cond := .code yX3_lump cX3_lump 2 (some .int) :: ([.constant RX3 23 (-2000000001), .fieldLink RX3 11 "CopyRows" "places" "[LCopyRows$Row;", .classLink RX3 9 RX1, .instantiable RX1 4, .initialized RX1, .methodLink RX3 19 yX3_isOutside, .static yX3_isOutside, .initialized RX3, .code yX3_isOutside cX3_isOutside 1 (some .boolean), .methodLink RX3 28 yX1_init, .instanceMethod yX1_init, .code yX1_init cX1_init 4 none, .fieldLink RX1 9 "CopyRows$Row" "kind" "I", .fieldLink RX1 15 "CopyRows$Row" "length" "I", .arrayClass .int, .fieldLink RX1 18 "CopyRows$Row" "numbers" "[I", .classLink RX1 4 RX0, .fieldLink RX1 22 "CopyRows$Row" "parts" "[LCopyRows$Part;", .instanceMethod yX0_init, .initialized RX0, .code yX0_init cX0_init 1 none, .methodLink RX0 1 objectInit, .instanceMethod objectInit, .code objectInit ⟨#[0xb1]⟩ 1 none] ++ wsX30 ++ wsX10)
def wsX3_kind : List Cond := .code yX3_kind cX3_kind 2 (some .int) :: ([.constant RX3 23 (-2000000001), .fieldLink RX3 11 "CopyRows" "places" "[LCopyRows$Row;", .methodLink RX3 19 yX3_isOutside, .static yX3_isOutside, .initialized RX3, .code yX3_isOutside cX3_isOutside 1 (some .boolean), .methodLink RX3 35 yX3_kindOf, .static yX3_kindOf, .code yX3_kindOf cX3_kindOf 1 (some .int), .fieldLink RX3 53 "CopyRows$Row" "kind" "I"] ++ wsX30 ++ wsX10)
def wsX3_rowOf : List Cond := .code yX3_rowOf cX3_rowOf 4 (some (.object "CopyRows$Row")) :: ([.fieldLink RX3 11 "CopyRows" "places" "[LCopyRows$Row;", .fieldLink RX3 15 "CopyRows" "code" "I", .fieldLink RX3 53 "CopyRows$Row" "kind" "I"] ++ wsX30 ++ wsX10)
def wsX3_length : List Cond := .code yX3_length cX3_length 3 (some .int) :: ([.constant RX3 23 (-2000000001), .fieldLink RX3 43 "CopyRows$Row" "length" "I", .methodLink RX3 19 yX3_isOutside, .static yX3_isOutside, .initialized RX3, .code yX3_isOutside cX3_isOutside 1 (some .boolean), .methodLink RX3 39 yX3_rowOf, .instanceMethod yX3_rowOf, .selects RX3 yX3_rowOf yX3_rowOf, .code yX3_rowOf cX3_rowOf 4 (some (.object "CopyRows$Row")), .fieldLink RX3 11 "CopyRows" "places" "[LCopyRows$Row;", .fieldLink RX3 15 "CopyRows" "code" "I", .fieldLink RX3 53 "CopyRows$Row" "kind" "I"] ++ wsX10 ++ wsX30)
def wsX3_set : List Cond := .code yX3_set cX3_set 6 (some .int) :: ([.constant RX3 23 (-2000000001), .fieldLink RX3 49 "CopyRows$Row" "numbers" "[I", .fieldLink RX3 53 "CopyRows$Row" "kind" "I", .methodLink RX3 19 yX3_isOutside, .static yX3_isOutside, .initialized RX3, .code yX3_isOutside cX3_isOutside 1 (some .boolean), .methodLink RX3 39 yX3_rowOf, .instanceMethod yX3_rowOf, .selects RX3 yX3_rowOf yX3_rowOf, .code yX3_rowOf cX3_rowOf 4 (some (.object "CopyRows$Row")), .fieldLink RX3 11 "CopyRows" "places" "[LCopyRows$Row;", .fieldLink RX3 15 "CopyRows" "code" "I", .methodLink RX3 46 yX1_has, .instanceMethod yX1_has, .selects RX1 yX1_has yX1_has, .initialized RX1, .code yX1_has cX1_has 2 (some .boolean), .fieldLink RX1 15 "CopyRows$Row" "length" "I", .methodLink RX3 24 yX3_fail, .instanceMethod yX3_fail, .selects RX3 yX3_fail yX3_fail, .code yX3_fail cX3_fail 2 (some .int)] ++ wsX10 ++ wsX30)
def wsX3_thing_r1 : List Cond := [Cond.constant RX3 23 (-2000000001), Cond.classLink RX3 56 RX2, Cond.instantiable RX2 2, Cond.initialized RX2, Cond.fieldLink RX3 63 "CopyRows$Row" "parts" "[LCopyRows$Part;", Cond.methodLink RX3 19 yX3_isOutside, Cond.static yX3_isOutside, Cond.initialized RX3, Cond.code yX3_isOutside cX3_isOutside 1 (some .boolean), Cond.methodLink RX3 39 yX3_rowOf, Cond.instanceMethod yX3_rowOf, Cond.selects RX3 yX3_rowOf yX3_rowOf, Cond.code yX3_rowOf cX3_rowOf 4 (some (.object "CopyRows$Row")), Cond.fieldLink RX3 11 "CopyRows" "places" "[LCopyRows$Row;", Cond.fieldLink RX3 15 "CopyRows" "code" "I", Cond.fieldLink RX3 53 "CopyRows$Row" "kind" "I", Cond.methodLink RX3 46 yX1_has, Cond.instanceMethod yX1_has, Cond.selects RX1 yX1_has yX1_has, Cond.initialized RX1, Cond.code yX1_has cX1_has 2 (some .boolean), Cond.fieldLink RX1 15 "CopyRows$Row" "length" "I", Cond.methodLink RX3 24 yX3_fail, Cond.instanceMethod yX3_fail]
def wsX3_thing_r2 : List Cond := [Cond.selects RX3 yX3_fail yX3_fail, Cond.code yX3_fail cX3_fail 2 (some .int), Cond.methodLink RX3 58 yX2_init, Cond.instanceMethod yX2_init, Cond.code yX2_init cX2_init 3 none, Cond.fieldLink RX2 9 "CopyRows$Thing" "cls" "I", Cond.fieldLink RX2 15 "CopyRows$Thing" "number" "I", Cond.instanceMethod yX0_init, Cond.initialized RX0, Cond.code yX0_init cX0_init 1 none, Cond.methodLink RX0 1 objectInit, Cond.instanceMethod objectInit, Cond.code objectInit ⟨#[0xb1]⟩ 1 none, Cond.methodLink RX3 59 yX1_takes, Cond.instanceMethod yX1_takes, Cond.selects RX1 yX1_takes yX1_takes, Cond.code yX1_takes cX1_takes 2 (some .boolean), Cond.fieldLink RX1 9 "CopyRows$Row" "kind" "I", Cond.methodLink RX1 26 ⟨"CopyRows$Part", "fitsInto", "(I)Z"⟩, Cond.sameMethod "CopyRows$Part" "CopyRows$Part" "fitsInto" "(I)Z", Cond.selects RX1 ⟨"CopyRows$Part", "fitsInto", "(I)Z"⟩ yX1_fitsInto, Cond.instanceMethod yX1_fitsInto, Cond.code yX1_fitsInto cX1_fitsInto 2 (some .boolean), Cond.selects RX2 ⟨"CopyRows$Part", "fitsInto", "(I)Z"⟩ yX2_fitsInto]
def wsX3_thing_r3 : List Cond := [Cond.instanceMethod yX2_fitsInto, Cond.code yX2_fitsInto cX2_fitsInto 2 (some .boolean)]
def wsX3_thing : List Cond := .code yX3_thing cX3_thing 7 (some .int) :: ((wsX3_thing_r1 ++ (wsX3_thing_r2 ++ wsX3_thing_r3)) ++ wsX20 ++ wsX10 ++ wsX30)
def wsX3_hang : List Cond := .code yX3_hang cX3_hang 6 (some .int) :: ([.constant RX3 23 (-2000000001), .fieldLink RX3 11 "CopyRows" "places" "[LCopyRows$Row;", .fieldLink RX3 53 "CopyRows$Row" "kind" "I", .fieldLink RX3 63 "CopyRows$Row" "parts" "[LCopyRows$Part;", .methodLink RX3 19 yX3_isOutside, .static yX3_isOutside, .initialized RX3, .code yX3_isOutside cX3_isOutside 1 (some .boolean), .methodLink RX3 39 yX3_rowOf, .instanceMethod yX3_rowOf, .selects RX3 yX3_rowOf yX3_rowOf, .code yX3_rowOf cX3_rowOf 4 (some (.object "CopyRows$Row")), .fieldLink RX3 15 "CopyRows" "code" "I", .methodLink RX3 24 yX3_fail, .instanceMethod yX3_fail, .selects RX3 yX3_fail yX3_fail, .code yX3_fail cX3_fail 2 (some .int), .methodLink RX3 46 yX1_has, .instanceMethod yX1_has, .selects RX1 yX1_has yX1_has, .initialized RX1, .code yX1_has cX1_has 2 (some .boolean), .fieldLink RX1 15 "CopyRows$Row" "length" "I"] ++ wsX30 ++ wsX10)
def wsX3_item_r1 : List Cond := [Cond.constant RX3 23 (-2000000001), Cond.fieldLink RX3 49 "CopyRows$Row" "numbers" "[I", Cond.fieldLink RX3 63 "CopyRows$Row" "parts" "[LCopyRows$Part;", Cond.methodLink RX3 19 yX3_isOutside, Cond.static yX3_isOutside, Cond.initialized RX3, Cond.code yX3_isOutside cX3_isOutside 1 (some .boolean), Cond.methodLink RX3 39 yX3_rowOf, Cond.instanceMethod yX3_rowOf, Cond.selects RX3 yX3_rowOf yX3_rowOf, Cond.code yX3_rowOf cX3_rowOf 4 (some (.object "CopyRows$Row")), Cond.fieldLink RX3 11 "CopyRows" "places" "[LCopyRows$Row;", Cond.fieldLink RX3 15 "CopyRows" "code" "I", Cond.fieldLink RX3 53 "CopyRows$Row" "kind" "I", Cond.methodLink RX3 46 yX1_has, Cond.instanceMethod yX1_has, Cond.selects RX1 yX1_has yX1_has, Cond.initialized RX1, Cond.code yX1_has cX1_has 2 (some .boolean), Cond.fieldLink RX1 15 "CopyRows$Row" "length" "I", Cond.methodLink RX3 24 yX3_fail, Cond.instanceMethod yX3_fail, Cond.selects RX3 yX3_fail yX3_fail, Cond.code yX3_fail cX3_fail 2 (some .int)]
def wsX3_item_r2 : List Cond := [Cond.methodLink RX3 67 yX1_isOfNumbers, Cond.instanceMethod yX1_isOfNumbers, Cond.selects RX1 yX1_isOfNumbers yX1_isOfNumbers, Cond.code yX1_isOfNumbers cX1_isOfNumbers 1 (some .boolean), Cond.fieldLink RX1 9 "CopyRows$Row" "kind" "I", Cond.methodLink RX3 71 ⟨"CopyRows$Part", "shown", "()I"⟩, Cond.sameMethod "CopyRows$Part" "CopyRows$Part" "shown" "()I", Cond.selects RX1 ⟨"CopyRows$Part", "shown", "()I"⟩ yX1_shown, Cond.instanceMethod yX1_shown, Cond.code yX1_shown cX1_shown 1 (some .int), Cond.selects RX2 ⟨"CopyRows$Part", "shown", "()I"⟩ yX2_shown, Cond.instanceMethod yX2_shown, Cond.initialized RX2, Cond.code yX2_shown cX2_shown 1 (some .int), Cond.fieldLink RX2 15 "CopyRows$Thing" "number" "I"]
def wsX3_item : List Cond := .code yX3_item cX3_item 5 (some .int) :: ((wsX3_item_r1 ++ wsX3_item_r2) ++ wsX10 ++ wsX30 ++ wsX20)
def wsX3_classOf_r1 : List Cond := [Cond.constant RX3 23 (-2000000001), Cond.fieldLink RX3 63 "CopyRows$Row" "parts" "[LCopyRows$Part;", Cond.classLink RX3 56 "CopyRows$Thing", Cond.fieldLink RX3 77 "CopyRows$Thing" "cls" "I", Cond.methodLink RX3 19 yX3_isOutside, Cond.static yX3_isOutside, Cond.initialized RX3, Cond.code yX3_isOutside cX3_isOutside 1 (some .boolean), Cond.methodLink RX3 39 yX3_rowOf, Cond.instanceMethod yX3_rowOf, Cond.selects RX3 yX3_rowOf yX3_rowOf, Cond.code yX3_rowOf cX3_rowOf 4 (some (.object "CopyRows$Row")), Cond.fieldLink RX3 11 "CopyRows" "places" "[LCopyRows$Row;", Cond.fieldLink RX3 15 "CopyRows" "code" "I", Cond.fieldLink RX3 53 "CopyRows$Row" "kind" "I", Cond.methodLink RX3 46 yX1_has, Cond.instanceMethod yX1_has, Cond.selects RX1 yX1_has yX1_has, Cond.initialized RX1, Cond.code yX1_has cX1_has 2 (some .boolean), Cond.fieldLink RX1 15 "CopyRows$Row" "length" "I", Cond.methodLink RX3 24 yX3_fail, Cond.instanceMethod yX3_fail, Cond.selects RX3 yX3_fail yX3_fail]
def wsX3_classOf_r2 : List Cond := [Cond.code yX3_fail cX3_fail 2 (some .int)]
def wsX3_classOf : List Cond := .code yX3_classOf cX3_classOf 6 (some .int) :: ((wsX3_classOf_r1 ++ wsX3_classOf_r2) ++ wsX10 ++ wsX20 ++ wsX30)
def wsX3_move_r1 : List Cond := [Cond.constant RX3 23 (-2000000001), Cond.fieldLink RX3 11 "CopyRows" "places" "[LCopyRows$Row;", Cond.fieldLink RX3 15 "CopyRows" "code" "I", Cond.methodLink RX3 19 yX3_isOutside, Cond.static yX3_isOutside, Cond.initialized RX3, Cond.code yX3_isOutside cX3_isOutside 1 (some .boolean), Cond.methodLink RX3 24 yX3_fail, Cond.instanceMethod yX3_fail, Cond.selects RX3 yX3_fail yX3_fail, Cond.code yX3_fail cX3_fail 2 (some .int), Cond.methodLink RX3 80 yX1_mayTakeOf, Cond.instanceMethod yX1_mayTakeOf, Cond.selects RX1 yX1_mayTakeOf yX1_mayTakeOf, Cond.initialized RX1, Cond.code yX1_mayTakeOf cX1_mayTakeOf 2 (some .boolean), Cond.fieldLink RX1 9 "CopyRows$Row" "kind" "I", Cond.methodLink RX1 30 yX1_isOfNumbers, Cond.instanceMethod yX1_isOfNumbers, Cond.selects RX1 yX1_isOfNumbers yX1_isOfNumbers, Cond.code yX1_isOfNumbers cX1_isOfNumbers 1 (some .boolean), Cond.methodLink RX3 84 yX1_hasRange, Cond.instanceMethod yX1_hasRange, Cond.selects RX1 yX1_hasRange yX1_hasRange]
def wsX3_move_r2 : List Cond := [Cond.code yX1_hasRange cX1_hasRange 3 (some .boolean), Cond.fieldLink RX1 15 "CopyRows$Row" "length" "I", Cond.methodLink RX3 88 yX1_countTaken, Cond.instanceMethod yX1_countTaken, Cond.selects RX1 yX1_countTaken yX1_countTaken, Cond.code yX1_countTaken cX1_countTaken 5 (some .int), Cond.fieldLink RX1 22 "CopyRows$Row" "parts" "[LCopyRows$Part;", Cond.methodLink RX1 34 yX1_takes, Cond.instanceMethod yX1_takes, Cond.selects RX1 yX1_takes yX1_takes, Cond.code yX1_takes cX1_takes 2 (some .boolean), Cond.methodLink RX1 26 ⟨"CopyRows$Part", "fitsInto", "(I)Z"⟩, Cond.sameMethod "CopyRows$Part" "CopyRows$Part" "fitsInto" "(I)Z", Cond.selects RX1 ⟨"CopyRows$Part", "fitsInto", "(I)Z"⟩ yX1_fitsInto, Cond.instanceMethod yX1_fitsInto, Cond.code yX1_fitsInto cX1_fitsInto 2 (some .boolean), Cond.selects RX2 ⟨"CopyRows$Part", "fitsInto", "(I)Z"⟩ yX2_fitsInto, Cond.instanceMethod yX2_fitsInto, Cond.initialized RX2, Cond.code yX2_fitsInto cX2_fitsInto 2 (some .boolean), Cond.fieldLink RX2 9 "CopyRows$Thing" "cls" "I", Cond.methodLink RX3 92 yX1_take, Cond.instanceMethod yX1_take, Cond.selects RX1 yX1_take yX1_take]
def wsX3_move_r3 : List Cond := [Cond.code yX1_take cX1_take 5 none, Cond.fieldLink RX1 18 "CopyRows$Row" "numbers" "[I", Cond.methodLink RX1 38 arraycopyName, Cond.native arraycopyName, Cond.static arraycopyName, Cond.initialized "java/lang/System"]
def wsX3_move : List Cond := .code yX3_move cX3_move 9 (some .int) :: ((wsX3_move_r1 ++ (wsX3_move_r2 ++ wsX3_move_r3)) ++ wsX30 ++ wsX10 ++ wsX20)
def wsX3_moveOne_r1 : List Cond := [Cond.methodLink RX3 46 yX1_has, Cond.instanceMethod yX1_has, Cond.selects RX1 yX1_has yX1_has, Cond.initialized RX1, Cond.code yX1_has cX1_has 2 (some .boolean), Cond.fieldLink RX1 15 "CopyRows$Row" "length" "I", Cond.methodLink RX3 88 yX1_countTaken, Cond.instanceMethod yX1_countTaken, Cond.selects RX1 yX1_countTaken yX1_countTaken, Cond.code yX1_countTaken cX1_countTaken 5 (some .int), Cond.fieldLink RX1 22 "CopyRows$Row" "parts" "[LCopyRows$Part;", Cond.methodLink RX1 30 yX1_isOfNumbers, Cond.instanceMethod yX1_isOfNumbers, Cond.selects RX1 yX1_isOfNumbers yX1_isOfNumbers, Cond.code yX1_isOfNumbers cX1_isOfNumbers 1 (some .boolean), Cond.fieldLink RX1 9 "CopyRows$Row" "kind" "I", Cond.methodLink RX1 34 yX1_takes, Cond.instanceMethod yX1_takes, Cond.selects RX1 yX1_takes yX1_takes, Cond.code yX1_takes cX1_takes 2 (some .boolean), Cond.methodLink RX1 26 ⟨"CopyRows$Part", "fitsInto", "(I)Z"⟩, Cond.sameMethod "CopyRows$Part" "CopyRows$Part" "fitsInto" "(I)Z", Cond.selects RX1 ⟨"CopyRows$Part", "fitsInto", "(I)Z"⟩ yX1_fitsInto, Cond.instanceMethod yX1_fitsInto]
def wsX3_moveOne_r2 : List Cond := [Cond.code yX1_fitsInto cX1_fitsInto 2 (some .boolean), Cond.selects RX2 ⟨"CopyRows$Part", "fitsInto", "(I)Z"⟩ yX2_fitsInto, Cond.instanceMethod yX2_fitsInto, Cond.initialized RX2, Cond.code yX2_fitsInto cX2_fitsInto 2 (some .boolean), Cond.fieldLink RX2 9 "CopyRows$Thing" "cls" "I", Cond.methodLink RX3 92 yX1_take, Cond.instanceMethod yX1_take, Cond.selects RX1 yX1_take yX1_take, Cond.code yX1_take cX1_take 5 none, Cond.fieldLink RX1 18 "CopyRows$Row" "numbers" "[I", Cond.methodLink RX1 38 arraycopyName, Cond.native arraycopyName, Cond.static arraycopyName, Cond.initialized "java/lang/System"]
def wsX3_moveOne : List Cond := .code yX3_moveOne cX3_moveOne 4 (some .int) :: ((wsX3_moveOne_r1 ++ wsX3_moveOne_r2) ++ wsX10 ++ wsX20)
def wsX3_loop_r1 : List Cond := [Cond.constant RX3 23 (-2000000001), Cond.fieldLink RX3 11 "CopyRows" "places" "[LCopyRows$Row;", Cond.fieldLink RX3 15 "CopyRows" "code" "I", Cond.methodLink RX3 100 Lib.Math.max.name, Cond.static Lib.Math.max.name, Cond.initialized "java/lang/Math", Cond.code Lib.Math.max.name Lib.Math.max.code 2 (some .int), Cond.methodLink RX3 19 yX3_isOutside, Cond.static yX3_isOutside, Cond.initialized RX3, Cond.code yX3_isOutside cX3_isOutside 1 (some .boolean), Cond.methodLink RX3 24 yX3_fail, Cond.instanceMethod yX3_fail, Cond.selects RX3 yX3_fail yX3_fail, Cond.code yX3_fail cX3_fail 2 (some .int), Cond.methodLink RX3 80 yX1_mayTakeOf, Cond.instanceMethod yX1_mayTakeOf, Cond.selects RX1 yX1_mayTakeOf yX1_mayTakeOf, Cond.initialized RX1, Cond.code yX1_mayTakeOf cX1_mayTakeOf 2 (some .boolean), Cond.fieldLink RX1 9 "CopyRows$Row" "kind" "I", Cond.methodLink RX1 30 yX1_isOfNumbers, Cond.instanceMethod yX1_isOfNumbers, Cond.selects RX1 yX1_isOfNumbers yX1_isOfNumbers]
def wsX3_loop_r2 : List Cond := [Cond.code yX1_isOfNumbers cX1_isOfNumbers 1 (some .boolean), Cond.methodLink RX3 96 yX3_moveOne, Cond.static yX3_moveOne, Cond.code yX3_moveOne cX3_moveOne 4 (some .int), Cond.methodLink RX3 46 yX1_has, Cond.instanceMethod yX1_has, Cond.selects RX1 yX1_has yX1_has, Cond.code yX1_has cX1_has 2 (some .boolean), Cond.fieldLink RX1 15 "CopyRows$Row" "length" "I", Cond.methodLink RX3 88 yX1_countTaken, Cond.instanceMethod yX1_countTaken, Cond.selects RX1 yX1_countTaken yX1_countTaken, Cond.code yX1_countTaken cX1_countTaken 5 (some .int), Cond.fieldLink RX1 22 "CopyRows$Row" "parts" "[LCopyRows$Part;", Cond.methodLink RX1 34 yX1_takes, Cond.instanceMethod yX1_takes, Cond.selects RX1 yX1_takes yX1_takes, Cond.code yX1_takes cX1_takes 2 (some .boolean), Cond.methodLink RX1 26 ⟨"CopyRows$Part", "fitsInto", "(I)Z"⟩, Cond.sameMethod "CopyRows$Part" "CopyRows$Part" "fitsInto" "(I)Z", Cond.selects RX1 ⟨"CopyRows$Part", "fitsInto", "(I)Z"⟩ yX1_fitsInto, Cond.instanceMethod yX1_fitsInto, Cond.code yX1_fitsInto cX1_fitsInto 2 (some .boolean), Cond.selects RX2 ⟨"CopyRows$Part", "fitsInto", "(I)Z"⟩ yX2_fitsInto]
def wsX3_loop_r3 : List Cond := [Cond.instanceMethod yX2_fitsInto, Cond.initialized RX2, Cond.code yX2_fitsInto cX2_fitsInto 2 (some .boolean), Cond.fieldLink RX2 9 "CopyRows$Thing" "cls" "I", Cond.methodLink RX3 92 yX1_take, Cond.instanceMethod yX1_take, Cond.selects RX1 yX1_take yX1_take, Cond.code yX1_take cX1_take 5 none, Cond.fieldLink RX1 18 "CopyRows$Row" "numbers" "[I", Cond.methodLink RX1 38 arraycopyName, Cond.native arraycopyName, Cond.static arraycopyName, Cond.initialized "java/lang/System"]
def wsX3_loop : List Cond := .code yX3_loop cX3_loop 9 (some .int) :: ((wsX3_loop_r1 ++ (wsX3_loop_r2 ++ wsX3_loop_r3)) ++ wsX30 ++ wsX10 ++ wsX20)
def wsX3_copy_r1 : List Cond := [Cond.constant RX3 23 (-2000000001), Cond.fieldLink RX3 43 "CopyRows$Row" "length" "I", Cond.methodLink RX3 19 yX3_isOutside, Cond.static yX3_isOutside, Cond.initialized RX3, Cond.code yX3_isOutside cX3_isOutside 1 (some .boolean), Cond.methodLink RX3 39 yX3_rowOf, Cond.instanceMethod yX3_rowOf, Cond.selects RX3 yX3_rowOf yX3_rowOf, Cond.code yX3_rowOf cX3_rowOf 4 (some (.object "CopyRows$Row")), Cond.fieldLink RX3 11 "CopyRows" "places" "[LCopyRows$Row;", Cond.fieldLink RX3 15 "CopyRows" "code" "I", Cond.fieldLink RX3 53 "CopyRows$Row" "kind" "I", Cond.methodLink RX3 106 yX1_cut, Cond.instanceMethod yX1_cut, Cond.selects RX1 yX1_cut yX1_cut, Cond.initialized RX1, Cond.code yX1_cut cX1_cut 4 (some (.object "CopyRows$Row")), Cond.classLink RX1 10 RX1, Cond.instantiable RX1 4, Cond.fieldLink RX1 9 "CopyRows$Row" "kind" "I", Cond.methodLink RX1 44 yX1_init, Cond.instanceMethod yX1_init, Cond.code yX1_init cX1_init 4 none]
def wsX3_copy_r2 : List Cond := [Cond.fieldLink RX1 15 "CopyRows$Row" "length" "I", Cond.arrayClass .int, Cond.fieldLink RX1 18 "CopyRows$Row" "numbers" "[I", Cond.classLink RX1 4 RX0, Cond.fieldLink RX1 22 "CopyRows$Row" "parts" "[LCopyRows$Part;", Cond.instanceMethod yX0_init, Cond.initialized RX0, Cond.code yX0_init cX0_init 1 none, Cond.methodLink RX0 1 objectInit, Cond.instanceMethod objectInit, Cond.code objectInit ⟨#[0xb1]⟩ 1 none, Cond.methodLink RX1 47 yX1_take, Cond.instanceMethod yX1_take, Cond.selects RX1 yX1_take yX1_take, Cond.code yX1_take cX1_take 5 none, Cond.methodLink RX1 38 arraycopyName, Cond.native arraycopyName, Cond.static arraycopyName, Cond.initialized "java/lang/System", Cond.methodLink RX1 30 yX1_isOfNumbers, Cond.instanceMethod yX1_isOfNumbers, Cond.selects RX1 yX1_isOfNumbers yX1_isOfNumbers, Cond.code yX1_isOfNumbers cX1_isOfNumbers 1 (some .boolean), Cond.methodLink RX3 31 yX3_put]
def wsX3_copy_r3 : List Cond := [Cond.instanceMethod yX3_put, Cond.selects RX3 yX3_put yX3_put, Cond.code yX3_put cX3_put 3 (some .int)]
def wsX3_copy : List Cond := .code yX3_copy cX3_copy 4 (some .int) :: ((wsX3_copy_r1 ++ (wsX3_copy_r2 ++ wsX3_copy_r3)) ++ wsX10 ++ wsX30)
def wsX3_slice_r1 : List Cond := [Cond.constant RX3 23 (-2000000001), Cond.methodLink RX3 19 yX3_isOutside, Cond.static yX3_isOutside, Cond.initialized RX3, Cond.code yX3_isOutside cX3_isOutside 1 (some .boolean), Cond.methodLink RX3 39 yX3_rowOf, Cond.instanceMethod yX3_rowOf, Cond.selects RX3 yX3_rowOf yX3_rowOf, Cond.code yX3_rowOf cX3_rowOf 4 (some (.object "CopyRows$Row")), Cond.fieldLink RX3 11 "CopyRows" "places" "[LCopyRows$Row;", Cond.fieldLink RX3 15 "CopyRows" "code" "I", Cond.fieldLink RX3 53 "CopyRows$Row" "kind" "I", Cond.methodLink RX3 24 yX3_fail, Cond.instanceMethod yX3_fail, Cond.selects RX3 yX3_fail yX3_fail, Cond.code yX3_fail cX3_fail 2 (some .int), Cond.methodLink RX3 84 yX1_hasRange, Cond.instanceMethod yX1_hasRange, Cond.selects RX1 yX1_hasRange yX1_hasRange, Cond.initialized RX1, Cond.code yX1_hasRange cX1_hasRange 3 (some .boolean), Cond.fieldLink RX1 15 "CopyRows$Row" "length" "I", Cond.methodLink RX3 106 yX1_cut, Cond.instanceMethod yX1_cut]
def wsX3_slice_r2 : List Cond := [Cond.selects RX1 yX1_cut yX1_cut, Cond.code yX1_cut cX1_cut 4 (some (.object "CopyRows$Row")), Cond.classLink RX1 10 RX1, Cond.instantiable RX1 4, Cond.fieldLink RX1 9 "CopyRows$Row" "kind" "I", Cond.methodLink RX1 44 yX1_init, Cond.instanceMethod yX1_init, Cond.code yX1_init cX1_init 4 none, Cond.arrayClass .int, Cond.fieldLink RX1 18 "CopyRows$Row" "numbers" "[I", Cond.classLink RX1 4 RX0, Cond.fieldLink RX1 22 "CopyRows$Row" "parts" "[LCopyRows$Part;", Cond.instanceMethod yX0_init, Cond.initialized RX0, Cond.code yX0_init cX0_init 1 none, Cond.methodLink RX0 1 objectInit, Cond.instanceMethod objectInit, Cond.code objectInit ⟨#[0xb1]⟩ 1 none, Cond.methodLink RX1 47 yX1_take, Cond.instanceMethod yX1_take, Cond.selects RX1 yX1_take yX1_take, Cond.code yX1_take cX1_take 5 none, Cond.methodLink RX1 38 arraycopyName, Cond.native arraycopyName]
def wsX3_slice_r3 : List Cond := [Cond.static arraycopyName, Cond.initialized "java/lang/System", Cond.methodLink RX1 30 yX1_isOfNumbers, Cond.instanceMethod yX1_isOfNumbers, Cond.selects RX1 yX1_isOfNumbers yX1_isOfNumbers, Cond.code yX1_isOfNumbers cX1_isOfNumbers 1 (some .boolean), Cond.methodLink RX3 31 yX3_put, Cond.instanceMethod yX3_put, Cond.selects RX3 yX3_put yX3_put, Cond.code yX3_put cX3_put 3 (some .int), Cond.fieldLink RX3 43 "CopyRows$Row" "length" "I"]
def wsX3_slice : List Cond := .code yX3_slice cX3_slice 6 (some .int) :: ((wsX3_slice_r1 ++ (wsX3_slice_r2 ++ wsX3_slice_r3)) ++ wsX30 ++ wsX10)
def wsX3_join_r1 : List Cond := [Cond.constant RX3 23 (-2000000001), Cond.fieldLink RX3 11 "CopyRows" "places" "[LCopyRows$Row;", Cond.fieldLink RX3 53 "CopyRows$Row" "kind" "I", Cond.fieldLink RX3 43 "CopyRows$Row" "length" "I", Cond.classLink RX3 9 RX1, Cond.instantiable RX1 4, Cond.initialized RX1, Cond.methodLink RX3 19 yX3_isOutside, Cond.static yX3_isOutside, Cond.initialized RX3, Cond.code yX3_isOutside cX3_isOutside 1 (some .boolean), Cond.methodLink RX3 24 yX3_fail, Cond.instanceMethod yX3_fail, Cond.selects RX3 yX3_fail yX3_fail, Cond.code yX3_fail cX3_fail 2 (some .int), Cond.fieldLink RX3 15 "CopyRows" "code" "I", Cond.methodLink RX3 80 yX1_mayTakeOf, Cond.instanceMethod yX1_mayTakeOf, Cond.selects RX1 yX1_mayTakeOf yX1_mayTakeOf, Cond.code yX1_mayTakeOf cX1_mayTakeOf 2 (some .boolean), Cond.fieldLink RX1 9 "CopyRows$Row" "kind" "I", Cond.methodLink RX1 30 yX1_isOfNumbers, Cond.instanceMethod yX1_isOfNumbers, Cond.selects RX1 yX1_isOfNumbers yX1_isOfNumbers]
def wsX3_join_r2 : List Cond := [Cond.code yX1_isOfNumbers cX1_isOfNumbers 1 (some .boolean), Cond.methodLink RX3 88 yX1_countTaken, Cond.instanceMethod yX1_countTaken, Cond.selects RX1 yX1_countTaken yX1_countTaken, Cond.code yX1_countTaken cX1_countTaken 5 (some .int), Cond.fieldLink RX1 22 "CopyRows$Row" "parts" "[LCopyRows$Part;", Cond.methodLink RX1 34 yX1_takes, Cond.instanceMethod yX1_takes, Cond.selects RX1 yX1_takes yX1_takes, Cond.code yX1_takes cX1_takes 2 (some .boolean), Cond.methodLink RX1 26 ⟨"CopyRows$Part", "fitsInto", "(I)Z"⟩, Cond.sameMethod "CopyRows$Part" "CopyRows$Part" "fitsInto" "(I)Z", Cond.selects RX1 ⟨"CopyRows$Part", "fitsInto", "(I)Z"⟩ yX1_fitsInto, Cond.instanceMethod yX1_fitsInto, Cond.code yX1_fitsInto cX1_fitsInto 2 (some .boolean), Cond.selects RX2 ⟨"CopyRows$Part", "fitsInto", "(I)Z"⟩ yX2_fitsInto, Cond.instanceMethod yX2_fitsInto, Cond.initialized RX2, Cond.code yX2_fitsInto cX2_fitsInto 2 (some .boolean), Cond.fieldLink RX2 9 "CopyRows$Thing" "cls" "I", Cond.methodLink RX3 28 yX1_init, Cond.instanceMethod yX1_init, Cond.code yX1_init cX1_init 4 none, Cond.fieldLink RX1 15 "CopyRows$Row" "length" "I"]
def wsX3_join_r3 : List Cond := [Cond.arrayClass .int, Cond.fieldLink RX1 18 "CopyRows$Row" "numbers" "[I", Cond.classLink RX1 4 RX0, Cond.instanceMethod yX0_init, Cond.initialized RX0, Cond.code yX0_init cX0_init 1 none, Cond.methodLink RX0 1 objectInit, Cond.instanceMethod objectInit, Cond.code objectInit ⟨#[0xb1]⟩ 1 none, Cond.methodLink RX3 92 yX1_take, Cond.instanceMethod yX1_take, Cond.selects RX1 yX1_take yX1_take, Cond.code yX1_take cX1_take 5 none, Cond.methodLink RX1 38 arraycopyName, Cond.native arraycopyName, Cond.static arraycopyName, Cond.initialized "java/lang/System", Cond.methodLink RX3 31 yX3_put, Cond.instanceMethod yX3_put, Cond.selects RX3 yX3_put yX3_put, Cond.code yX3_put cX3_put 3 (some .int)]
def wsX3_join : List Cond := .code yX3_join cX3_join 7 (some .int) :: ((wsX3_join_r1 ++ (wsX3_join_r2 ++ wsX3_join_r3)) ++ wsX30 ++ wsX10 ++ wsX20)
def wsX3_update : List Cond := .code yX3_update cX3_update 9 (some .int) :: ([.constant RX3 23 (-2000000001), .fieldLink RX3 11 "CopyRows" "places" "[LCopyRows$Row;", .fieldLink RX3 53 "CopyRows$Row" "kind" "I", .fieldLink RX3 15 "CopyRows" "code" "I", .fieldLink RX3 43 "CopyRows$Row" "length" "I", .fieldLink RX3 49 "CopyRows$Row" "numbers" "[I", .methodLink RX3 19 yX3_isOutside, .static yX3_isOutside, .initialized RX3, .code yX3_isOutside cX3_isOutside 1 (some .boolean), .methodLink RX3 24 yX3_fail, .instanceMethod yX3_fail, .selects RX3 yX3_fail yX3_fail, .code yX3_fail cX3_fail 2 (some .int), .methodLink RX3 46 yX1_has, .instanceMethod yX1_has, .selects RX1 yX1_has yX1_has, .initialized RX1, .code yX1_has cX1_has 2 (some .boolean), .fieldLink RX1 15 "CopyRows$Row" "length" "I"] ++ wsX30 ++ wsX10)
def wsJ9_floorMod_7cf53 : List Cond := .code yJ9_floorMod_7cf53 cJ9_floorMod_7cf53 3 (some .int) :: ([])
def wsX3_rotate_r1 : List Cond := [Cond.constant RX3 23 (-2000000001), Cond.fieldLink RX3 43 "CopyRows$Row" "length" "I", Cond.methodLink RX3 19 yX3_isOutside, Cond.static yX3_isOutside, Cond.initialized RX3, Cond.code yX3_isOutside cX3_isOutside 1 (some .boolean), Cond.methodLink RX3 39 yX3_rowOf, Cond.instanceMethod yX3_rowOf, Cond.selects RX3 yX3_rowOf yX3_rowOf, Cond.code yX3_rowOf cX3_rowOf 4 (some (.object "CopyRows$Row")), Cond.fieldLink RX3 11 "CopyRows" "places" "[LCopyRows$Row;", Cond.fieldLink RX3 15 "CopyRows" "code" "I", Cond.fieldLink RX3 53 "CopyRows$Row" "kind" "I", Cond.methodLink RX3 24 yX3_fail, Cond.instanceMethod yX3_fail, Cond.selects RX3 yX3_fail yX3_fail, Cond.code yX3_fail cX3_fail 2 (some .int), Cond.methodLink RX3 109 yJ9_floorMod_7cf53, Cond.static yJ9_floorMod_7cf53, Cond.initialized RJ9, Cond.code yJ9_floorMod_7cf53 cJ9_floorMod_7cf53 3 (some .int), Cond.methodLink RX3 106 yX1_cut, Cond.instanceMethod yX1_cut, Cond.selects RX1 yX1_cut yX1_cut]
def wsX3_rotate_r2 : List Cond := [Cond.initialized RX1, Cond.code yX1_cut cX1_cut 4 (some (.object "CopyRows$Row")), Cond.classLink RX1 10 RX1, Cond.instantiable RX1 4, Cond.fieldLink RX1 9 "CopyRows$Row" "kind" "I", Cond.methodLink RX1 44 yX1_init, Cond.instanceMethod yX1_init, Cond.code yX1_init cX1_init 4 none, Cond.fieldLink RX1 15 "CopyRows$Row" "length" "I", Cond.arrayClass .int, Cond.fieldLink RX1 18 "CopyRows$Row" "numbers" "[I", Cond.classLink RX1 4 RX0, Cond.fieldLink RX1 22 "CopyRows$Row" "parts" "[LCopyRows$Part;", Cond.instanceMethod yX0_init, Cond.initialized RX0, Cond.code yX0_init cX0_init 1 none, Cond.methodLink RX0 1 objectInit, Cond.instanceMethod objectInit, Cond.code objectInit ⟨#[0xb1]⟩ 1 none, Cond.methodLink RX1 47 yX1_take, Cond.instanceMethod yX1_take, Cond.selects RX1 yX1_take yX1_take, Cond.code yX1_take cX1_take 5 none, Cond.methodLink RX1 38 arraycopyName]
def wsX3_rotate_r3 : List Cond := [Cond.native arraycopyName, Cond.static arraycopyName, Cond.initialized "java/lang/System", Cond.methodLink RX1 30 yX1_isOfNumbers, Cond.instanceMethod yX1_isOfNumbers, Cond.selects RX1 yX1_isOfNumbers yX1_isOfNumbers, Cond.code yX1_isOfNumbers cX1_isOfNumbers 1 (some .boolean), Cond.methodLink RX3 92 yX1_take]
def wsX3_rotate : List Cond := .code yX3_rotate cX3_rotate 6 (some .int) :: ((wsX3_rotate_r1 ++ (wsX3_rotate_r2 ++ wsX3_rotate_r3)) ++ wsX10 ++ wsX30)
def wsX3_sumOfTable : List Cond := .code yX3_sumOfTable cX3_sumOfTable 6 (some .int) :: ([.fieldLink RX3 43 "CopyRows$Row" "length" "I", .fieldLink RX3 63 "CopyRows$Row" "parts" "[LCopyRows$Part;", .classLink RX3 9 "CopyRows$Row", .methodLink RX3 115 yX1_total, .instanceMethod yX1_total, .selects RX1 yX1_total yX1_total, .initialized RX1, .code yX1_total cX1_total 3 (some .int), .fieldLink RX1 18 "CopyRows$Row" "numbers" "[I", .methodLink RX3 24 yX3_fail, .instanceMethod yX3_fail, .selects RX3 yX3_fail yX3_fail, .initialized RX3, .code yX3_fail cX3_fail 2 (some .int), .fieldLink RX3 15 "CopyRows" "code" "I"] ++ wsX10 ++ wsX30)
def wsX3_sum_r1 : List Cond := [Cond.constant RX3 23 (-2000000001), Cond.fieldLink RX3 53 "CopyRows$Row" "kind" "I", Cond.methodLink RX3 19 yX3_isOutside, Cond.static yX3_isOutside, Cond.initialized RX3, Cond.code yX3_isOutside cX3_isOutside 1 (some .boolean), Cond.methodLink RX3 39 yX3_rowOf, Cond.instanceMethod yX3_rowOf, Cond.selects RX3 yX3_rowOf yX3_rowOf, Cond.code yX3_rowOf cX3_rowOf 4 (some (.object "CopyRows$Row")), Cond.fieldLink RX3 11 "CopyRows" "places" "[LCopyRows$Row;", Cond.fieldLink RX3 15 "CopyRows" "code" "I", Cond.methodLink RX3 112 yX3_sumOfTable, Cond.instanceMethod yX3_sumOfTable, Cond.selects RX3 yX3_sumOfTable yX3_sumOfTable, Cond.code yX3_sumOfTable cX3_sumOfTable 6 (some .int), Cond.fieldLink RX3 43 "CopyRows$Row" "length" "I", Cond.fieldLink RX3 63 "CopyRows$Row" "parts" "[LCopyRows$Part;", Cond.classLink RX3 9 "CopyRows$Row", Cond.methodLink RX3 115 yX1_total, Cond.instanceMethod yX1_total, Cond.selects RX1 yX1_total yX1_total, Cond.initialized RX1, Cond.code yX1_total cX1_total 3 (some .int)]
def wsX3_sum_r2 : List Cond := [Cond.fieldLink RX1 18 "CopyRows$Row" "numbers" "[I", Cond.methodLink RX3 24 yX3_fail, Cond.instanceMethod yX3_fail, Cond.selects RX3 yX3_fail yX3_fail, Cond.code yX3_fail cX3_fail 2 (some .int)]
def wsX3_sum : List Cond := .code yX3_sum cX3_sum 3 (some .int) :: ((wsX3_sum_r1 ++ wsX3_sum_r2) ++ wsX10 ++ wsX30)
def wsX3_mean : List Cond := .code yX3_mean cX3_mean 3 (some .int) :: ([.constant RX3 23 (-2000000001), .fieldLink RX3 43 "CopyRows$Row" "length" "I", .methodLink RX3 19 yX3_isOutside, .static yX3_isOutside, .initialized RX3, .code yX3_isOutside cX3_isOutside 1 (some .boolean), .methodLink RX3 39 yX3_rowOf, .instanceMethod yX3_rowOf, .selects RX3 yX3_rowOf yX3_rowOf, .code yX3_rowOf cX3_rowOf 4 (some (.object "CopyRows$Row")), .fieldLink RX3 11 "CopyRows" "places" "[LCopyRows$Row;", .fieldLink RX3 15 "CopyRows" "code" "I", .fieldLink RX3 53 "CopyRows$Row" "kind" "I", .methodLink RX3 24 yX3_fail, .instanceMethod yX3_fail, .selects RX3 yX3_fail yX3_fail, .code yX3_fail cX3_fail 2 (some .int), .methodLink RX3 115 yX1_total, .instanceMethod yX1_total, .selects RX1 yX1_total yX1_total, .initialized RX1, .code yX1_total cX1_total 3 (some .int), .fieldLink RX1 18 "CopyRows$Row" "numbers" "[I"] ++ wsX10 ++ wsX30)
def wsX3_same : List Cond := .code yX3_same cX3_same 3 (some .int) :: ([.constant RX3 23 (-2000000001), .fieldLink RX3 11 "CopyRows" "places" "[LCopyRows$Row;", .methodLink RX3 19 yX3_isOutside, .static yX3_isOutside, .initialized RX3, .code yX3_isOutside cX3_isOutside 1 (some .boolean)] ++ wsX30)
def wsX3_equal : List Cond := .code yX3_equal cX3_equal 5 (some .int) :: ([.constant RX3 23 (-2000000001), .fieldLink RX3 11 "CopyRows" "places" "[LCopyRows$Row;", .fieldLink RX3 53 "CopyRows$Row" "kind" "I", .methodLink RX3 19 yX3_isOutside, .static yX3_isOutside, .initialized RX3, .code yX3_isOutside cX3_isOutside 1 (some .boolean), .methodLink RX3 118 yX1_isLike, .instanceMethod yX1_isLike, .selects RX1 yX1_isLike yX1_isLike, .initialized RX1, .code yX1_isLike cX1_isLike 4 (some .boolean), .fieldLink RX1 9 "CopyRows$Row" "kind" "I", .fieldLink RX1 15 "CopyRows$Row" "length" "I", .fieldLink RX1 18 "CopyRows$Row" "numbers" "[I", .fieldLink RX1 22 "CopyRows$Row" "parts" "[LCopyRows$Part;", .methodLink RX1 30 yX1_isOfNumbers, .instanceMethod yX1_isOfNumbers, .selects RX1 yX1_isOfNumbers yX1_isOfNumbers, .code yX1_isOfNumbers cX1_isOfNumbers 1 (some .boolean)] ++ wsX30 ++ wsX10)
def wsX3_compare : List Cond := .code yX3_compare cX3_compare 5 (some .int) :: ([.constant RX3 23 (-2000000001), .fieldLink RX3 11 "CopyRows" "places" "[LCopyRows$Row;", .fieldLink RX3 53 "CopyRows$Row" "kind" "I", .fieldLink RX3 15 "CopyRows" "code" "I", .methodLink RX3 19 yX3_isOutside, .static yX3_isOutside, .initialized RX3, .code yX3_isOutside cX3_isOutside 1 (some .boolean), .methodLink RX3 24 yX3_fail, .instanceMethod yX3_fail, .selects RX3 yX3_fail yX3_fail, .code yX3_fail cX3_fail 2 (some .int), .methodLink RX3 67 yX1_isOfNumbers, .instanceMethod yX1_isOfNumbers, .selects RX1 yX1_isOfNumbers yX1_isOfNumbers, .initialized RX1, .code yX1_isOfNumbers cX1_isOfNumbers 1 (some .boolean), .fieldLink RX1 9 "CopyRows$Row" "kind" "I", .methodLink RX3 121 yX1_order, .instanceMethod yX1_order, .selects RX1 yX1_order yX1_order, .code yX1_order cX1_order 3 (some .int), .fieldLink RX1 18 "CopyRows$Row" "numbers" "[I", .fieldLink RX1 15 "CopyRows$Row" "length" "I"] ++ wsX30 ++ wsX10)
def wsX3_isFirstHeldAt : List Cond := .code yX3_isFirstHeldAt cX3_isFirstHeldAt 4 (some .boolean) :: ([.fieldLink RX3 11 "CopyRows" "places" "[LCopyRows$Row;"] ++ wsX30)
def wsX3_held : List Cond := .code yX3_held cX3_held 6 (some .int) :: ([.constant RX3 23 (-2000000001), .fieldLink RX3 11 "CopyRows" "places" "[LCopyRows$Row;", .methodLink RX3 19 yX3_isOutside, .static yX3_isOutside, .initialized RX3, .code yX3_isOutside cX3_isOutside 1 (some .boolean), .methodLink RX3 124 yX3_isFirstHeldAt, .instanceMethod yX3_isFirstHeldAt, .selects RX3 yX3_isFirstHeldAt yX3_isFirstHeldAt, .code yX3_isFirstHeldAt cX3_isFirstHeldAt 4 (some .boolean), .methodLink RX3 128 yX1_countOf, .instanceMethod yX1_countOf, .selects RX1 yX1_countOf yX1_countOf, .initialized RX1, .code yX1_countOf cX1_countOf 4 (some .int), .fieldLink RX1 22 "CopyRows$Row" "parts" "[LCopyRows$Part;"] ++ wsX30 ++ wsX10)
def wsX4_init : List Cond := .code yX4_init cX4_init 2 none :: ([.methodLink RX4 1 objectInit, .instanceMethod objectInit, .code objectInit ⟨#[0xb1]⟩ 1 none, .arrayClass .int, .fieldLink RX4 7 "CopyRowsModel" "places" "[I", .fieldLink RX4 13 "CopyRowsModel" "kinds" "[I", .fieldLink RX4 16 "CopyRowsModel" "lengths" "[I", .fieldLink RX4 19 "CopyRowsModel" "items" "[I", .fieldLink RX4 22 "CopyRowsModel" "classes" "[I", .fieldLink RX4 25 "CopyRowsModel" "numbers" "[I", .fieldLink RX4 28 "CopyRowsModel" "third" "[I"] ++ wsX40)
def wsX4_within : List Cond := .code yX4_within cX4_within 6 (some .boolean) :: ([])
def wsX4_isPlace : List Cond := .code yX4_isPlace cX4_isPlace 1 (some .boolean) :: ([.constantLong RX4 31 (11), .methodLink RX4 33 yX4_within, .static yX4_within, .initialized RX4, .code yX4_within cX4_within 6 (some .boolean)])
def wsX4_code : List Cond := .code yX4_code cX4_code 1 (some .int) :: ([.fieldLink RX4 37 "CopyRowsModel" "code" "I"] ++ wsX40)
def wsX4_no : List Cond := .code yX4_no cX4_no 2 (some .int) :: ([.fieldLink RX4 37 "CopyRowsModel" "code" "I"] ++ wsX40)
def wsX4_yes : List Cond := .code yX4_yes cX4_yes 2 (some .int) :: ([.fieldLink RX4 37 "CopyRowsModel" "code" "I"] ++ wsX40)
def wsX4_kindOf : List Cond := .code yX4_kindOf cX4_kindOf 3 (some .int) :: ([.fieldLink RX4 7 "CopyRowsModel" "places" "[I", .fieldLink RX4 13 "CopyRowsModel" "kinds" "[I"] ++ wsX40)
def wsX4_isRow : List Cond := .code yX4_isRow cX4_isRow 2 (some .boolean) :: ([.fieldLink RX4 7 "CopyRowsModel" "places" "[I"] ++ wsX40)
def wsX4_wantsRow : List Cond := .code yX4_wantsRow cX4_wantsRow 2 (some .int) :: ([.fieldLink RX4 7 "CopyRowsModel" "places" "[I"] ++ wsX40)
def wsX4_lengthOf : List Cond := .code yX4_lengthOf cX4_lengthOf 2 (some .int) :: ([.fieldLink RX4 16 "CopyRowsModel" "lengths" "[I", .fieldLink RX4 7 "CopyRowsModel" "places" "[I"] ++ wsX40)
def wsX4_get : List Cond := .code yX4_get cX4_get 3 (some .int) :: ([.fieldLink RX4 19 "CopyRowsModel" "items" "[I"] ++ wsX40)
def wsX4_put : List Cond := .code yX4_put cX4_put 4 none :: ([.fieldLink RX4 19 "CopyRowsModel" "items" "[I"] ++ wsX40)
def wsX4_newRow : List Cond := .code yX4_newRow cX4_newRow 4 (some .int) :: ([.fieldLink RX4 13 "CopyRowsModel" "kinds" "[I", .fieldLink RX4 41 "CopyRowsModel" "rows" "I", .fieldLink RX4 16 "CopyRowsModel" "lengths" "[I", .methodLink RX4 44 yX4_put, .instanceMethod yX4_put, .selects RX4 yX4_put yX4_put, .initialized RX4, .code yX4_put cX4_put 4 none, .fieldLink RX4 19 "CopyRowsModel" "items" "[I"] ++ wsX40)
def wsX4_make_r1 : List Cond := [Cond.constantLong RX4 52 (5), Cond.constant RX4 54 (-2000000001), Cond.fieldLink RX4 7 "CopyRowsModel" "places" "[I", Cond.methodLink RX4 48 yX4_isPlace, Cond.static yX4_isPlace, Cond.initialized RX4, Cond.code yX4_isPlace cX4_isPlace 1 (some .boolean), Cond.constantLong RX4 31 (11), Cond.methodLink RX4 33 yX4_within, Cond.static yX4_within, Cond.code yX4_within cX4_within 6 (some .boolean), Cond.methodLink RX4 55 yX4_no, Cond.instanceMethod yX4_no, Cond.selects RX4 yX4_no yX4_no, Cond.code yX4_no cX4_no 2 (some .int), Cond.fieldLink RX4 37 "CopyRowsModel" "code" "I", Cond.methodLink RX4 59 yX4_newRow, Cond.instanceMethod yX4_newRow, Cond.selects RX4 yX4_newRow yX4_newRow, Cond.code yX4_newRow cX4_newRow 4 (some .int), Cond.fieldLink RX4 13 "CopyRowsModel" "kinds" "[I", Cond.fieldLink RX4 41 "CopyRowsModel" "rows" "I", Cond.fieldLink RX4 16 "CopyRowsModel" "lengths" "[I", Cond.methodLink RX4 44 yX4_put]
def wsX4_make_r2 : List Cond := [Cond.instanceMethod yX4_put, Cond.selects RX4 yX4_put yX4_put, Cond.code yX4_put cX4_put 4 none, Cond.fieldLink RX4 19 "CopyRowsModel" "items" "[I", Cond.methodLink RX4 63 yX4_yes, Cond.instanceMethod yX4_yes, Cond.selects RX4 yX4_yes yX4_yes, Cond.code yX4_yes cX4_yes 2 (some .int)]
def wsX4_make : List Cond := .code yX4_make cX4_make 4 (some .int) :: ((wsX4_make_r1 ++ wsX4_make_r2) ++ wsX40)
def wsX4_share : List Cond := .code yX4_share cX4_share 3 (some .int) :: ([.constant RX4 54 (-2000000001), .fieldLink RX4 7 "CopyRowsModel" "places" "[I", .methodLink RX4 48 yX4_isPlace, .static yX4_isPlace, .initialized RX4, .code yX4_isPlace cX4_isPlace 1 (some .boolean), .constantLong RX4 31 (11), .methodLink RX4 33 yX4_within, .static yX4_within, .code yX4_within cX4_within 6 (some .boolean), .methodLink RX4 66 yX4_kindOf, .instanceMethod yX4_kindOf, .selects RX4 yX4_kindOf yX4_kindOf, .code yX4_kindOf cX4_kindOf 3 (some .int), .fieldLink RX4 13 "CopyRowsModel" "kinds" "[I"] ++ wsX40)
def wsX4_nothing : List Cond := .code yX4_nothing cX4_nothing 3 (some .int) :: ([.constant RX4 54 (-2000000001), .fieldLink RX4 7 "CopyRowsModel" "places" "[I", .methodLink RX4 48 yX4_isPlace, .static yX4_isPlace, .initialized RX4, .code yX4_isPlace cX4_isPlace 1 (some .boolean), .constantLong RX4 31 (11), .methodLink RX4 33 yX4_within, .static yX4_within, .code yX4_within cX4_within 6 (some .boolean), .methodLink RX4 66 yX4_kindOf, .instanceMethod yX4_kindOf, .selects RX4 yX4_kindOf yX4_kindOf, .code yX4_kindOf cX4_kindOf 3 (some .int), .fieldLink RX4 13 "CopyRowsModel" "kinds" "[I"] ++ wsX40)
def wsX4_lump : List Cond := .code yX4_lump cX4_lump 2 (some .int) :: ([.constant RX4 54 (-2000000001), .fieldLink RX4 69 "CopyRowsModel" "lumps" "I", .fieldLink RX4 7 "CopyRowsModel" "places" "[I", .methodLink RX4 48 yX4_isPlace, .static yX4_isPlace, .initialized RX4, .code yX4_isPlace cX4_isPlace 1 (some .boolean), .constantLong RX4 31 (11), .methodLink RX4 33 yX4_within, .static yX4_within, .code yX4_within cX4_within 6 (some .boolean)] ++ wsX40)
def wsX4_kind : List Cond := .code yX4_kind cX4_kind 2 (some .int) :: ([.constant RX4 54 (-2000000001), .methodLink RX4 48 yX4_isPlace, .static yX4_isPlace, .initialized RX4, .code yX4_isPlace cX4_isPlace 1 (some .boolean), .constantLong RX4 31 (11), .methodLink RX4 33 yX4_within, .static yX4_within, .code yX4_within cX4_within 6 (some .boolean), .methodLink RX4 66 yX4_kindOf, .instanceMethod yX4_kindOf, .selects RX4 yX4_kindOf yX4_kindOf, .code yX4_kindOf cX4_kindOf 3 (some .int), .fieldLink RX4 7 "CopyRowsModel" "places" "[I", .fieldLink RX4 13 "CopyRowsModel" "kinds" "[I"] ++ wsX40)
def wsX4_length_r1 : List Cond := [Cond.constant RX4 54 (-2000000001), Cond.methodLink RX4 48 yX4_isPlace, Cond.static yX4_isPlace, Cond.initialized RX4, Cond.code yX4_isPlace cX4_isPlace 1 (some .boolean), Cond.constantLong RX4 31 (11), Cond.methodLink RX4 33 yX4_within, Cond.static yX4_within, Cond.code yX4_within cX4_within 6 (some .boolean), Cond.methodLink RX4 72 yX4_wantsRow, Cond.instanceMethod yX4_wantsRow, Cond.selects RX4 yX4_wantsRow yX4_wantsRow, Cond.code yX4_wantsRow cX4_wantsRow 2 (some .int), Cond.fieldLink RX4 7 "CopyRowsModel" "places" "[I", Cond.methodLink RX4 55 yX4_no, Cond.instanceMethod yX4_no, Cond.selects RX4 yX4_no yX4_no, Cond.code yX4_no cX4_no 2 (some .int), Cond.fieldLink RX4 37 "CopyRowsModel" "code" "I", Cond.methodLink RX4 75 yX4_lengthOf, Cond.instanceMethod yX4_lengthOf, Cond.selects RX4 yX4_lengthOf yX4_lengthOf, Cond.code yX4_lengthOf cX4_lengthOf 2 (some .int), Cond.fieldLink RX4 16 "CopyRowsModel" "lengths" "[I"]
def wsX4_length_r2 : List Cond := [Cond.methodLink RX4 63 yX4_yes, Cond.instanceMethod yX4_yes, Cond.selects RX4 yX4_yes yX4_yes, Cond.code yX4_yes cX4_yes 2 (some .int)]
def wsX4_length : List Cond := .code yX4_length cX4_length 3 (some .int) :: ((wsX4_length_r1 ++ wsX4_length_r2) ++ wsX40)
def wsX4_wantsItem : List Cond := .code yX4_wantsItem cX4_wantsItem 6 (some .int) :: ([.methodLink RX4 72 yX4_wantsRow, .instanceMethod yX4_wantsRow, .selects RX4 yX4_wantsRow yX4_wantsRow, .initialized RX4, .code yX4_wantsRow cX4_wantsRow 2 (some .int), .fieldLink RX4 7 "CopyRowsModel" "places" "[I", .methodLink RX4 66 yX4_kindOf, .instanceMethod yX4_kindOf, .selects RX4 yX4_kindOf yX4_kindOf, .code yX4_kindOf cX4_kindOf 3 (some .int), .fieldLink RX4 13 "CopyRowsModel" "kinds" "[I", .methodLink RX4 33 yX4_within, .static yX4_within, .code yX4_within cX4_within 6 (some .boolean), .methodLink RX4 75 yX4_lengthOf, .instanceMethod yX4_lengthOf, .selects RX4 yX4_lengthOf yX4_lengthOf, .code yX4_lengthOf cX4_lengthOf 2 (some .int), .fieldLink RX4 16 "CopyRowsModel" "lengths" "[I"] ++ wsX40)
def wsX4_low8 : List Cond := .code yX4_low8 cX4_low8 2 (some .int) :: ([])
def wsX4_set_r1 : List Cond := [Cond.constant RX4 54 (-2000000001), Cond.fieldLink RX4 7 "CopyRowsModel" "places" "[I", Cond.fieldLink RX4 13 "CopyRowsModel" "kinds" "[I", Cond.methodLink RX4 48 yX4_isPlace, Cond.static yX4_isPlace, Cond.initialized RX4, Cond.code yX4_isPlace cX4_isPlace 1 (some .boolean), Cond.constantLong RX4 31 (11), Cond.methodLink RX4 33 yX4_within, Cond.static yX4_within, Cond.code yX4_within cX4_within 6 (some .boolean), Cond.methodLink RX4 78 yX4_wantsItem, Cond.instanceMethod yX4_wantsItem, Cond.selects RX4 yX4_wantsItem yX4_wantsItem, Cond.code yX4_wantsItem cX4_wantsItem 6 (some .int), Cond.methodLink RX4 72 yX4_wantsRow, Cond.instanceMethod yX4_wantsRow, Cond.selects RX4 yX4_wantsRow yX4_wantsRow, Cond.code yX4_wantsRow cX4_wantsRow 2 (some .int), Cond.methodLink RX4 66 yX4_kindOf, Cond.instanceMethod yX4_kindOf, Cond.selects RX4 yX4_kindOf yX4_kindOf, Cond.code yX4_kindOf cX4_kindOf 3 (some .int), Cond.methodLink RX4 75 yX4_lengthOf]
def wsX4_set_r2 : List Cond := [Cond.instanceMethod yX4_lengthOf, Cond.selects RX4 yX4_lengthOf yX4_lengthOf, Cond.code yX4_lengthOf cX4_lengthOf 2 (some .int), Cond.fieldLink RX4 16 "CopyRowsModel" "lengths" "[I", Cond.methodLink RX4 55 yX4_no, Cond.instanceMethod yX4_no, Cond.selects RX4 yX4_no yX4_no, Cond.code yX4_no cX4_no 2 (some .int), Cond.fieldLink RX4 37 "CopyRowsModel" "code" "I", Cond.methodLink RX4 82 yX4_get, Cond.instanceMethod yX4_get, Cond.selects RX4 yX4_get yX4_get, Cond.code yX4_get cX4_get 3 (some .int), Cond.fieldLink RX4 19 "CopyRowsModel" "items" "[I", Cond.methodLink RX4 85 yX4_low8, Cond.static yX4_low8, Cond.code yX4_low8 cX4_low8 2 (some .int), Cond.methodLink RX4 44 yX4_put, Cond.instanceMethod yX4_put, Cond.selects RX4 yX4_put yX4_put, Cond.code yX4_put cX4_put 4 none, Cond.methodLink RX4 63 yX4_yes, Cond.instanceMethod yX4_yes, Cond.selects RX4 yX4_yes yX4_yes]
def wsX4_set_r3 : List Cond := [Cond.code yX4_yes cX4_yes 2 (some .int)]
def wsX4_set : List Cond := .code yX4_set cX4_set 7 (some .int) :: ((wsX4_set_r1 ++ (wsX4_set_r2 ++ wsX4_set_r3)) ++ wsX40)
def wsX4_fitsClass : List Cond := .code yX4_fitsClass cX4_fitsClass 2 (some .boolean) :: ([])
def wsX4_thing_r1 : List Cond := [Cond.constantLong RX4 88 (-1), Cond.constantLong RX4 90 (2), Cond.constant RX4 54 (-2000000001), Cond.fieldLink RX4 7 "CopyRowsModel" "places" "[I", Cond.fieldLink RX4 22 "CopyRowsModel" "classes" "[I", Cond.fieldLink RX4 96 "CopyRowsModel" "things" "I", Cond.fieldLink RX4 25 "CopyRowsModel" "numbers" "[I", Cond.methodLink RX4 48 yX4_isPlace, Cond.static yX4_isPlace, Cond.initialized RX4, Cond.code yX4_isPlace cX4_isPlace 1 (some .boolean), Cond.constantLong RX4 31 (11), Cond.methodLink RX4 33 yX4_within, Cond.static yX4_within, Cond.code yX4_within cX4_within 6 (some .boolean), Cond.methodLink RX4 78 yX4_wantsItem, Cond.instanceMethod yX4_wantsItem, Cond.selects RX4 yX4_wantsItem yX4_wantsItem, Cond.code yX4_wantsItem cX4_wantsItem 6 (some .int), Cond.methodLink RX4 72 yX4_wantsRow, Cond.instanceMethod yX4_wantsRow, Cond.selects RX4 yX4_wantsRow yX4_wantsRow, Cond.code yX4_wantsRow cX4_wantsRow 2 (some .int), Cond.methodLink RX4 66 yX4_kindOf]
def wsX4_thing_r2 : List Cond := [Cond.instanceMethod yX4_kindOf, Cond.selects RX4 yX4_kindOf yX4_kindOf, Cond.code yX4_kindOf cX4_kindOf 3 (some .int), Cond.fieldLink RX4 13 "CopyRowsModel" "kinds" "[I", Cond.methodLink RX4 75 yX4_lengthOf, Cond.instanceMethod yX4_lengthOf, Cond.selects RX4 yX4_lengthOf yX4_lengthOf, Cond.code yX4_lengthOf cX4_lengthOf 2 (some .int), Cond.fieldLink RX4 16 "CopyRowsModel" "lengths" "[I", Cond.methodLink RX4 92 yX4_fitsClass, Cond.static yX4_fitsClass, Cond.code yX4_fitsClass cX4_fitsClass 2 (some .boolean), Cond.methodLink RX4 55 yX4_no, Cond.instanceMethod yX4_no, Cond.selects RX4 yX4_no yX4_no, Cond.code yX4_no cX4_no 2 (some .int), Cond.fieldLink RX4 37 "CopyRowsModel" "code" "I", Cond.methodLink RX4 44 yX4_put, Cond.instanceMethod yX4_put, Cond.selects RX4 yX4_put yX4_put, Cond.code yX4_put cX4_put 4 none, Cond.fieldLink RX4 19 "CopyRowsModel" "items" "[I", Cond.methodLink RX4 63 yX4_yes, Cond.instanceMethod yX4_yes]
def wsX4_thing_r3 : List Cond := [Cond.selects RX4 yX4_yes yX4_yes, Cond.code yX4_yes cX4_yes 2 (some .int)]
def wsX4_thing : List Cond := .code yX4_thing cX4_thing 6 (some .int) :: ((wsX4_thing_r1 ++ (wsX4_thing_r2 ++ wsX4_thing_r3)) ++ wsX40)
def wsX4_hang_r1 : List Cond := [Cond.constant RX4 54 (-2000000001), Cond.fieldLink RX4 7 "CopyRowsModel" "places" "[I", Cond.methodLink RX4 48 yX4_isPlace, Cond.static yX4_isPlace, Cond.initialized RX4, Cond.code yX4_isPlace cX4_isPlace 1 (some .boolean), Cond.constantLong RX4 31 (11), Cond.methodLink RX4 33 yX4_within, Cond.static yX4_within, Cond.code yX4_within cX4_within 6 (some .boolean), Cond.methodLink RX4 72 yX4_wantsRow, Cond.instanceMethod yX4_wantsRow, Cond.selects RX4 yX4_wantsRow yX4_wantsRow, Cond.code yX4_wantsRow cX4_wantsRow 2 (some .int), Cond.methodLink RX4 66 yX4_kindOf, Cond.instanceMethod yX4_kindOf, Cond.selects RX4 yX4_kindOf yX4_kindOf, Cond.code yX4_kindOf cX4_kindOf 3 (some .int), Cond.fieldLink RX4 13 "CopyRowsModel" "kinds" "[I", Cond.methodLink RX4 75 yX4_lengthOf, Cond.instanceMethod yX4_lengthOf, Cond.selects RX4 yX4_lengthOf yX4_lengthOf, Cond.code yX4_lengthOf cX4_lengthOf 2 (some .int), Cond.fieldLink RX4 16 "CopyRowsModel" "lengths" "[I"]
def wsX4_hang_r2 : List Cond := [Cond.methodLink RX4 55 yX4_no, Cond.instanceMethod yX4_no, Cond.selects RX4 yX4_no yX4_no, Cond.code yX4_no cX4_no 2 (some .int), Cond.fieldLink RX4 37 "CopyRowsModel" "code" "I", Cond.methodLink RX4 44 yX4_put, Cond.instanceMethod yX4_put, Cond.selects RX4 yX4_put yX4_put, Cond.code yX4_put cX4_put 4 none, Cond.fieldLink RX4 19 "CopyRowsModel" "items" "[I", Cond.methodLink RX4 63 yX4_yes, Cond.instanceMethod yX4_yes, Cond.selects RX4 yX4_yes yX4_yes, Cond.code yX4_yes cX4_yes 2 (some .int)]
def wsX4_hang : List Cond := .code yX4_hang cX4_hang 5 (some .int) :: ((wsX4_hang_r1 ++ wsX4_hang_r2) ++ wsX40)
def wsX4_item_r1 : List Cond := [Cond.constant RX4 54 (-2000000001), Cond.fieldLink RX4 7 "CopyRowsModel" "places" "[I", Cond.fieldLink RX4 16 "CopyRowsModel" "lengths" "[I", Cond.fieldLink RX4 25 "CopyRowsModel" "numbers" "[I", Cond.methodLink RX4 48 yX4_isPlace, Cond.static yX4_isPlace, Cond.initialized RX4, Cond.code yX4_isPlace cX4_isPlace 1 (some .boolean), Cond.constantLong RX4 31 (11), Cond.methodLink RX4 33 yX4_within, Cond.static yX4_within, Cond.code yX4_within cX4_within 6 (some .boolean), Cond.methodLink RX4 78 yX4_wantsItem, Cond.instanceMethod yX4_wantsItem, Cond.selects RX4 yX4_wantsItem yX4_wantsItem, Cond.code yX4_wantsItem cX4_wantsItem 6 (some .int), Cond.methodLink RX4 72 yX4_wantsRow, Cond.instanceMethod yX4_wantsRow, Cond.selects RX4 yX4_wantsRow yX4_wantsRow, Cond.code yX4_wantsRow cX4_wantsRow 2 (some .int), Cond.methodLink RX4 66 yX4_kindOf, Cond.instanceMethod yX4_kindOf, Cond.selects RX4 yX4_kindOf yX4_kindOf, Cond.code yX4_kindOf cX4_kindOf 3 (some .int)]
def wsX4_item_r2 : List Cond := [Cond.fieldLink RX4 13 "CopyRowsModel" "kinds" "[I", Cond.methodLink RX4 75 yX4_lengthOf, Cond.instanceMethod yX4_lengthOf, Cond.selects RX4 yX4_lengthOf yX4_lengthOf, Cond.code yX4_lengthOf cX4_lengthOf 2 (some .int), Cond.methodLink RX4 55 yX4_no, Cond.instanceMethod yX4_no, Cond.selects RX4 yX4_no yX4_no, Cond.code yX4_no cX4_no 2 (some .int), Cond.fieldLink RX4 37 "CopyRowsModel" "code" "I", Cond.methodLink RX4 82 yX4_get, Cond.instanceMethod yX4_get, Cond.selects RX4 yX4_get yX4_get, Cond.code yX4_get cX4_get 3 (some .int), Cond.fieldLink RX4 19 "CopyRowsModel" "items" "[I", Cond.methodLink RX4 63 yX4_yes, Cond.instanceMethod yX4_yes, Cond.selects RX4 yX4_yes yX4_yes, Cond.code yX4_yes cX4_yes 2 (some .int)]
def wsX4_item : List Cond := .code yX4_item cX4_item 6 (some .int) :: ((wsX4_item_r1 ++ wsX4_item_r2) ++ wsX40)
def wsX4_classOf_r1 : List Cond := [Cond.constant RX4 54 (-2000000001), Cond.fieldLink RX4 7 "CopyRowsModel" "places" "[I", Cond.fieldLink RX4 22 "CopyRowsModel" "classes" "[I", Cond.methodLink RX4 48 yX4_isPlace, Cond.static yX4_isPlace, Cond.initialized RX4, Cond.code yX4_isPlace cX4_isPlace 1 (some .boolean), Cond.constantLong RX4 31 (11), Cond.methodLink RX4 33 yX4_within, Cond.static yX4_within, Cond.code yX4_within cX4_within 6 (some .boolean), Cond.methodLink RX4 78 yX4_wantsItem, Cond.instanceMethod yX4_wantsItem, Cond.selects RX4 yX4_wantsItem yX4_wantsItem, Cond.code yX4_wantsItem cX4_wantsItem 6 (some .int), Cond.methodLink RX4 72 yX4_wantsRow, Cond.instanceMethod yX4_wantsRow, Cond.selects RX4 yX4_wantsRow yX4_wantsRow, Cond.code yX4_wantsRow cX4_wantsRow 2 (some .int), Cond.methodLink RX4 66 yX4_kindOf, Cond.instanceMethod yX4_kindOf, Cond.selects RX4 yX4_kindOf yX4_kindOf, Cond.code yX4_kindOf cX4_kindOf 3 (some .int), Cond.fieldLink RX4 13 "CopyRowsModel" "kinds" "[I"]
def wsX4_classOf_r2 : List Cond := [Cond.methodLink RX4 75 yX4_lengthOf, Cond.instanceMethod yX4_lengthOf, Cond.selects RX4 yX4_lengthOf yX4_lengthOf, Cond.code yX4_lengthOf cX4_lengthOf 2 (some .int), Cond.fieldLink RX4 16 "CopyRowsModel" "lengths" "[I", Cond.methodLink RX4 55 yX4_no, Cond.instanceMethod yX4_no, Cond.selects RX4 yX4_no yX4_no, Cond.code yX4_no cX4_no 2 (some .int), Cond.fieldLink RX4 37 "CopyRowsModel" "code" "I", Cond.methodLink RX4 82 yX4_get, Cond.instanceMethod yX4_get, Cond.selects RX4 yX4_get yX4_get, Cond.code yX4_get cX4_get 3 (some .int), Cond.fieldLink RX4 19 "CopyRowsModel" "items" "[I", Cond.methodLink RX4 63 yX4_yes, Cond.instanceMethod yX4_yes, Cond.selects RX4 yX4_yes yX4_yes, Cond.code yX4_yes cX4_yes 2 (some .int)]
def wsX4_classOf : List Cond := .code yX4_classOf cX4_classOf 5 (some .int) :: ((wsX4_classOf_r1 ++ wsX4_classOf_r2) ++ wsX40)
def wsX4_fits : List Cond := .code yX4_fits cX4_fits 4 (some .boolean) :: ([.fieldLink RX4 22 "CopyRowsModel" "classes" "[I", .methodLink RX4 92 yX4_fitsClass, .static yX4_fitsClass, .initialized RX4, .code yX4_fitsClass cX4_fitsClass 2 (some .boolean)] ++ wsX40)
def wsX4_unlike : List Cond := .code yX4_unlike cX4_unlike 5 (some .int) :: ([.fieldLink RX4 7 "CopyRowsModel" "places" "[I", .methodLink RX4 66 yX4_kindOf, .instanceMethod yX4_kindOf, .selects RX4 yX4_kindOf yX4_kindOf, .initialized RX4, .code yX4_kindOf cX4_kindOf 3 (some .int), .fieldLink RX4 13 "CopyRowsModel" "kinds" "[I"] ++ wsX40)
def wsX4_move_r1 : List Cond := [Cond.constant RX4 54 (-2000000001), Cond.fieldLink RX4 7 "CopyRowsModel" "places" "[I", Cond.fieldLink RX4 28 "CopyRowsModel" "third" "[I", Cond.fieldLink RX4 13 "CopyRowsModel" "kinds" "[I", Cond.fieldLink RX4 37 "CopyRowsModel" "code" "I", Cond.methodLink RX4 48 yX4_isPlace, Cond.static yX4_isPlace, Cond.initialized RX4, Cond.code yX4_isPlace cX4_isPlace 1 (some .boolean), Cond.constantLong RX4 31 (11), Cond.methodLink RX4 33 yX4_within, Cond.static yX4_within, Cond.code yX4_within cX4_within 6 (some .boolean), Cond.methodLink RX4 99 yX4_unlike, Cond.instanceMethod yX4_unlike, Cond.selects RX4 yX4_unlike yX4_unlike, Cond.code yX4_unlike cX4_unlike 5 (some .int), Cond.methodLink RX4 66 yX4_kindOf, Cond.instanceMethod yX4_kindOf, Cond.selects RX4 yX4_kindOf yX4_kindOf, Cond.code yX4_kindOf cX4_kindOf 3 (some .int), Cond.methodLink RX4 75 yX4_lengthOf, Cond.instanceMethod yX4_lengthOf, Cond.selects RX4 yX4_lengthOf yX4_lengthOf]
def wsX4_move_r2 : List Cond := [Cond.code yX4_lengthOf cX4_lengthOf 2 (some .int), Cond.fieldLink RX4 16 "CopyRowsModel" "lengths" "[I", Cond.methodLink RX4 55 yX4_no, Cond.instanceMethod yX4_no, Cond.selects RX4 yX4_no yX4_no, Cond.code yX4_no cX4_no 2 (some .int), Cond.methodLink RX4 82 yX4_get, Cond.instanceMethod yX4_get, Cond.selects RX4 yX4_get yX4_get, Cond.code yX4_get cX4_get 3 (some .int), Cond.fieldLink RX4 19 "CopyRowsModel" "items" "[I", Cond.methodLink RX4 102 yX4_fits, Cond.instanceMethod yX4_fits, Cond.selects RX4 yX4_fits yX4_fits, Cond.code yX4_fits cX4_fits 4 (some .boolean), Cond.fieldLink RX4 22 "CopyRowsModel" "classes" "[I", Cond.methodLink RX4 92 yX4_fitsClass, Cond.static yX4_fitsClass, Cond.code yX4_fitsClass cX4_fitsClass 2 (some .boolean), Cond.methodLink RX4 44 yX4_put, Cond.instanceMethod yX4_put, Cond.selects RX4 yX4_put yX4_put, Cond.code yX4_put cX4_put 4 none, Cond.methodLink RX4 63 yX4_yes]
def wsX4_move_r3 : List Cond := [Cond.instanceMethod yX4_yes, Cond.selects RX4 yX4_yes yX4_yes, Cond.code yX4_yes cX4_yes 2 (some .int)]
def wsX4_move : List Cond := .code yX4_move cX4_move 10 (some .int) :: ((wsX4_move_r1 ++ (wsX4_move_r2 ++ wsX4_move_r3)) ++ wsX40)
def wsX4_loop_r1 : List Cond := [Cond.constant RX4 54 (-2000000001), Cond.fieldLink RX4 7 "CopyRowsModel" "places" "[I", Cond.fieldLink RX4 16 "CopyRowsModel" "lengths" "[I", Cond.fieldLink RX4 37 "CopyRowsModel" "code" "I", Cond.fieldLink RX4 13 "CopyRowsModel" "kinds" "[I", Cond.methodLink RX4 48 yX4_isPlace, Cond.static yX4_isPlace, Cond.initialized RX4, Cond.code yX4_isPlace cX4_isPlace 1 (some .boolean), Cond.constantLong RX4 31 (11), Cond.methodLink RX4 33 yX4_within, Cond.static yX4_within, Cond.code yX4_within cX4_within 6 (some .boolean), Cond.methodLink RX4 99 yX4_unlike, Cond.instanceMethod yX4_unlike, Cond.selects RX4 yX4_unlike yX4_unlike, Cond.code yX4_unlike cX4_unlike 5 (some .int), Cond.methodLink RX4 66 yX4_kindOf, Cond.instanceMethod yX4_kindOf, Cond.selects RX4 yX4_kindOf yX4_kindOf, Cond.code yX4_kindOf cX4_kindOf 3 (some .int), Cond.methodLink RX4 55 yX4_no, Cond.instanceMethod yX4_no, Cond.selects RX4 yX4_no yX4_no]
def wsX4_loop_r2 : List Cond := [Cond.code yX4_no cX4_no 2 (some .int), Cond.methodLink RX4 82 yX4_get, Cond.instanceMethod yX4_get, Cond.selects RX4 yX4_get yX4_get, Cond.code yX4_get cX4_get 3 (some .int), Cond.fieldLink RX4 19 "CopyRowsModel" "items" "[I", Cond.methodLink RX4 102 yX4_fits, Cond.instanceMethod yX4_fits, Cond.selects RX4 yX4_fits yX4_fits, Cond.code yX4_fits cX4_fits 4 (some .boolean), Cond.fieldLink RX4 22 "CopyRowsModel" "classes" "[I", Cond.methodLink RX4 92 yX4_fitsClass, Cond.static yX4_fitsClass, Cond.code yX4_fitsClass cX4_fitsClass 2 (some .boolean), Cond.methodLink RX4 44 yX4_put, Cond.instanceMethod yX4_put, Cond.selects RX4 yX4_put yX4_put, Cond.code yX4_put cX4_put 4 none, Cond.methodLink RX4 63 yX4_yes, Cond.instanceMethod yX4_yes, Cond.selects RX4 yX4_yes yX4_yes, Cond.code yX4_yes cX4_yes 2 (some .int)]
def wsX4_loop : List Cond := .code yX4_loop cX4_loop 11 (some .int) :: ((wsX4_loop_r1 ++ wsX4_loop_r2) ++ wsX40)
def wsX4_sliced : List Cond := .code yX4_sliced cX4_sliced 8 (some .int) :: ([.fieldLink RX4 7 "CopyRowsModel" "places" "[I", .fieldLink RX4 13 "CopyRowsModel" "kinds" "[I", .methodLink RX4 59 yX4_newRow, .instanceMethod yX4_newRow, .selects RX4 yX4_newRow yX4_newRow, .initialized RX4, .code yX4_newRow cX4_newRow 4 (some .int), .fieldLink RX4 41 "CopyRowsModel" "rows" "I", .fieldLink RX4 16 "CopyRowsModel" "lengths" "[I", .methodLink RX4 44 yX4_put, .instanceMethod yX4_put, .selects RX4 yX4_put yX4_put, .code yX4_put cX4_put 4 none, .fieldLink RX4 19 "CopyRowsModel" "items" "[I", .methodLink RX4 82 yX4_get, .instanceMethod yX4_get, .selects RX4 yX4_get yX4_get, .code yX4_get cX4_get 3 (some .int), .methodLink RX4 63 yX4_yes, .instanceMethod yX4_yes, .selects RX4 yX4_yes yX4_yes, .code yX4_yes cX4_yes 2 (some .int), .fieldLink RX4 37 "CopyRowsModel" "code" "I"] ++ wsX40)
def wsX4_copy_r1 : List Cond := [Cond.constant RX4 54 (-2000000001), Cond.methodLink RX4 48 yX4_isPlace, Cond.static yX4_isPlace, Cond.initialized RX4, Cond.code yX4_isPlace cX4_isPlace 1 (some .boolean), Cond.constantLong RX4 31 (11), Cond.methodLink RX4 33 yX4_within, Cond.static yX4_within, Cond.code yX4_within cX4_within 6 (some .boolean), Cond.methodLink RX4 72 yX4_wantsRow, Cond.instanceMethod yX4_wantsRow, Cond.selects RX4 yX4_wantsRow yX4_wantsRow, Cond.code yX4_wantsRow cX4_wantsRow 2 (some .int), Cond.fieldLink RX4 7 "CopyRowsModel" "places" "[I", Cond.methodLink RX4 55 yX4_no, Cond.instanceMethod yX4_no, Cond.selects RX4 yX4_no yX4_no, Cond.code yX4_no cX4_no 2 (some .int), Cond.fieldLink RX4 37 "CopyRowsModel" "code" "I", Cond.methodLink RX4 75 yX4_lengthOf, Cond.instanceMethod yX4_lengthOf, Cond.selects RX4 yX4_lengthOf yX4_lengthOf, Cond.code yX4_lengthOf cX4_lengthOf 2 (some .int), Cond.fieldLink RX4 16 "CopyRowsModel" "lengths" "[I"]
def wsX4_copy_r2 : List Cond := [Cond.methodLink RX4 106 yX4_sliced, Cond.instanceMethod yX4_sliced, Cond.selects RX4 yX4_sliced yX4_sliced, Cond.code yX4_sliced cX4_sliced 8 (some .int), Cond.fieldLink RX4 13 "CopyRowsModel" "kinds" "[I", Cond.methodLink RX4 59 yX4_newRow, Cond.instanceMethod yX4_newRow, Cond.selects RX4 yX4_newRow yX4_newRow, Cond.code yX4_newRow cX4_newRow 4 (some .int), Cond.fieldLink RX4 41 "CopyRowsModel" "rows" "I", Cond.methodLink RX4 44 yX4_put, Cond.instanceMethod yX4_put, Cond.selects RX4 yX4_put yX4_put, Cond.code yX4_put cX4_put 4 none, Cond.fieldLink RX4 19 "CopyRowsModel" "items" "[I", Cond.methodLink RX4 82 yX4_get, Cond.instanceMethod yX4_get, Cond.selects RX4 yX4_get yX4_get, Cond.code yX4_get cX4_get 3 (some .int), Cond.methodLink RX4 63 yX4_yes, Cond.instanceMethod yX4_yes, Cond.selects RX4 yX4_yes yX4_yes, Cond.code yX4_yes cX4_yes 2 (some .int)]
def wsX4_copy : List Cond := .code yX4_copy cX4_copy 4 (some .int) :: ((wsX4_copy_r1 ++ wsX4_copy_r2) ++ wsX40)
def wsX4_slice_r1 : List Cond := [Cond.constant RX4 54 (-2000000001), Cond.methodLink RX4 48 yX4_isPlace, Cond.static yX4_isPlace, Cond.initialized RX4, Cond.code yX4_isPlace cX4_isPlace 1 (some .boolean), Cond.constantLong RX4 31 (11), Cond.methodLink RX4 33 yX4_within, Cond.static yX4_within, Cond.code yX4_within cX4_within 6 (some .boolean), Cond.methodLink RX4 72 yX4_wantsRow, Cond.instanceMethod yX4_wantsRow, Cond.selects RX4 yX4_wantsRow yX4_wantsRow, Cond.code yX4_wantsRow cX4_wantsRow 2 (some .int), Cond.fieldLink RX4 7 "CopyRowsModel" "places" "[I", Cond.methodLink RX4 75 yX4_lengthOf, Cond.instanceMethod yX4_lengthOf, Cond.selects RX4 yX4_lengthOf yX4_lengthOf, Cond.code yX4_lengthOf cX4_lengthOf 2 (some .int), Cond.fieldLink RX4 16 "CopyRowsModel" "lengths" "[I", Cond.methodLink RX4 55 yX4_no, Cond.instanceMethod yX4_no, Cond.selects RX4 yX4_no yX4_no, Cond.code yX4_no cX4_no 2 (some .int), Cond.fieldLink RX4 37 "CopyRowsModel" "code" "I"]
def wsX4_slice_r2 : List Cond := [Cond.methodLink RX4 106 yX4_sliced, Cond.instanceMethod yX4_sliced, Cond.selects RX4 yX4_sliced yX4_sliced, Cond.code yX4_sliced cX4_sliced 8 (some .int), Cond.fieldLink RX4 13 "CopyRowsModel" "kinds" "[I", Cond.methodLink RX4 59 yX4_newRow, Cond.instanceMethod yX4_newRow, Cond.selects RX4 yX4_newRow yX4_newRow, Cond.code yX4_newRow cX4_newRow 4 (some .int), Cond.fieldLink RX4 41 "CopyRowsModel" "rows" "I", Cond.methodLink RX4 44 yX4_put, Cond.instanceMethod yX4_put, Cond.selects RX4 yX4_put yX4_put, Cond.code yX4_put cX4_put 4 none, Cond.fieldLink RX4 19 "CopyRowsModel" "items" "[I", Cond.methodLink RX4 82 yX4_get, Cond.instanceMethod yX4_get, Cond.selects RX4 yX4_get yX4_get, Cond.code yX4_get cX4_get 3 (some .int), Cond.methodLink RX4 63 yX4_yes, Cond.instanceMethod yX4_yes, Cond.selects RX4 yX4_yes yX4_yes, Cond.code yX4_yes cX4_yes 2 (some .int)]
def wsX4_slice : List Cond := .code yX4_slice cX4_slice 6 (some .int) :: ((wsX4_slice_r1 ++ wsX4_slice_r2) ++ wsX40)
def wsX4_join_r1 : List Cond := [Cond.constant RX4 54 (-2000000001), Cond.fieldLink RX4 7 "CopyRowsModel" "places" "[I", Cond.fieldLink RX4 16 "CopyRowsModel" "lengths" "[I", Cond.fieldLink RX4 13 "CopyRowsModel" "kinds" "[I", Cond.methodLink RX4 48 yX4_isPlace, Cond.static yX4_isPlace, Cond.initialized RX4, Cond.code yX4_isPlace cX4_isPlace 1 (some .boolean), Cond.constantLong RX4 31 (11), Cond.methodLink RX4 33 yX4_within, Cond.static yX4_within, Cond.code yX4_within cX4_within 6 (some .boolean), Cond.methodLink RX4 72 yX4_wantsRow, Cond.instanceMethod yX4_wantsRow, Cond.selects RX4 yX4_wantsRow yX4_wantsRow, Cond.code yX4_wantsRow cX4_wantsRow 2 (some .int), Cond.methodLink RX4 75 yX4_lengthOf, Cond.instanceMethod yX4_lengthOf, Cond.selects RX4 yX4_lengthOf yX4_lengthOf, Cond.code yX4_lengthOf cX4_lengthOf 2 (some .int), Cond.methodLink RX4 99 yX4_unlike, Cond.instanceMethod yX4_unlike, Cond.selects RX4 yX4_unlike yX4_unlike, Cond.code yX4_unlike cX4_unlike 5 (some .int)]
def wsX4_join_r2 : List Cond := [Cond.methodLink RX4 66 yX4_kindOf, Cond.instanceMethod yX4_kindOf, Cond.selects RX4 yX4_kindOf yX4_kindOf, Cond.code yX4_kindOf cX4_kindOf 3 (some .int), Cond.methodLink RX4 82 yX4_get, Cond.instanceMethod yX4_get, Cond.selects RX4 yX4_get yX4_get, Cond.code yX4_get cX4_get 3 (some .int), Cond.fieldLink RX4 19 "CopyRowsModel" "items" "[I", Cond.methodLink RX4 102 yX4_fits, Cond.instanceMethod yX4_fits, Cond.selects RX4 yX4_fits yX4_fits, Cond.code yX4_fits cX4_fits 4 (some .boolean), Cond.fieldLink RX4 22 "CopyRowsModel" "classes" "[I", Cond.methodLink RX4 92 yX4_fitsClass, Cond.static yX4_fitsClass, Cond.code yX4_fitsClass cX4_fitsClass 2 (some .boolean), Cond.methodLink RX4 55 yX4_no, Cond.instanceMethod yX4_no, Cond.selects RX4 yX4_no yX4_no, Cond.code yX4_no cX4_no 2 (some .int), Cond.fieldLink RX4 37 "CopyRowsModel" "code" "I", Cond.methodLink RX4 59 yX4_newRow, Cond.instanceMethod yX4_newRow]
def wsX4_join_r3 : List Cond := [Cond.selects RX4 yX4_newRow yX4_newRow, Cond.code yX4_newRow cX4_newRow 4 (some .int), Cond.fieldLink RX4 41 "CopyRowsModel" "rows" "I", Cond.methodLink RX4 44 yX4_put, Cond.instanceMethod yX4_put, Cond.selects RX4 yX4_put yX4_put, Cond.code yX4_put cX4_put 4 none, Cond.methodLink RX4 63 yX4_yes, Cond.instanceMethod yX4_yes, Cond.selects RX4 yX4_yes yX4_yes, Cond.code yX4_yes cX4_yes 2 (some .int)]
def wsX4_join : List Cond := .code yX4_join cX4_join 9 (some .int) :: ((wsX4_join_r1 ++ (wsX4_join_r2 ++ wsX4_join_r3)) ++ wsX40)
def wsX4_update_r1 : List Cond := [Cond.constant RX4 54 (-2000000001), Cond.fieldLink RX4 7 "CopyRowsModel" "places" "[I", Cond.fieldLink RX4 16 "CopyRowsModel" "lengths" "[I", Cond.fieldLink RX4 37 "CopyRowsModel" "code" "I", Cond.methodLink RX4 48 yX4_isPlace, Cond.static yX4_isPlace, Cond.initialized RX4, Cond.code yX4_isPlace cX4_isPlace 1 (some .boolean), Cond.constantLong RX4 31 (11), Cond.methodLink RX4 33 yX4_within, Cond.static yX4_within, Cond.code yX4_within cX4_within 6 (some .boolean), Cond.methodLink RX4 55 yX4_no, Cond.instanceMethod yX4_no, Cond.selects RX4 yX4_no yX4_no, Cond.code yX4_no cX4_no 2 (some .int), Cond.methodLink RX4 66 yX4_kindOf, Cond.instanceMethod yX4_kindOf, Cond.selects RX4 yX4_kindOf yX4_kindOf, Cond.code yX4_kindOf cX4_kindOf 3 (some .int), Cond.fieldLink RX4 13 "CopyRowsModel" "kinds" "[I", Cond.methodLink RX4 82 yX4_get, Cond.instanceMethod yX4_get, Cond.selects RX4 yX4_get yX4_get]
def wsX4_update_r2 : List Cond := [Cond.code yX4_get cX4_get 3 (some .int), Cond.fieldLink RX4 19 "CopyRowsModel" "items" "[I", Cond.methodLink RX4 44 yX4_put, Cond.instanceMethod yX4_put, Cond.selects RX4 yX4_put yX4_put, Cond.code yX4_put cX4_put 4 none, Cond.methodLink RX4 63 yX4_yes, Cond.instanceMethod yX4_yes, Cond.selects RX4 yX4_yes yX4_yes, Cond.code yX4_yes cX4_yes 2 (some .int)]
def wsX4_update : List Cond := .code yX4_update cX4_update 9 (some .int) :: ((wsX4_update_r1 ++ wsX4_update_r2) ++ wsX40)
def wsX4_rotate_r1 : List Cond := [Cond.constant RX4 54 (-2000000001), Cond.fieldLink RX4 7 "CopyRowsModel" "places" "[I", Cond.fieldLink RX4 16 "CopyRowsModel" "lengths" "[I", Cond.fieldLink RX4 28 "CopyRowsModel" "third" "[I", Cond.methodLink RX4 48 yX4_isPlace, Cond.static yX4_isPlace, Cond.initialized RX4, Cond.code yX4_isPlace cX4_isPlace 1 (some .boolean), Cond.constantLong RX4 31 (11), Cond.methodLink RX4 33 yX4_within, Cond.static yX4_within, Cond.code yX4_within cX4_within 6 (some .boolean), Cond.methodLink RX4 72 yX4_wantsRow, Cond.instanceMethod yX4_wantsRow, Cond.selects RX4 yX4_wantsRow yX4_wantsRow, Cond.code yX4_wantsRow cX4_wantsRow 2 (some .int), Cond.methodLink RX4 75 yX4_lengthOf, Cond.instanceMethod yX4_lengthOf, Cond.selects RX4 yX4_lengthOf yX4_lengthOf, Cond.code yX4_lengthOf cX4_lengthOf 2 (some .int), Cond.methodLink RX4 55 yX4_no, Cond.instanceMethod yX4_no, Cond.selects RX4 yX4_no yX4_no, Cond.code yX4_no cX4_no 2 (some .int)]
def wsX4_rotate_r2 : List Cond := [Cond.fieldLink RX4 37 "CopyRowsModel" "code" "I", Cond.methodLink RX4 82 yX4_get, Cond.instanceMethod yX4_get, Cond.selects RX4 yX4_get yX4_get, Cond.code yX4_get cX4_get 3 (some .int), Cond.fieldLink RX4 19 "CopyRowsModel" "items" "[I", Cond.methodLink RX4 44 yX4_put, Cond.instanceMethod yX4_put, Cond.selects RX4 yX4_put yX4_put, Cond.code yX4_put cX4_put 4 none, Cond.methodLink RX4 63 yX4_yes, Cond.instanceMethod yX4_yes, Cond.selects RX4 yX4_yes yX4_yes, Cond.code yX4_yes cX4_yes 2 (some .int)]
def wsX4_rotate : List Cond := .code yX4_rotate cX4_rotate 8 (some .int) :: ((wsX4_rotate_r1 ++ wsX4_rotate_r2) ++ wsX40)
def wsX4_sumOf : List Cond := .code yX4_sumOf cX4_sumOf 4 (some .int) :: ([.fieldLink RX4 16 "CopyRowsModel" "lengths" "[I", .methodLink RX4 82 yX4_get, .instanceMethod yX4_get, .selects RX4 yX4_get yX4_get, .initialized RX4, .code yX4_get cX4_get 3 (some .int), .fieldLink RX4 19 "CopyRowsModel" "items" "[I"] ++ wsX40)
def wsX4_sum_r1 : List Cond := [Cond.constant RX4 54 (-2000000001), Cond.fieldLink RX4 7 "CopyRowsModel" "places" "[I", Cond.fieldLink RX4 13 "CopyRowsModel" "kinds" "[I", Cond.fieldLink RX4 16 "CopyRowsModel" "lengths" "[I", Cond.methodLink RX4 48 yX4_isPlace, Cond.static yX4_isPlace, Cond.initialized RX4, Cond.code yX4_isPlace cX4_isPlace 1 (some .boolean), Cond.constantLong RX4 31 (11), Cond.methodLink RX4 33 yX4_within, Cond.static yX4_within, Cond.code yX4_within cX4_within 6 (some .boolean), Cond.methodLink RX4 72 yX4_wantsRow, Cond.instanceMethod yX4_wantsRow, Cond.selects RX4 yX4_wantsRow yX4_wantsRow, Cond.code yX4_wantsRow cX4_wantsRow 2 (some .int), Cond.methodLink RX4 66 yX4_kindOf, Cond.instanceMethod yX4_kindOf, Cond.selects RX4 yX4_kindOf yX4_kindOf, Cond.code yX4_kindOf cX4_kindOf 3 (some .int), Cond.methodLink RX4 55 yX4_no, Cond.instanceMethod yX4_no, Cond.selects RX4 yX4_no yX4_no, Cond.code yX4_no cX4_no 2 (some .int)]
def wsX4_sum_r2 : List Cond := [Cond.fieldLink RX4 37 "CopyRowsModel" "code" "I", Cond.methodLink RX4 109 yX4_sumOf, Cond.instanceMethod yX4_sumOf, Cond.selects RX4 yX4_sumOf yX4_sumOf, Cond.code yX4_sumOf cX4_sumOf 4 (some .int), Cond.methodLink RX4 82 yX4_get, Cond.instanceMethod yX4_get, Cond.selects RX4 yX4_get yX4_get, Cond.code yX4_get cX4_get 3 (some .int), Cond.fieldLink RX4 19 "CopyRowsModel" "items" "[I", Cond.methodLink RX4 63 yX4_yes, Cond.instanceMethod yX4_yes, Cond.selects RX4 yX4_yes yX4_yes, Cond.code yX4_yes cX4_yes 2 (some .int)]
def wsX4_sum : List Cond := .code yX4_sum cX4_sum 6 (some .int) :: ((wsX4_sum_r1 ++ wsX4_sum_r2) ++ wsX40)
def wsX4_mean_r1 : List Cond := [Cond.constant RX4 54 (-2000000001), Cond.fieldLink RX4 7 "CopyRowsModel" "places" "[I", Cond.methodLink RX4 48 yX4_isPlace, Cond.static yX4_isPlace, Cond.initialized RX4, Cond.code yX4_isPlace cX4_isPlace 1 (some .boolean), Cond.constantLong RX4 31 (11), Cond.methodLink RX4 33 yX4_within, Cond.static yX4_within, Cond.code yX4_within cX4_within 6 (some .boolean), Cond.methodLink RX4 72 yX4_wantsRow, Cond.instanceMethod yX4_wantsRow, Cond.selects RX4 yX4_wantsRow yX4_wantsRow, Cond.code yX4_wantsRow cX4_wantsRow 2 (some .int), Cond.methodLink RX4 66 yX4_kindOf, Cond.instanceMethod yX4_kindOf, Cond.selects RX4 yX4_kindOf yX4_kindOf, Cond.code yX4_kindOf cX4_kindOf 3 (some .int), Cond.fieldLink RX4 13 "CopyRowsModel" "kinds" "[I", Cond.methodLink RX4 75 yX4_lengthOf, Cond.instanceMethod yX4_lengthOf, Cond.selects RX4 yX4_lengthOf yX4_lengthOf, Cond.code yX4_lengthOf cX4_lengthOf 2 (some .int), Cond.fieldLink RX4 16 "CopyRowsModel" "lengths" "[I"]
def wsX4_mean_r2 : List Cond := [Cond.methodLink RX4 55 yX4_no, Cond.instanceMethod yX4_no, Cond.selects RX4 yX4_no yX4_no, Cond.code yX4_no cX4_no 2 (some .int), Cond.fieldLink RX4 37 "CopyRowsModel" "code" "I", Cond.methodLink RX4 109 yX4_sumOf, Cond.instanceMethod yX4_sumOf, Cond.selects RX4 yX4_sumOf yX4_sumOf, Cond.code yX4_sumOf cX4_sumOf 4 (some .int), Cond.methodLink RX4 82 yX4_get, Cond.instanceMethod yX4_get, Cond.selects RX4 yX4_get yX4_get, Cond.code yX4_get cX4_get 3 (some .int), Cond.fieldLink RX4 19 "CopyRowsModel" "items" "[I", Cond.methodLink RX4 63 yX4_yes, Cond.instanceMethod yX4_yes, Cond.selects RX4 yX4_yes yX4_yes, Cond.code yX4_yes cX4_yes 2 (some .int)]
def wsX4_mean : List Cond := .code yX4_mean cX4_mean 3 (some .int) :: ((wsX4_mean_r1 ++ wsX4_mean_r2) ++ wsX40)
def wsX4_same : List Cond := .code yX4_same cX4_same 3 (some .int) :: ([.constant RX4 54 (-2000000001), .fieldLink RX4 7 "CopyRowsModel" "places" "[I", .methodLink RX4 48 yX4_isPlace, .static yX4_isPlace, .initialized RX4, .code yX4_isPlace cX4_isPlace 1 (some .boolean), .constantLong RX4 31 (11), .methodLink RX4 33 yX4_within, .static yX4_within, .code yX4_within cX4_within 6 (some .boolean)] ++ wsX40)
def wsX4_equal_r1 : List Cond := [Cond.constant RX4 54 (-2000000001), Cond.fieldLink RX4 7 "CopyRowsModel" "places" "[I", Cond.methodLink RX4 48 yX4_isPlace, Cond.static yX4_isPlace, Cond.initialized RX4, Cond.code yX4_isPlace cX4_isPlace 1 (some .boolean), Cond.constantLong RX4 31 (11), Cond.methodLink RX4 33 yX4_within, Cond.static yX4_within, Cond.code yX4_within cX4_within 6 (some .boolean), Cond.methodLink RX4 112 yX4_isRow, Cond.instanceMethod yX4_isRow, Cond.selects RX4 yX4_isRow yX4_isRow, Cond.code yX4_isRow cX4_isRow 2 (some .boolean), Cond.methodLink RX4 66 yX4_kindOf, Cond.instanceMethod yX4_kindOf, Cond.selects RX4 yX4_kindOf yX4_kindOf, Cond.code yX4_kindOf cX4_kindOf 3 (some .int), Cond.fieldLink RX4 13 "CopyRowsModel" "kinds" "[I", Cond.methodLink RX4 75 yX4_lengthOf, Cond.instanceMethod yX4_lengthOf, Cond.selects RX4 yX4_lengthOf yX4_lengthOf, Cond.code yX4_lengthOf cX4_lengthOf 2 (some .int), Cond.fieldLink RX4 16 "CopyRowsModel" "lengths" "[I"]
def wsX4_equal_r2 : List Cond := [Cond.methodLink RX4 82 yX4_get, Cond.instanceMethod yX4_get, Cond.selects RX4 yX4_get yX4_get, Cond.code yX4_get cX4_get 3 (some .int), Cond.fieldLink RX4 19 "CopyRowsModel" "items" "[I"]
def wsX4_equal : List Cond := .code yX4_equal cX4_equal 5 (some .int) :: ((wsX4_equal_r1 ++ wsX4_equal_r2) ++ wsX40)
def wsX4_compare_r1 : List Cond := [Cond.constant RX4 54 (-2000000001), Cond.fieldLink RX4 7 "CopyRowsModel" "places" "[I", Cond.fieldLink RX4 16 "CopyRowsModel" "lengths" "[I", Cond.methodLink RX4 48 yX4_isPlace, Cond.static yX4_isPlace, Cond.initialized RX4, Cond.code yX4_isPlace cX4_isPlace 1 (some .boolean), Cond.constantLong RX4 31 (11), Cond.methodLink RX4 33 yX4_within, Cond.static yX4_within, Cond.code yX4_within cX4_within 6 (some .boolean), Cond.methodLink RX4 55 yX4_no, Cond.instanceMethod yX4_no, Cond.selects RX4 yX4_no yX4_no, Cond.code yX4_no cX4_no 2 (some .int), Cond.fieldLink RX4 37 "CopyRowsModel" "code" "I", Cond.methodLink RX4 66 yX4_kindOf, Cond.instanceMethod yX4_kindOf, Cond.selects RX4 yX4_kindOf yX4_kindOf, Cond.code yX4_kindOf cX4_kindOf 3 (some .int), Cond.fieldLink RX4 13 "CopyRowsModel" "kinds" "[I", Cond.methodLink RX4 82 yX4_get, Cond.instanceMethod yX4_get, Cond.selects RX4 yX4_get yX4_get]
def wsX4_compare_r2 : List Cond := [Cond.code yX4_get cX4_get 3 (some .int), Cond.fieldLink RX4 19 "CopyRowsModel" "items" "[I", Cond.methodLink RX4 63 yX4_yes, Cond.instanceMethod yX4_yes, Cond.selects RX4 yX4_yes yX4_yes, Cond.code yX4_yes cX4_yes 2 (some .int)]
def wsX4_compare : List Cond := .code yX4_compare cX4_compare 6 (some .int) :: ((wsX4_compare_r1 ++ wsX4_compare_r2) ++ wsX40)
def wsX4_held_r1 : List Cond := [Cond.constant RX4 54 (-2000000001), Cond.fieldLink RX4 7 "CopyRowsModel" "places" "[I", Cond.methodLink RX4 48 yX4_isPlace, Cond.static yX4_isPlace, Cond.initialized RX4, Cond.code yX4_isPlace cX4_isPlace 1 (some .boolean), Cond.constantLong RX4 31 (11), Cond.methodLink RX4 33 yX4_within, Cond.static yX4_within, Cond.code yX4_within cX4_within 6 (some .boolean), Cond.methodLink RX4 112 yX4_isRow, Cond.instanceMethod yX4_isRow, Cond.selects RX4 yX4_isRow yX4_isRow, Cond.code yX4_isRow cX4_isRow 2 (some .boolean), Cond.methodLink RX4 66 yX4_kindOf, Cond.instanceMethod yX4_kindOf, Cond.selects RX4 yX4_kindOf yX4_kindOf, Cond.code yX4_kindOf cX4_kindOf 3 (some .int), Cond.fieldLink RX4 13 "CopyRowsModel" "kinds" "[I", Cond.methodLink RX4 75 yX4_lengthOf, Cond.instanceMethod yX4_lengthOf, Cond.selects RX4 yX4_lengthOf yX4_lengthOf, Cond.code yX4_lengthOf cX4_lengthOf 2 (some .int), Cond.fieldLink RX4 16 "CopyRowsModel" "lengths" "[I"]
def wsX4_held_r2 : List Cond := [Cond.methodLink RX4 82 yX4_get, Cond.instanceMethod yX4_get, Cond.selects RX4 yX4_get yX4_get, Cond.code yX4_get cX4_get 3 (some .int), Cond.fieldLink RX4 19 "CopyRowsModel" "items" "[I"]
def wsX4_held : List Cond := .code yX4_held cX4_held 7 (some .int) :: ((wsX4_held_r1 ++ wsX4_held_r2) ++ wsX40)
def wsJ9_max_7cf53 : List Cond := .code yJ9_max_7cf53 cJ9_max_7cf53 2 (some .int) :: ([])
abbrev vwCl : List vw_C := [(RX1, TX1, 4), (RX2, TX2, 2), (RX3, TX3, 2), (RX4, TX4, 11)]
end
section
theorem dJ9_floorMod_7cf53_0 : decode cJ9_floorMod_7cf53 0 = .ok (.iload_n 0, 1) := by decide +kernel
theorem dJ9_floorMod_7cf53_1 : decode cJ9_floorMod_7cf53 1 = .ok (.iload_n 1, 1) := by decide +kernel
theorem dJ9_floorMod_7cf53_2 : decode cJ9_floorMod_7cf53 2 = .ok (.irem, 1) := by decide +kernel
theorem dJ9_floorMod_7cf53_3 : decode cJ9_floorMod_7cf53 3 = .ok (.istore_n 2, 1) := by decide +kernel
theorem dJ9_floorMod_7cf53_4 : decode cJ9_floorMod_7cf53 4 = .ok (.iload_n 0, 1) := by decide +kernel
theorem dJ9_floorMod_7cf53_5 : decode cJ9_floorMod_7cf53 5 = .ok (.iload_n 1, 1) := by decide +kernel
theorem dJ9_floorMod_7cf53_6 : decode cJ9_floorMod_7cf53 6 = .ok (.ixor, 1) := by decide +kernel
theorem dJ9_floorMod_7cf53_7 : decode cJ9_floorMod_7cf53 7 = .ok (.ifCond .ge 11, 3) := by decide +kernel
theorem dJ9_floorMod_7cf53_10 : decode cJ9_floorMod_7cf53 10 = .ok (.iload_n 2, 1) := by decide +kernel
theorem dJ9_floorMod_7cf53_11 : decode cJ9_floorMod_7cf53 11 = .ok (.ifCond .eq 7, 3) := by decide +kernel
theorem dJ9_floorMod_7cf53_14 : decode cJ9_floorMod_7cf53 14 = .ok (.iload_n 2, 1) := by decide +kernel
theorem dJ9_floorMod_7cf53_15 : decode cJ9_floorMod_7cf53 15 = .ok (.iload_n 1, 1) := by decide +kernel
theorem dJ9_floorMod_7cf53_16 : decode cJ9_floorMod_7cf53 16 = .ok (.iadd, 1) := by decide +kernel
theorem dJ9_floorMod_7cf53_17 : decode cJ9_floorMod_7cf53 17 = .ok (.ireturn, 1) := by decide +kernel
theorem dJ9_floorMod_7cf53_18 : decode cJ9_floorMod_7cf53 18 = .ok (.iload_n 2, 1) := by decide +kernel
theorem dJ9_floorMod_7cf53_19 : decode cJ9_floorMod_7cf53 19 = .ok (.ireturn, 1) := by decide +kernel
theorem dJ9_max_7cf53_0 : decode cJ9_max_7cf53 0 = .ok (.iload_n 0, 1) := by decide +kernel
theorem dJ9_max_7cf53_1 : decode cJ9_max_7cf53 1 = .ok (.iload_n 1, 1) := by decide +kernel
theorem dJ9_max_7cf53_2 : decode cJ9_max_7cf53 2 = .ok (.if_icmp .lt 7, 3) := by decide +kernel
theorem dJ9_max_7cf53_5 : decode cJ9_max_7cf53 5 = .ok (.iload_n 0, 1) := by decide +kernel
theorem dJ9_max_7cf53_6 : decode cJ9_max_7cf53 6 = .ok (.goto 4, 3) := by decide +kernel
theorem dJ9_max_7cf53_9 : decode cJ9_max_7cf53 9 = .ok (.iload_n 1, 1) := by decide +kernel
theorem dJ9_max_7cf53_10 : decode cJ9_max_7cf53 10 = .ok (.ireturn, 1) := by decide +kernel
theorem dX0_init_0 : decode cX0_init 0 = .ok (.aload_n 0, 1) := by decide +kernel
theorem dX0_init_1 : decode cX0_init 1 = .ok (.invokespecial 1, 3) := by decide +kernel
theorem dX0_init_4 : decode cX0_init 4 = .ok (.return_, 1) := by decide +kernel
set_option maxRecDepth 20000 in
theorem ggX1_init_X0_init : GoodIn wsX1_init wsX0_init := goodIn_r _ [9, 10, 11, 12] (by decide +kernel) (by decide +kernel)
set_option maxRecDepth 20000 in
theorem gX1_init_X0_init_n3 : GoodIn wsX1_init (wsX0_init) := ggX1_init_X0_init
theorem dX1_init_0 : decode cX1_init 0 = .ok (.aload_n 0, 1) := by decide +kernel
theorem dX1_init_1 : decode cX1_init 1 = .ok (.invokespecial 3, 3) := by decide +kernel
theorem dX1_init_4 : decode cX1_init 4 = .ok (.iload_n 1, 1) := by decide +kernel
theorem dX1_init_5 : decode cX1_init 5 = .ok (.ifCond .eq 8, 3) := by decide +kernel
theorem dX1_init_8 : decode cX1_init 8 = .ok (.iload_n 1, 1) := by decide +kernel
theorem dX1_init_9 : decode cX1_init 9 = .ok (.iconst 1, 1) := by decide +kernel
theorem dX1_init_10 : decode cX1_init 10 = .ok (.if_icmp .ne 7, 3) := by decide +kernel
theorem dX1_init_13 : decode cX1_init 13 = .ok (.iconst 1, 1) := by decide +kernel
theorem dX1_init_14 : decode cX1_init 14 = .ok (.goto 4, 3) := by decide +kernel
theorem dX1_init_17 : decode cX1_init 17 = .ok (.iconst 0, 1) := by decide +kernel
theorem dX1_init_18 : decode cX1_init 18 = .ok (.istore_n 3, 1) := by decide +kernel
theorem dX1_init_19 : decode cX1_init 19 = .ok (.aload_n 0, 1) := by decide +kernel
theorem dX1_init_20 : decode cX1_init 20 = .ok (.iload_n 1, 1) := by decide +kernel
theorem dX1_init_21 : decode cX1_init 21 = .ok (.putfield 9, 3) := by decide +kernel
theorem dX1_init_24 : decode cX1_init 24 = .ok (.aload_n 0, 1) := by decide +kernel
theorem dX1_init_25 : decode cX1_init 25 = .ok (.iload_n 2, 1) := by decide +kernel
theorem dX1_init_26 : decode cX1_init 26 = .ok (.putfield 15, 3) := by decide +kernel
theorem dX1_init_29 : decode cX1_init 29 = .ok (.aload_n 0, 1) := by decide +kernel
theorem dX1_init_30 : decode cX1_init 30 = .ok (.iload_n 3, 1) := by decide +kernel
theorem dX1_init_31 : decode cX1_init 31 = .ok (.ifCond .eq 7, 3) := by decide +kernel
theorem dX1_init_34 : decode cX1_init 34 = .ok (.iload_n 2, 1) := by decide +kernel
theorem dX1_init_35 : decode cX1_init 35 = .ok (.goto 4, 3) := by decide +kernel
theorem dX1_init_38 : decode cX1_init 38 = .ok (.iconst 0, 1) := by decide +kernel
theorem dX1_init_39 : decode cX1_init 39 = .ok (.newarray .int, 2) := by decide +kernel
theorem dX1_init_41 : decode cX1_init 41 = .ok (.putfield 18, 3) := by decide +kernel
theorem dX1_init_44 : decode cX1_init 44 = .ok (.aload_n 0, 1) := by decide +kernel
theorem dX1_init_45 : decode cX1_init 45 = .ok (.iload_n 3, 1) := by decide +kernel
theorem dX1_init_46 : decode cX1_init 46 = .ok (.ifCond .eq 7, 3) := by decide +kernel
theorem dX1_init_49 : decode cX1_init 49 = .ok (.iconst 0, 1) := by decide +kernel
theorem dX1_init_50 : decode cX1_init 50 = .ok (.goto 4, 3) := by decide +kernel
theorem dX1_init_53 : decode cX1_init 53 = .ok (.iload_n 2, 1) := by decide +kernel
theorem dX1_init_54 : decode cX1_init 54 = .ok (.anewarray 4, 3) := by decide +kernel
theorem dX1_init_57 : decode cX1_init 57 = .ok (.putfield 22, 3) := by decide +kernel
theorem dX1_init_60 : decode cX1_init 60 = .ok (.return_, 1) := by decide +kernel
theorem dX1_fitsInto_0 : decode cX1_fitsInto 0 = .ok (.iload_n 1, 1) := by decide +kernel
theorem dX1_fitsInto_1 : decode cX1_fitsInto 1 = .ok (.iconst 2, 1) := by decide +kernel
theorem dX1_fitsInto_2 : decode cX1_fitsInto 2 = .ok (.if_icmp .ne 7, 3) := by decide +kernel
theorem dX1_fitsInto_5 : decode cX1_fitsInto 5 = .ok (.iconst 1, 1) := by decide +kernel
theorem dX1_fitsInto_6 : decode cX1_fitsInto 6 = .ok (.goto 4, 3) := by decide +kernel
theorem dX1_fitsInto_9 : decode cX1_fitsInto 9 = .ok (.iconst 0, 1) := by decide +kernel
theorem dX1_fitsInto_10 : decode cX1_fitsInto 10 = .ok (.ireturn, 1) := by decide +kernel
theorem dX1_shown_0 : decode cX1_shown 0 = .ok (.aload_n 0, 1) := by decide +kernel
theorem dX1_shown_1 : decode cX1_shown 1 = .ok (.getfield 15, 3) := by decide +kernel
theorem dX1_shown_4 : decode cX1_shown 4 = .ok (.ireturn, 1) := by decide +kernel
theorem dX1_isOfNumbers_0 : decode cX1_isOfNumbers 0 = .ok (.aload_n 0, 1) := by decide +kernel
theorem dX1_isOfNumbers_1 : decode cX1_isOfNumbers 1 = .ok (.getfield 9, 3) := by decide +kernel
theorem dX1_isOfNumbers_4 : decode cX1_isOfNumbers 4 = .ok (.ifCond .eq 11, 3) := by decide +kernel
theorem dX1_isOfNumbers_7 : decode cX1_isOfNumbers 7 = .ok (.aload_n 0, 1) := by decide +kernel
theorem dX1_isOfNumbers_8 : decode cX1_isOfNumbers 8 = .ok (.getfield 9, 3) := by decide +kernel
theorem dX1_isOfNumbers_11 : decode cX1_isOfNumbers 11 = .ok (.iconst 1, 1) := by decide +kernel
theorem dX1_isOfNumbers_12 : decode cX1_isOfNumbers 12 = .ok (.if_icmp .ne 7, 3) := by decide +kernel
theorem dX1_isOfNumbers_15 : decode cX1_isOfNumbers 15 = .ok (.iconst 1, 1) := by decide +kernel
theorem dX1_isOfNumbers_16 : decode cX1_isOfNumbers 16 = .ok (.goto 4, 3) := by decide +kernel
theorem dX1_isOfNumbers_19 : decode cX1_isOfNumbers 19 = .ok (.iconst 0, 1) := by decide +kernel
theorem dX1_isOfNumbers_20 : decode cX1_isOfNumbers 20 = .ok (.ireturn, 1) := by decide +kernel
theorem dX1_has_0 : decode cX1_has 0 = .ok (.iload_n 1, 1) := by decide +kernel
theorem dX1_has_1 : decode cX1_has 1 = .ok (.ifCond .lt 15, 3) := by decide +kernel
theorem dX1_has_4 : decode cX1_has 4 = .ok (.iload_n 1, 1) := by decide +kernel
theorem dX1_has_5 : decode cX1_has 5 = .ok (.aload_n 0, 1) := by decide +kernel
theorem dX1_has_6 : decode cX1_has 6 = .ok (.getfield 15, 3) := by decide +kernel
theorem dX1_has_9 : decode cX1_has 9 = .ok (.if_icmp .ge 7, 3) := by decide +kernel
theorem dX1_has_12 : decode cX1_has 12 = .ok (.iconst 1, 1) := by decide +kernel
theorem dX1_has_13 : decode cX1_has 13 = .ok (.goto 4, 3) := by decide +kernel
theorem dX1_has_16 : decode cX1_has 16 = .ok (.iconst 0, 1) := by decide +kernel
theorem dX1_has_17 : decode cX1_has 17 = .ok (.ireturn, 1) := by decide +kernel
theorem dX1_hasRange_0 : decode cX1_hasRange 0 = .ok (.iload_n 1, 1) := by decide +kernel
theorem dX1_hasRange_1 : decode cX1_hasRange 1 = .ok (.ifCond .lt 29, 3) := by decide +kernel
theorem dX1_hasRange_4 : decode cX1_hasRange 4 = .ok (.iload_n 2, 1) := by decide +kernel
theorem dX1_hasRange_5 : decode cX1_hasRange 5 = .ok (.ifCond .lt 25, 3) := by decide +kernel
theorem dX1_hasRange_8 : decode cX1_hasRange 8 = .ok (.iload_n 1, 1) := by decide +kernel
theorem dX1_hasRange_9 : decode cX1_hasRange 9 = .ok (.aload_n 0, 1) := by decide +kernel
theorem dX1_hasRange_10 : decode cX1_hasRange 10 = .ok (.getfield 15, 3) := by decide +kernel
theorem dX1_hasRange_13 : decode cX1_hasRange 13 = .ok (.if_icmp .gt 17, 3) := by decide +kernel
theorem dX1_hasRange_16 : decode cX1_hasRange 16 = .ok (.iload_n 2, 1) := by decide +kernel
theorem dX1_hasRange_17 : decode cX1_hasRange 17 = .ok (.aload_n 0, 1) := by decide +kernel
theorem dX1_hasRange_18 : decode cX1_hasRange 18 = .ok (.getfield 15, 3) := by decide +kernel
theorem dX1_hasRange_21 : decode cX1_hasRange 21 = .ok (.iload_n 1, 1) := by decide +kernel
theorem dX1_hasRange_22 : decode cX1_hasRange 22 = .ok (.isub, 1) := by decide +kernel
theorem dX1_hasRange_23 : decode cX1_hasRange 23 = .ok (.if_icmp .gt 7, 3) := by decide +kernel
theorem dX1_hasRange_26 : decode cX1_hasRange 26 = .ok (.iconst 1, 1) := by decide +kernel
theorem dX1_hasRange_27 : decode cX1_hasRange 27 = .ok (.goto 4, 3) := by decide +kernel
theorem dX1_hasRange_30 : decode cX1_hasRange 30 = .ok (.iconst 0, 1) := by decide +kernel
theorem dX1_hasRange_31 : decode cX1_hasRange 31 = .ok (.ireturn, 1) := by decide +kernel
set_option maxRecDepth 20000 in
theorem ggX1_takes_X1_fitsInto : GoodIn wsX1_takes wsX1_fitsInto := goodIn_r _ [7] (by decide +kernel) (by decide +kernel)
set_option maxRecDepth 20000 in
theorem gX1_takes_X1_fitsInto_u26X1 : GoodIn wsX1_takes (va_wsU RX1 26 RX1 "CopyRows$Part" ⟨"CopyRows$Part", "fitsInto", "(I)Z"⟩ yX1_fitsInto wsX1_fitsInto) := goodIn_app (goodIn_of _ (by decide +kernel)) ggX1_takes_X1_fitsInto
set_option maxRecDepth 20000 in
theorem ggX1_takes_X2_fitsInto : GoodIn wsX1_takes wsX2_fitsInto := goodIn_r _ [11, 12, 17, 18] (by decide +kernel) (by decide +kernel)
set_option maxRecDepth 20000 in
theorem gX1_takes_X2_fitsInto_u26X2 : GoodIn wsX1_takes (va_wsU RX1 26 RX2 "CopyRows$Part" ⟨"CopyRows$Part", "fitsInto", "(I)Z"⟩ yX2_fitsInto wsX2_fitsInto) := goodIn_app (goodIn_of _ (by decide +kernel)) ggX1_takes_X2_fitsInto
theorem dX1_takes_0 : decode cX1_takes 0 = .ok (.aload_n 1, 1) := by decide +kernel
theorem dX1_takes_1 : decode cX1_takes 1 = .ok (.ifnull 14, 3) := by decide +kernel
theorem dX1_takes_4 : decode cX1_takes 4 = .ok (.aload_n 1, 1) := by decide +kernel
theorem dX1_takes_5 : decode cX1_takes 5 = .ok (.aload_n 0, 1) := by decide +kernel
theorem dX1_takes_6 : decode cX1_takes 6 = .ok (.getfield 9, 3) := by decide +kernel
theorem dX1_takes_9 : decode cX1_takes 9 = .ok (.invokevirtual 26, 3) := by decide +kernel
theorem dX1_takes_12 : decode cX1_takes 12 = .ok (.ifCond .eq 7, 3) := by decide +kernel
theorem dX1_takes_15 : decode cX1_takes 15 = .ok (.iconst 1, 1) := by decide +kernel
theorem dX1_takes_16 : decode cX1_takes 16 = .ok (.goto 4, 3) := by decide +kernel
theorem dX1_takes_19 : decode cX1_takes 19 = .ok (.iconst 0, 1) := by decide +kernel
theorem dX1_takes_20 : decode cX1_takes 20 = .ok (.ireturn, 1) := by decide +kernel
set_option maxRecDepth 20000 in
theorem ggX1_mayTakeOf_X1_isOfNumbers : GoodIn wsX1_mayTakeOf wsX1_isOfNumbers := goodIn_r _ [6, 1, 7, 8, 9, 10] (by decide +kernel) (by decide +kernel)
set_option maxRecDepth 20000 in
theorem gX1_mayTakeOf_X1_isOfNumbers : GoodIn wsX1_mayTakeOf (wsV RX1 30 RX1 yX1_isOfNumbers wsX1_isOfNumbers) := goodIn_app (goodIn_of _ (by decide +kernel)) ggX1_mayTakeOf_X1_isOfNumbers
theorem dX1_mayTakeOf_0 : decode cX1_mayTakeOf 0 = .ok (.aload_n 0, 1) := by decide +kernel
theorem dX1_mayTakeOf_1 : decode cX1_mayTakeOf 1 = .ok (.getfield 9, 3) := by decide +kernel
theorem dX1_mayTakeOf_4 : decode cX1_mayTakeOf 4 = .ok (.bipush 6, 2) := by decide +kernel
theorem dX1_mayTakeOf_6 : decode cX1_mayTakeOf 6 = .ok (.if_icmp .eq 12, 3) := by decide +kernel
theorem dX1_mayTakeOf_9 : decode cX1_mayTakeOf 9 = .ok (.aload_n 1, 1) := by decide +kernel
theorem dX1_mayTakeOf_10 : decode cX1_mayTakeOf 10 = .ok (.getfield 9, 3) := by decide +kernel
theorem dX1_mayTakeOf_13 : decode cX1_mayTakeOf 13 = .ok (.bipush 6, 2) := by decide +kernel
theorem dX1_mayTakeOf_15 : decode cX1_mayTakeOf 15 = .ok (.if_icmp .ne 5, 3) := by decide +kernel
theorem dX1_mayTakeOf_18 : decode cX1_mayTakeOf 18 = .ok (.iconst 0, 1) := by decide +kernel
theorem dX1_mayTakeOf_19 : decode cX1_mayTakeOf 19 = .ok (.ireturn, 1) := by decide +kernel
theorem dX1_mayTakeOf_20 : decode cX1_mayTakeOf 20 = .ok (.aload_n 0, 1) := by decide +kernel
theorem dX1_mayTakeOf_21 : decode cX1_mayTakeOf 21 = .ok (.getfield 9, 3) := by decide +kernel
theorem dX1_mayTakeOf_24 : decode cX1_mayTakeOf 24 = .ok (.aload_n 1, 1) := by decide +kernel
theorem dX1_mayTakeOf_25 : decode cX1_mayTakeOf 25 = .ok (.getfield 9, 3) := by decide +kernel
theorem dX1_mayTakeOf_28 : decode cX1_mayTakeOf 28 = .ok (.if_icmp .eq 17, 3) := by decide +kernel
theorem dX1_mayTakeOf_31 : decode cX1_mayTakeOf 31 = .ok (.aload_n 0, 1) := by decide +kernel
theorem dX1_mayTakeOf_32 : decode cX1_mayTakeOf 32 = .ok (.invokevirtual 30, 3) := by decide +kernel
theorem dX1_mayTakeOf_35 : decode cX1_mayTakeOf 35 = .ok (.ifCond .ne 14, 3) := by decide +kernel
theorem dX1_mayTakeOf_38 : decode cX1_mayTakeOf 38 = .ok (.aload_n 1, 1) := by decide +kernel
theorem dX1_mayTakeOf_39 : decode cX1_mayTakeOf 39 = .ok (.invokevirtual 30, 3) := by decide +kernel
theorem dX1_mayTakeOf_42 : decode cX1_mayTakeOf 42 = .ok (.ifCond .ne 7, 3) := by decide +kernel
theorem dX1_mayTakeOf_45 : decode cX1_mayTakeOf 45 = .ok (.iconst 1, 1) := by decide +kernel
theorem dX1_mayTakeOf_46 : decode cX1_mayTakeOf 46 = .ok (.goto 4, 3) := by decide +kernel
theorem dX1_mayTakeOf_49 : decode cX1_mayTakeOf 49 = .ok (.iconst 0, 1) := by decide +kernel
theorem dX1_mayTakeOf_50 : decode cX1_mayTakeOf 50 = .ok (.ireturn, 1) := by decide +kernel
set_option maxRecDepth 20000 in
theorem ggX1_countTaken_X1_isOfNumbers : GoodIn wsX1_countTaken wsX1_isOfNumbers := goodIn_r _ [6, 7, 22, 23, 24, 25] (by decide +kernel) (by decide +kernel)
set_option maxRecDepth 20000 in
theorem gX1_countTaken_X1_isOfNumbers : GoodIn wsX1_countTaken (wsV RX1 30 RX1 yX1_isOfNumbers wsX1_isOfNumbers) := goodIn_app (goodIn_of _ (by decide +kernel)) ggX1_countTaken_X1_isOfNumbers
set_option maxRecDepth 20000 in
theorem ggX1_countTaken_X1_takes : GoodIn wsX1_countTaken wsX1_takes := goodIn_r _ [11, 7, 12, 13, 14, 15, 5, 16, 17, 18, 19, 20, 21, 22, 23, 24, 25, 26, 27] (by decide +kernel) (by decide +kernel)
set_option maxRecDepth 20000 in
theorem gX1_countTaken_X1_takes : GoodIn wsX1_countTaken (wsV RX1 34 RX1 yX1_takes wsX1_takes) := goodIn_app (goodIn_of _ (by decide +kernel)) ggX1_countTaken_X1_takes
theorem dX1_countTaken_0 : decode cX1_countTaken 0 = .ok (.aload_n 0, 1) := by decide +kernel
theorem dX1_countTaken_1 : decode cX1_countTaken 1 = .ok (.invokevirtual 30, 3) := by decide +kernel
theorem dX1_countTaken_4 : decode cX1_countTaken 4 = .ok (.ifCond .eq 5, 3) := by decide +kernel
theorem dX1_countTaken_7 : decode cX1_countTaken 7 = .ok (.iload_n 3, 1) := by decide +kernel
theorem dX1_countTaken_8 : decode cX1_countTaken 8 = .ok (.ireturn, 1) := by decide +kernel
theorem dX1_countTaken_9 : decode cX1_countTaken 9 = .ok (.iconst 0, 1) := by decide +kernel
theorem dX1_countTaken_10 : decode cX1_countTaken 10 = .ok (.istore 4, 2) := by decide +kernel
theorem dX1_countTaken_12 : decode cX1_countTaken 12 = .ok (.iload 4, 2) := by decide +kernel
theorem dX1_countTaken_14 : decode cX1_countTaken 14 = .ok (.iload_n 3, 1) := by decide +kernel
theorem dX1_countTaken_15 : decode cX1_countTaken 15 = .ok (.if_icmp .ge 28, 3) := by decide +kernel
theorem dX1_countTaken_18 : decode cX1_countTaken 18 = .ok (.aload_n 0, 1) := by decide +kernel
theorem dX1_countTaken_19 : decode cX1_countTaken 19 = .ok (.aload_n 1, 1) := by decide +kernel
theorem dX1_countTaken_20 : decode cX1_countTaken 20 = .ok (.getfield 22, 3) := by decide +kernel
theorem dX1_countTaken_23 : decode cX1_countTaken 23 = .ok (.iload_n 2, 1) := by decide +kernel
theorem dX1_countTaken_24 : decode cX1_countTaken 24 = .ok (.iload 4, 2) := by decide +kernel
theorem dX1_countTaken_26 : decode cX1_countTaken 26 = .ok (.iadd, 1) := by decide +kernel
theorem dX1_countTaken_27 : decode cX1_countTaken 27 = .ok (.aaload, 1) := by decide +kernel
theorem dX1_countTaken_28 : decode cX1_countTaken 28 = .ok (.invokevirtual 34, 3) := by decide +kernel
theorem dX1_countTaken_31 : decode cX1_countTaken 31 = .ok (.ifCond .ne 6, 3) := by decide +kernel
theorem dX1_countTaken_34 : decode cX1_countTaken 34 = .ok (.iload 4, 2) := by decide +kernel
theorem dX1_countTaken_36 : decode cX1_countTaken 36 = .ok (.ireturn, 1) := by decide +kernel
theorem dX1_countTaken_37 : decode cX1_countTaken 37 = .ok (.iinc 4 1, 3) := by decide +kernel
theorem dX1_countTaken_40 : decode cX1_countTaken 40 = .ok (.goto (-28), 3) := by decide +kernel
theorem dX1_countTaken_43 : decode cX1_countTaken 43 = .ok (.iload_n 3, 1) := by decide +kernel
theorem dX1_countTaken_44 : decode cX1_countTaken 44 = .ok (.ireturn, 1) := by decide +kernel
set_option maxRecDepth 20000 in
theorem ggX1_take_X1_isOfNumbers : GoodIn wsX1_take wsX1_isOfNumbers := goodIn_r _ [11, 12, 13, 14, 15, 16] (by decide +kernel) (by decide +kernel)
set_option maxRecDepth 20000 in
theorem gX1_take_X1_isOfNumbers : GoodIn wsX1_take (wsV RX1 30 RX1 yX1_isOfNumbers wsX1_isOfNumbers) := goodIn_app (goodIn_of _ (by decide +kernel)) ggX1_take_X1_isOfNumbers
theorem dX1_take_0 : decode cX1_take 0 = .ok (.aload_n 0, 1) := by decide +kernel
theorem dX1_take_1 : decode cX1_take 1 = .ok (.invokevirtual 30, 3) := by decide +kernel
theorem dX1_take_4 : decode cX1_take 4 = .ok (.ifCond .eq 21, 3) := by decide +kernel
theorem dX1_take_7 : decode cX1_take 7 = .ok (.aload_n 1, 1) := by decide +kernel
theorem dX1_take_8 : decode cX1_take 8 = .ok (.getfield 18, 3) := by decide +kernel
theorem dX1_take_11 : decode cX1_take 11 = .ok (.iload_n 2, 1) := by decide +kernel
theorem dX1_take_12 : decode cX1_take 12 = .ok (.aload_n 0, 1) := by decide +kernel
theorem dX1_take_13 : decode cX1_take 13 = .ok (.getfield 18, 3) := by decide +kernel
theorem dX1_take_16 : decode cX1_take 16 = .ok (.iload_n 3, 1) := by decide +kernel
theorem dX1_take_17 : decode cX1_take 17 = .ok (.iload 4, 2) := by decide +kernel
theorem dX1_take_19 : decode cX1_take 19 = .ok (.invokestatic 38, 3) := by decide +kernel
theorem dX1_take_22 : decode cX1_take 22 = .ok (.goto 18, 3) := by decide +kernel
theorem dX1_take_25 : decode cX1_take 25 = .ok (.aload_n 1, 1) := by decide +kernel
theorem dX1_take_26 : decode cX1_take 26 = .ok (.getfield 22, 3) := by decide +kernel
theorem dX1_take_29 : decode cX1_take 29 = .ok (.iload_n 2, 1) := by decide +kernel
theorem dX1_take_30 : decode cX1_take 30 = .ok (.aload_n 0, 1) := by decide +kernel
theorem dX1_take_31 : decode cX1_take 31 = .ok (.getfield 22, 3) := by decide +kernel
theorem dX1_take_34 : decode cX1_take 34 = .ok (.iload_n 3, 1) := by decide +kernel
theorem dX1_take_35 : decode cX1_take 35 = .ok (.iload 4, 2) := by decide +kernel
theorem dX1_take_37 : decode cX1_take 37 = .ok (.invokestatic 38, 3) := by decide +kernel
theorem dX1_take_40 : decode cX1_take 40 = .ok (.return_, 1) := by decide +kernel
set_option maxRecDepth 20000 in
theorem ggX1_cut_X1_init : GoodIn wsX1_cut wsX1_init := goodIn_r _ [7, 4, 8, 9, 10, 11, 12, 13, 14, 15, 16, 17, 18, 31, 32, 33, 34] (by decide +kernel) (by decide +kernel)
set_option maxRecDepth 20000 in
theorem gX1_cut_X1_init : GoodIn wsX1_cut (wsX1_init) := ggX1_cut_X1_init
set_option maxRecDepth 20000 in
theorem ggX1_cut_X1_take : GoodIn wsX1_cut wsX1_take := goodIn_r _ [22, 10, 23, 24, 25, 26, 12, 27, 28, 29, 3, 30, 4, 31, 32, 33, 34] (by decide +kernel) (by decide +kernel)
set_option maxRecDepth 20000 in
theorem gX1_cut_X1_take : GoodIn wsX1_cut (wsV RX1 47 RX1 yX1_take wsX1_take) := goodIn_app (goodIn_of _ (by decide +kernel)) ggX1_cut_X1_take
theorem dX1_cut_0 : decode cX1_cut 0 = .ok (.new 10, 3) := by decide +kernel
theorem dX1_cut_3 : decode cX1_cut 3 = .ok (.dup, 1) := by decide +kernel
theorem dX1_cut_4 : decode cX1_cut 4 = .ok (.aload_n 0, 1) := by decide +kernel
theorem dX1_cut_5 : decode cX1_cut 5 = .ok (.getfield 9, 3) := by decide +kernel
theorem dX1_cut_8 : decode cX1_cut 8 = .ok (.iload_n 2, 1) := by decide +kernel
theorem dX1_cut_9 : decode cX1_cut 9 = .ok (.invokespecial 44, 3) := by decide +kernel
theorem dX1_cut_12 : decode cX1_cut 12 = .ok (.astore_n 3, 1) := by decide +kernel
theorem dX1_cut_13 : decode cX1_cut 13 = .ok (.aload_n 3, 1) := by decide +kernel
theorem dX1_cut_14 : decode cX1_cut 14 = .ok (.aload_n 0, 1) := by decide +kernel
theorem dX1_cut_15 : decode cX1_cut 15 = .ok (.iload_n 1, 1) := by decide +kernel
theorem dX1_cut_16 : decode cX1_cut 16 = .ok (.iconst 0, 1) := by decide +kernel
theorem dX1_cut_17 : decode cX1_cut 17 = .ok (.iload_n 2, 1) := by decide +kernel
theorem dX1_cut_18 : decode cX1_cut 18 = .ok (.invokevirtual 47, 3) := by decide +kernel
theorem dX1_cut_21 : decode cX1_cut 21 = .ok (.aload_n 3, 1) := by decide +kernel
theorem dX1_cut_22 : decode cX1_cut 22 = .ok (.areturn, 1) := by decide +kernel
theorem dX1_total_0 : decode cX1_total 0 = .ok (.iconst 0, 1) := by decide +kernel
theorem dX1_total_1 : decode cX1_total 1 = .ok (.istore_n 1, 1) := by decide +kernel
theorem dX1_total_2 : decode cX1_total 2 = .ok (.iconst 0, 1) := by decide +kernel
theorem dX1_total_3 : decode cX1_total 3 = .ok (.istore_n 2, 1) := by decide +kernel
theorem dX1_total_4 : decode cX1_total 4 = .ok (.iload_n 2, 1) := by decide +kernel
theorem dX1_total_5 : decode cX1_total 5 = .ok (.aload_n 0, 1) := by decide +kernel
theorem dX1_total_6 : decode cX1_total 6 = .ok (.getfield 18, 3) := by decide +kernel
theorem dX1_total_9 : decode cX1_total 9 = .ok (.arraylength, 1) := by decide +kernel
theorem dX1_total_10 : decode cX1_total 10 = .ok (.if_icmp .ge 18, 3) := by decide +kernel
theorem dX1_total_13 : decode cX1_total 13 = .ok (.iload_n 1, 1) := by decide +kernel
theorem dX1_total_14 : decode cX1_total 14 = .ok (.aload_n 0, 1) := by decide +kernel
theorem dX1_total_15 : decode cX1_total 15 = .ok (.getfield 18, 3) := by decide +kernel
theorem dX1_total_18 : decode cX1_total 18 = .ok (.iload_n 2, 1) := by decide +kernel
theorem dX1_total_19 : decode cX1_total 19 = .ok (.iaload, 1) := by decide +kernel
theorem dX1_total_20 : decode cX1_total 20 = .ok (.iadd, 1) := by decide +kernel
theorem dX1_total_21 : decode cX1_total 21 = .ok (.istore_n 1, 1) := by decide +kernel
theorem dX1_total_22 : decode cX1_total 22 = .ok (.iinc 2 1, 3) := by decide +kernel
theorem dX1_total_25 : decode cX1_total 25 = .ok (.goto (-21), 3) := by decide +kernel
theorem dX1_total_28 : decode cX1_total 28 = .ok (.iload_n 1, 1) := by decide +kernel
theorem dX1_total_29 : decode cX1_total 29 = .ok (.ireturn, 1) := by decide +kernel
set_option maxRecDepth 20000 in
theorem ggX1_isLike_X1_isOfNumbers : GoodIn wsX1_isLike wsX1_isOfNumbers := goodIn_r _ [9, 1, 10, 11, 12, 13] (by decide +kernel) (by decide +kernel)
set_option maxRecDepth 20000 in
theorem gX1_isLike_X1_isOfNumbers : GoodIn wsX1_isLike (wsV RX1 30 RX1 yX1_isOfNumbers wsX1_isOfNumbers) := goodIn_app (goodIn_of _ (by decide +kernel)) ggX1_isLike_X1_isOfNumbers
theorem dX1_isLike_0 : decode cX1_isLike 0 = .ok (.aload_n 0, 1) := by decide +kernel
theorem dX1_isLike_1 : decode cX1_isLike 1 = .ok (.getfield 9, 3) := by decide +kernel
theorem dX1_isLike_4 : decode cX1_isLike 4 = .ok (.aload_n 1, 1) := by decide +kernel
theorem dX1_isLike_5 : decode cX1_isLike 5 = .ok (.getfield 9, 3) := by decide +kernel
theorem dX1_isLike_8 : decode cX1_isLike 8 = .ok (.if_icmp .ne 14, 3) := by decide +kernel
theorem dX1_isLike_11 : decode cX1_isLike 11 = .ok (.aload_n 0, 1) := by decide +kernel
theorem dX1_isLike_12 : decode cX1_isLike 12 = .ok (.getfield 15, 3) := by decide +kernel
theorem dX1_isLike_15 : decode cX1_isLike 15 = .ok (.aload_n 1, 1) := by decide +kernel
theorem dX1_isLike_16 : decode cX1_isLike 16 = .ok (.getfield 15, 3) := by decide +kernel
theorem dX1_isLike_19 : decode cX1_isLike 19 = .ok (.if_icmp .eq 5, 3) := by decide +kernel
theorem dX1_isLike_22 : decode cX1_isLike 22 = .ok (.iconst 0, 1) := by decide +kernel
theorem dX1_isLike_23 : decode cX1_isLike 23 = .ok (.ireturn, 1) := by decide +kernel
theorem dX1_isLike_24 : decode cX1_isLike 24 = .ok (.iconst 0, 1) := by decide +kernel
theorem dX1_isLike_25 : decode cX1_isLike 25 = .ok (.istore_n 2, 1) := by decide +kernel
theorem dX1_isLike_26 : decode cX1_isLike 26 = .ok (.iload_n 2, 1) := by decide +kernel
theorem dX1_isLike_27 : decode cX1_isLike 27 = .ok (.aload_n 0, 1) := by decide +kernel
theorem dX1_isLike_28 : decode cX1_isLike 28 = .ok (.getfield 15, 3) := by decide +kernel
theorem dX1_isLike_31 : decode cX1_isLike 31 = .ok (.if_icmp .ge 66, 3) := by decide +kernel
theorem dX1_isLike_34 : decode cX1_isLike 34 = .ok (.aload_n 0, 1) := by decide +kernel
theorem dX1_isLike_35 : decode cX1_isLike 35 = .ok (.invokevirtual 30, 3) := by decide +kernel
theorem dX1_isLike_38 : decode cX1_isLike 38 = .ok (.ifCond .eq 26, 3) := by decide +kernel
theorem dX1_isLike_41 : decode cX1_isLike 41 = .ok (.aload_n 0, 1) := by decide +kernel
theorem dX1_isLike_42 : decode cX1_isLike 42 = .ok (.getfield 18, 3) := by decide +kernel
theorem dX1_isLike_45 : decode cX1_isLike 45 = .ok (.iload_n 2, 1) := by decide +kernel
theorem dX1_isLike_46 : decode cX1_isLike 46 = .ok (.iaload, 1) := by decide +kernel
theorem dX1_isLike_47 : decode cX1_isLike 47 = .ok (.aload_n 1, 1) := by decide +kernel
theorem dX1_isLike_48 : decode cX1_isLike 48 = .ok (.getfield 18, 3) := by decide +kernel
theorem dX1_isLike_51 : decode cX1_isLike 51 = .ok (.iload_n 2, 1) := by decide +kernel
theorem dX1_isLike_52 : decode cX1_isLike 52 = .ok (.iaload, 1) := by decide +kernel
theorem dX1_isLike_53 : decode cX1_isLike 53 = .ok (.if_icmp .eq 7, 3) := by decide +kernel
theorem dX1_isLike_56 : decode cX1_isLike 56 = .ok (.iconst 1, 1) := by decide +kernel
theorem dX1_isLike_57 : decode cX1_isLike 57 = .ok (.goto 27, 3) := by decide +kernel
theorem dX1_isLike_60 : decode cX1_isLike 60 = .ok (.iconst 0, 1) := by decide +kernel
theorem dX1_isLike_61 : decode cX1_isLike 61 = .ok (.goto 23, 3) := by decide +kernel
theorem dX1_isLike_64 : decode cX1_isLike 64 = .ok (.aload_n 0, 1) := by decide +kernel
theorem dX1_isLike_65 : decode cX1_isLike 65 = .ok (.getfield 22, 3) := by decide +kernel
theorem dX1_isLike_68 : decode cX1_isLike 68 = .ok (.iload_n 2, 1) := by decide +kernel
theorem dX1_isLike_69 : decode cX1_isLike 69 = .ok (.aaload, 1) := by decide +kernel
theorem dX1_isLike_70 : decode cX1_isLike 70 = .ok (.aload_n 1, 1) := by decide +kernel
theorem dX1_isLike_71 : decode cX1_isLike 71 = .ok (.getfield 22, 3) := by decide +kernel
theorem dX1_isLike_74 : decode cX1_isLike 74 = .ok (.iload_n 2, 1) := by decide +kernel
theorem dX1_isLike_75 : decode cX1_isLike 75 = .ok (.aaload, 1) := by decide +kernel
theorem dX1_isLike_76 : decode cX1_isLike 76 = .ok (.if_acmp .eq 7, 3) := by decide +kernel
theorem dX1_isLike_79 : decode cX1_isLike 79 = .ok (.iconst 1, 1) := by decide +kernel
theorem dX1_isLike_80 : decode cX1_isLike 80 = .ok (.goto 4, 3) := by decide +kernel
theorem dX1_isLike_83 : decode cX1_isLike 83 = .ok (.iconst 0, 1) := by decide +kernel
theorem dX1_isLike_84 : decode cX1_isLike 84 = .ok (.istore_n 3, 1) := by decide +kernel
theorem dX1_isLike_85 : decode cX1_isLike 85 = .ok (.iload_n 3, 1) := by decide +kernel
theorem dX1_isLike_86 : decode cX1_isLike 86 = .ok (.ifCond .eq 5, 3) := by decide +kernel
theorem dX1_isLike_89 : decode cX1_isLike 89 = .ok (.iconst 0, 1) := by decide +kernel
theorem dX1_isLike_90 : decode cX1_isLike 90 = .ok (.ireturn, 1) := by decide +kernel
theorem dX1_isLike_91 : decode cX1_isLike 91 = .ok (.iinc 2 1, 3) := by decide +kernel
theorem dX1_isLike_94 : decode cX1_isLike 94 = .ok (.goto (-68), 3) := by decide +kernel
theorem dX1_isLike_97 : decode cX1_isLike 97 = .ok (.iconst 1, 1) := by decide +kernel
theorem dX1_isLike_98 : decode cX1_isLike 98 = .ok (.ireturn, 1) := by decide +kernel
theorem dX1_order_0 : decode cX1_order 0 = .ok (.iconst 0, 1) := by decide +kernel
theorem dX1_order_1 : decode cX1_order 1 = .ok (.istore_n 2, 1) := by decide +kernel
theorem dX1_order_2 : decode cX1_order 2 = .ok (.iload_n 2, 1) := by decide +kernel
theorem dX1_order_3 : decode cX1_order 3 = .ok (.aload_n 0, 1) := by decide +kernel
theorem dX1_order_4 : decode cX1_order 4 = .ok (.getfield 18, 3) := by decide +kernel
theorem dX1_order_7 : decode cX1_order 7 = .ok (.arraylength, 1) := by decide +kernel
theorem dX1_order_8 : decode cX1_order 8 = .ok (.if_icmp .ge 54, 3) := by decide +kernel
theorem dX1_order_11 : decode cX1_order 11 = .ok (.iload_n 2, 1) := by decide +kernel
theorem dX1_order_12 : decode cX1_order 12 = .ok (.aload_n 1, 1) := by decide +kernel
theorem dX1_order_13 : decode cX1_order 13 = .ok (.getfield 18, 3) := by decide +kernel
theorem dX1_order_16 : decode cX1_order 16 = .ok (.arraylength, 1) := by decide +kernel
theorem dX1_order_17 : decode cX1_order 17 = .ok (.if_icmp .ge 45, 3) := by decide +kernel
theorem dX1_order_20 : decode cX1_order 20 = .ok (.aload_n 0, 1) := by decide +kernel
theorem dX1_order_21 : decode cX1_order 21 = .ok (.getfield 18, 3) := by decide +kernel
theorem dX1_order_24 : decode cX1_order 24 = .ok (.iload_n 2, 1) := by decide +kernel
theorem dX1_order_25 : decode cX1_order 25 = .ok (.iaload, 1) := by decide +kernel
theorem dX1_order_26 : decode cX1_order 26 = .ok (.aload_n 1, 1) := by decide +kernel
theorem dX1_order_27 : decode cX1_order 27 = .ok (.getfield 18, 3) := by decide +kernel
theorem dX1_order_30 : decode cX1_order 30 = .ok (.iload_n 2, 1) := by decide +kernel
theorem dX1_order_31 : decode cX1_order 31 = .ok (.iaload, 1) := by decide +kernel
theorem dX1_order_32 : decode cX1_order 32 = .ok (.if_icmp .eq 24, 3) := by decide +kernel
theorem dX1_order_35 : decode cX1_order 35 = .ok (.aload_n 0, 1) := by decide +kernel
theorem dX1_order_36 : decode cX1_order 36 = .ok (.getfield 18, 3) := by decide +kernel
theorem dX1_order_39 : decode cX1_order 39 = .ok (.iload_n 2, 1) := by decide +kernel
theorem dX1_order_40 : decode cX1_order 40 = .ok (.iaload, 1) := by decide +kernel
theorem dX1_order_41 : decode cX1_order 41 = .ok (.aload_n 1, 1) := by decide +kernel
theorem dX1_order_42 : decode cX1_order 42 = .ok (.getfield 18, 3) := by decide +kernel
theorem dX1_order_45 : decode cX1_order 45 = .ok (.iload_n 2, 1) := by decide +kernel
theorem dX1_order_46 : decode cX1_order 46 = .ok (.iaload, 1) := by decide +kernel
theorem dX1_order_47 : decode cX1_order 47 = .ok (.if_icmp .ge 7, 3) := by decide +kernel
theorem dX1_order_50 : decode cX1_order 50 = .ok (.iconst (-1), 1) := by decide +kernel
theorem dX1_order_51 : decode cX1_order 51 = .ok (.goto 4, 3) := by decide +kernel
theorem dX1_order_54 : decode cX1_order 54 = .ok (.iconst 1, 1) := by decide +kernel
theorem dX1_order_55 : decode cX1_order 55 = .ok (.ireturn, 1) := by decide +kernel
theorem dX1_order_56 : decode cX1_order 56 = .ok (.iinc 2 1, 3) := by decide +kernel
theorem dX1_order_59 : decode cX1_order 59 = .ok (.goto (-57), 3) := by decide +kernel
theorem dX1_order_62 : decode cX1_order 62 = .ok (.aload_n 0, 1) := by decide +kernel
theorem dX1_order_63 : decode cX1_order 63 = .ok (.getfield 15, 3) := by decide +kernel
theorem dX1_order_66 : decode cX1_order 66 = .ok (.aload_n 1, 1) := by decide +kernel
theorem dX1_order_67 : decode cX1_order 67 = .ok (.getfield 15, 3) := by decide +kernel
theorem dX1_order_70 : decode cX1_order 70 = .ok (.if_icmp .ne 5, 3) := by decide +kernel
theorem dX1_order_73 : decode cX1_order 73 = .ok (.iconst 0, 1) := by decide +kernel
theorem dX1_order_74 : decode cX1_order 74 = .ok (.ireturn, 1) := by decide +kernel
theorem dX1_order_75 : decode cX1_order 75 = .ok (.aload_n 0, 1) := by decide +kernel
theorem dX1_order_76 : decode cX1_order 76 = .ok (.getfield 15, 3) := by decide +kernel
theorem dX1_order_79 : decode cX1_order 79 = .ok (.aload_n 1, 1) := by decide +kernel
theorem dX1_order_80 : decode cX1_order 80 = .ok (.getfield 15, 3) := by decide +kernel
theorem dX1_order_83 : decode cX1_order 83 = .ok (.if_icmp .ge 7, 3) := by decide +kernel
theorem dX1_order_86 : decode cX1_order 86 = .ok (.iconst (-1), 1) := by decide +kernel
theorem dX1_order_87 : decode cX1_order 87 = .ok (.goto 4, 3) := by decide +kernel
theorem dX1_order_90 : decode cX1_order 90 = .ok (.iconst 1, 1) := by decide +kernel
theorem dX1_order_91 : decode cX1_order 91 = .ok (.ireturn, 1) := by decide +kernel
theorem dX1_countOf_0 : decode cX1_countOf 0 = .ok (.iconst 0, 1) := by decide +kernel
theorem dX1_countOf_1 : decode cX1_countOf 1 = .ok (.istore_n 2, 1) := by decide +kernel
theorem dX1_countOf_2 : decode cX1_countOf 2 = .ok (.iconst 0, 1) := by decide +kernel
theorem dX1_countOf_3 : decode cX1_countOf 3 = .ok (.istore_n 3, 1) := by decide +kernel
theorem dX1_countOf_4 : decode cX1_countOf 4 = .ok (.iload_n 3, 1) := by decide +kernel
theorem dX1_countOf_5 : decode cX1_countOf 5 = .ok (.aload_n 0, 1) := by decide +kernel
theorem dX1_countOf_6 : decode cX1_countOf 6 = .ok (.getfield 22, 3) := by decide +kernel
theorem dX1_countOf_9 : decode cX1_countOf 9 = .ok (.arraylength, 1) := by decide +kernel
theorem dX1_countOf_10 : decode cX1_countOf 10 = .ok (.if_icmp .ge 22, 3) := by decide +kernel
theorem dX1_countOf_13 : decode cX1_countOf 13 = .ok (.aload_n 0, 1) := by decide +kernel
theorem dX1_countOf_14 : decode cX1_countOf 14 = .ok (.getfield 22, 3) := by decide +kernel
theorem dX1_countOf_17 : decode cX1_countOf 17 = .ok (.iload_n 3, 1) := by decide +kernel
theorem dX1_countOf_18 : decode cX1_countOf 18 = .ok (.aaload, 1) := by decide +kernel
theorem dX1_countOf_19 : decode cX1_countOf 19 = .ok (.aload_n 1, 1) := by decide +kernel
theorem dX1_countOf_20 : decode cX1_countOf 20 = .ok (.if_acmp .ne 6, 3) := by decide +kernel
theorem dX1_countOf_23 : decode cX1_countOf 23 = .ok (.iinc 2 1, 3) := by decide +kernel
theorem dX1_countOf_26 : decode cX1_countOf 26 = .ok (.iinc 3 1, 3) := by decide +kernel
theorem dX1_countOf_29 : decode cX1_countOf 29 = .ok (.goto (-25), 3) := by decide +kernel
theorem dX1_countOf_32 : decode cX1_countOf 32 = .ok (.iload_n 2, 1) := by decide +kernel
theorem dX1_countOf_33 : decode cX1_countOf 33 = .ok (.ireturn, 1) := by decide +kernel
set_option maxRecDepth 20000 in
theorem ggX2_init_X0_init : GoodIn wsX2_init wsX0_init := goodIn_r _ [5, 6, 7, 8] (by decide +kernel) (by decide +kernel)
set_option maxRecDepth 20000 in
theorem gX2_init_X0_init_n3 : GoodIn wsX2_init (wsX0_init) := ggX2_init_X0_init
theorem dX2_init_0 : decode cX2_init 0 = .ok (.aload_n 0, 1) := by decide +kernel
theorem dX2_init_1 : decode cX2_init 1 = .ok (.invokespecial 3, 3) := by decide +kernel
theorem dX2_init_4 : decode cX2_init 4 = .ok (.aload_n 0, 1) := by decide +kernel
theorem dX2_init_5 : decode cX2_init 5 = .ok (.iload_n 1, 1) := by decide +kernel
theorem dX2_init_6 : decode cX2_init 6 = .ok (.putfield 9, 3) := by decide +kernel
theorem dX2_init_9 : decode cX2_init 9 = .ok (.aload_n 0, 1) := by decide +kernel
theorem dX2_init_10 : decode cX2_init 10 = .ok (.iload_n 2, 1) := by decide +kernel
theorem dX2_init_11 : decode cX2_init 11 = .ok (.putfield 15, 3) := by decide +kernel
theorem dX2_init_14 : decode cX2_init 14 = .ok (.return_, 1) := by decide +kernel
theorem dX2_fitsInto_0 : decode cX2_fitsInto 0 = .ok (.iload_n 1, 1) := by decide +kernel
theorem dX2_fitsInto_1 : decode cX2_fitsInto 1 = .ok (.iconst 3, 1) := by decide +kernel
theorem dX2_fitsInto_2 : decode cX2_fitsInto 2 = .ok (.if_icmp .eq 29, 3) := by decide +kernel
theorem dX2_fitsInto_5 : decode cX2_fitsInto 5 = .ok (.iload_n 1, 1) := by decide +kernel
theorem dX2_fitsInto_6 : decode cX2_fitsInto 6 = .ok (.iconst 4, 1) := by decide +kernel
theorem dX2_fitsInto_7 : decode cX2_fitsInto 7 = .ok (.if_icmp .ne 11, 3) := by decide +kernel
theorem dX2_fitsInto_10 : decode cX2_fitsInto 10 = .ok (.aload_n 0, 1) := by decide +kernel
theorem dX2_fitsInto_11 : decode cX2_fitsInto 11 = .ok (.getfield 9, 3) := by decide +kernel
theorem dX2_fitsInto_14 : decode cX2_fitsInto 14 = .ok (.iconst 1, 1) := by decide +kernel
theorem dX2_fitsInto_15 : decode cX2_fitsInto 15 = .ok (.if_icmp .eq 16, 3) := by decide +kernel
theorem dX2_fitsInto_18 : decode cX2_fitsInto 18 = .ok (.iload_n 1, 1) := by decide +kernel
theorem dX2_fitsInto_19 : decode cX2_fitsInto 19 = .ok (.iconst 5, 1) := by decide +kernel
theorem dX2_fitsInto_20 : decode cX2_fitsInto 20 = .ok (.if_icmp .ne 15, 3) := by decide +kernel
theorem dX2_fitsInto_23 : decode cX2_fitsInto 23 = .ok (.aload_n 0, 1) := by decide +kernel
theorem dX2_fitsInto_24 : decode cX2_fitsInto 24 = .ok (.getfield 9, 3) := by decide +kernel
theorem dX2_fitsInto_27 : decode cX2_fitsInto 27 = .ok (.iconst 2, 1) := by decide +kernel
theorem dX2_fitsInto_28 : decode cX2_fitsInto 28 = .ok (.if_icmp .ne 7, 3) := by decide +kernel
theorem dX2_fitsInto_31 : decode cX2_fitsInto 31 = .ok (.iconst 1, 1) := by decide +kernel
theorem dX2_fitsInto_32 : decode cX2_fitsInto 32 = .ok (.goto 4, 3) := by decide +kernel
theorem dX2_fitsInto_35 : decode cX2_fitsInto 35 = .ok (.iconst 0, 1) := by decide +kernel
theorem dX2_fitsInto_36 : decode cX2_fitsInto 36 = .ok (.ireturn, 1) := by decide +kernel
theorem dX2_shown_0 : decode cX2_shown 0 = .ok (.aload_n 0, 1) := by decide +kernel
theorem dX2_shown_1 : decode cX2_shown 1 = .ok (.getfield 15, 3) := by decide +kernel
theorem dX2_shown_4 : decode cX2_shown 4 = .ok (.ireturn, 1) := by decide +kernel
theorem dX3_init_0 : decode cX3_init 0 = .ok (.aload_n 0, 1) := by decide +kernel
theorem dX3_init_1 : decode cX3_init 1 = .ok (.invokespecial 3, 3) := by decide +kernel
theorem dX3_init_4 : decode cX3_init 4 = .ok (.aload_n 0, 1) := by decide +kernel
theorem dX3_init_5 : decode cX3_init 5 = .ok (.bipush 12, 2) := by decide +kernel
theorem dX3_init_7 : decode cX3_init 7 = .ok (.anewarray 9, 3) := by decide +kernel
theorem dX3_init_10 : decode cX3_init 10 = .ok (.putfield 11, 3) := by decide +kernel
theorem dX3_init_13 : decode cX3_init 13 = .ok (.aload_n 0, 1) := by decide +kernel
theorem dX3_init_14 : decode cX3_init 14 = .ok (.iconst 0, 1) := by decide +kernel
theorem dX3_init_15 : decode cX3_init 15 = .ok (.putfield 15, 3) := by decide +kernel
theorem dX3_init_18 : decode cX3_init 18 = .ok (.return_, 1) := by decide +kernel
theorem dX3_code_0 : decode cX3_code 0 = .ok (.aload_n 0, 1) := by decide +kernel
theorem dX3_code_1 : decode cX3_code 1 = .ok (.getfield 15, 3) := by decide +kernel
theorem dX3_code_4 : decode cX3_code 4 = .ok (.ireturn, 1) := by decide +kernel
set_option maxRecDepth 20000 in
theorem ggX3_make_X3_isOutside : GoodIn wsX3_make wsX3_isOutside := goodIn_r _ [8] (by decide +kernel) (by decide +kernel)
set_option maxRecDepth 20000 in
theorem gX3_make_X3_isOutside : GoodIn wsX3_make (va_wsS RX3 19 yX3_isOutside wsX3_isOutside) := goodIn_app (goodIn_of _ (by decide +kernel)) ggX3_make_X3_isOutside
set_option maxRecDepth 20000 in
theorem ggX3_make_X3_fail : GoodIn wsX3_make wsX3_fail := goodIn_r _ [12, 13, 39, 40] (by decide +kernel) (by decide +kernel)
set_option maxRecDepth 20000 in
theorem gX3_make_X3_fail : GoodIn wsX3_make (wsV RX3 24 RX3 yX3_fail wsX3_fail) := goodIn_app (goodIn_of _ (by decide +kernel)) ggX3_make_X3_fail
set_option maxRecDepth 20000 in
theorem ggX3_make_X1_init : GoodIn wsX3_make wsX1_init := goodIn_r _ [16, 17, 18, 19, 20, 21, 22, 23, 24, 25, 26, 27, 28, 35, 36, 37, 38] (by decide +kernel) (by decide +kernel)
set_option maxRecDepth 20000 in
theorem gX3_make_X1_init : GoodIn wsX3_make (wsX1_init) := ggX3_make_X1_init
set_option maxRecDepth 20000 in
theorem ggX3_make_X3_put : GoodIn wsX3_make wsX3_put := goodIn_r _ [32, 33, 13, 34, 39, 40, 35, 36, 37, 38] (by decide +kernel) (by decide +kernel)
set_option maxRecDepth 20000 in
theorem gX3_make_X3_put : GoodIn wsX3_make (wsV RX3 31 RX3 yX3_put wsX3_put) := goodIn_app (goodIn_of _ (by decide +kernel)) ggX3_make_X3_put
theorem dX3_make_0 : decode cX3_make 0 = .ok (.iload_n 1, 1) := by decide +kernel
theorem dX3_make_1 : decode cX3_make 1 = .ok (.invokestatic 19, 3) := by decide +kernel
theorem dX3_make_4 : decode cX3_make 4 = .ok (.ifCond .ne 18, 3) := by decide +kernel
theorem dX3_make_7 : decode cX3_make 7 = .ok (.iload_n 2, 1) := by decide +kernel
theorem dX3_make_8 : decode cX3_make 8 = .ok (.ifCond .lt 14, 3) := by decide +kernel
theorem dX3_make_11 : decode cX3_make 11 = .ok (.iload_n 2, 1) := by decide +kernel
theorem dX3_make_12 : decode cX3_make 12 = .ok (.iconst 5, 1) := by decide +kernel
theorem dX3_make_13 : decode cX3_make 13 = .ok (.if_icmp .gt 9, 3) := by decide +kernel
theorem dX3_make_16 : decode cX3_make 16 = .ok (.iload_n 3, 1) := by decide +kernel
theorem dX3_make_17 : decode cX3_make 17 = .ok (.bipush 40, 2) := by decide +kernel
theorem dX3_make_19 : decode cX3_make 19 = .ok (.if_icmp .le 6, 3) := by decide +kernel
theorem dX3_make_22 : decode cX3_make 22 = .ok (.ldc 23, 2) := by decide +kernel
theorem dX3_make_24 : decode cX3_make 24 = .ok (.ireturn, 1) := by decide +kernel
theorem dX3_make_25 : decode cX3_make 25 = .ok (.iload_n 3, 1) := by decide +kernel
theorem dX3_make_26 : decode cX3_make 26 = .ok (.ifCond .ge 9, 3) := by decide +kernel
theorem dX3_make_29 : decode cX3_make 29 = .ok (.aload_n 0, 1) := by decide +kernel
theorem dX3_make_30 : decode cX3_make 30 = .ok (.iconst 4, 1) := by decide +kernel
theorem dX3_make_31 : decode cX3_make 31 = .ok (.invokevirtual 24, 3) := by decide +kernel
theorem dX3_make_34 : decode cX3_make 34 = .ok (.ireturn, 1) := by decide +kernel
theorem dX3_make_35 : decode cX3_make 35 = .ok (.aload_n 0, 1) := by decide +kernel
theorem dX3_make_36 : decode cX3_make 36 = .ok (.iload_n 1, 1) := by decide +kernel
theorem dX3_make_37 : decode cX3_make 37 = .ok (.new 9, 3) := by decide +kernel
theorem dX3_make_40 : decode cX3_make 40 = .ok (.dup, 1) := by decide +kernel
theorem dX3_make_41 : decode cX3_make 41 = .ok (.iload_n 2, 1) := by decide +kernel
theorem dX3_make_42 : decode cX3_make 42 = .ok (.iload_n 3, 1) := by decide +kernel
theorem dX3_make_43 : decode cX3_make 43 = .ok (.invokespecial 28, 3) := by decide +kernel
theorem dX3_make_46 : decode cX3_make 46 = .ok (.invokevirtual 31, 3) := by decide +kernel
theorem dX3_make_49 : decode cX3_make 49 = .ok (.ireturn, 1) := by decide +kernel
set_option maxRecDepth 20000 in
theorem ggX3_share_X3_isOutside : GoodIn wsX3_share wsX3_isOutside := goodIn_r _ [6] (by decide +kernel) (by decide +kernel)
set_option maxRecDepth 20000 in
theorem gX3_share_X3_isOutside : GoodIn wsX3_share (va_wsS RX3 19 yX3_isOutside wsX3_isOutside) := goodIn_app (goodIn_of _ (by decide +kernel)) ggX3_share_X3_isOutside
set_option maxRecDepth 20000 in
theorem ggX3_share_X3_kindOf : GoodIn wsX3_share wsX3_kindOf := goodIn_r _ [9, 10, 13, 14, 15, 16] (by decide +kernel) (by decide +kernel)
set_option maxRecDepth 20000 in
theorem gX3_share_X3_kindOf : GoodIn wsX3_share (va_wsS RX3 35 yX3_kindOf wsX3_kindOf) := goodIn_app (goodIn_of _ (by decide +kernel)) ggX3_share_X3_kindOf
theorem dX3_share_0 : decode cX3_share 0 = .ok (.iload_n 1, 1) := by decide +kernel
theorem dX3_share_1 : decode cX3_share 1 = .ok (.invokestatic 19, 3) := by decide +kernel
theorem dX3_share_4 : decode cX3_share 4 = .ok (.ifCond .ne 10, 3) := by decide +kernel
theorem dX3_share_7 : decode cX3_share 7 = .ok (.iload_n 2, 1) := by decide +kernel
theorem dX3_share_8 : decode cX3_share 8 = .ok (.invokestatic 19, 3) := by decide +kernel
theorem dX3_share_11 : decode cX3_share 11 = .ok (.ifCond .eq 6, 3) := by decide +kernel
theorem dX3_share_14 : decode cX3_share 14 = .ok (.ldc 23, 2) := by decide +kernel
theorem dX3_share_16 : decode cX3_share 16 = .ok (.ireturn, 1) := by decide +kernel
theorem dX3_share_17 : decode cX3_share 17 = .ok (.aload_n 0, 1) := by decide +kernel
theorem dX3_share_18 : decode cX3_share 18 = .ok (.getfield 11, 3) := by decide +kernel
theorem dX3_share_21 : decode cX3_share 21 = .ok (.iload_n 1, 1) := by decide +kernel
theorem dX3_share_22 : decode cX3_share 22 = .ok (.aload_n 0, 1) := by decide +kernel
theorem dX3_share_23 : decode cX3_share 23 = .ok (.getfield 11, 3) := by decide +kernel
theorem dX3_share_26 : decode cX3_share 26 = .ok (.iload_n 2, 1) := by decide +kernel
theorem dX3_share_27 : decode cX3_share 27 = .ok (.aaload, 1) := by decide +kernel
theorem dX3_share_28 : decode cX3_share 28 = .ok (.aastore, 1) := by decide +kernel
theorem dX3_share_29 : decode cX3_share 29 = .ok (.aload_n 0, 1) := by decide +kernel
theorem dX3_share_30 : decode cX3_share 30 = .ok (.getfield 11, 3) := by decide +kernel
theorem dX3_share_33 : decode cX3_share 33 = .ok (.iload_n 1, 1) := by decide +kernel
theorem dX3_share_34 : decode cX3_share 34 = .ok (.aaload, 1) := by decide +kernel
theorem dX3_share_35 : decode cX3_share 35 = .ok (.invokestatic 35, 3) := by decide +kernel
theorem dX3_share_38 : decode cX3_share 38 = .ok (.ireturn, 1) := by decide +kernel
set_option maxRecDepth 20000 in
theorem ggX3_nothing_X3_isOutside : GoodIn wsX3_nothing wsX3_isOutside := goodIn_r _ [6] (by decide +kernel) (by decide +kernel)
set_option maxRecDepth 20000 in
theorem gX3_nothing_X3_isOutside : GoodIn wsX3_nothing (va_wsS RX3 19 yX3_isOutside wsX3_isOutside) := goodIn_app (goodIn_of _ (by decide +kernel)) ggX3_nothing_X3_isOutside
set_option maxRecDepth 20000 in
theorem ggX3_nothing_X3_kindOf : GoodIn wsX3_nothing wsX3_kindOf := goodIn_r _ [9, 10, 13, 14, 15, 16] (by decide +kernel) (by decide +kernel)
set_option maxRecDepth 20000 in
theorem gX3_nothing_X3_kindOf : GoodIn wsX3_nothing (va_wsS RX3 35 yX3_kindOf wsX3_kindOf) := goodIn_app (goodIn_of _ (by decide +kernel)) ggX3_nothing_X3_kindOf
theorem dX3_nothing_0 : decode cX3_nothing 0 = .ok (.iload_n 1, 1) := by decide +kernel
theorem dX3_nothing_1 : decode cX3_nothing 1 = .ok (.invokestatic 19, 3) := by decide +kernel
theorem dX3_nothing_4 : decode cX3_nothing 4 = .ok (.ifCond .eq 6, 3) := by decide +kernel
theorem dX3_nothing_7 : decode cX3_nothing 7 = .ok (.ldc 23, 2) := by decide +kernel
theorem dX3_nothing_9 : decode cX3_nothing 9 = .ok (.ireturn, 1) := by decide +kernel
theorem dX3_nothing_10 : decode cX3_nothing 10 = .ok (.aload_n 0, 1) := by decide +kernel
theorem dX3_nothing_11 : decode cX3_nothing 11 = .ok (.getfield 11, 3) := by decide +kernel
theorem dX3_nothing_14 : decode cX3_nothing 14 = .ok (.iload_n 1, 1) := by decide +kernel
theorem dX3_nothing_15 : decode cX3_nothing 15 = .ok (.aaload, 1) := by decide +kernel
theorem dX3_nothing_16 : decode cX3_nothing 16 = .ok (.invokestatic 35, 3) := by decide +kernel
theorem dX3_nothing_19 : decode cX3_nothing 19 = .ok (.istore_n 2, 1) := by decide +kernel
theorem dX3_nothing_20 : decode cX3_nothing 20 = .ok (.aload_n 0, 1) := by decide +kernel
theorem dX3_nothing_21 : decode cX3_nothing 21 = .ok (.getfield 11, 3) := by decide +kernel
theorem dX3_nothing_24 : decode cX3_nothing 24 = .ok (.iload_n 1, 1) := by decide +kernel
theorem dX3_nothing_25 : decode cX3_nothing 25 = .ok (.aconst_null, 1) := by decide +kernel
theorem dX3_nothing_26 : decode cX3_nothing 26 = .ok (.aastore, 1) := by decide +kernel
theorem dX3_nothing_27 : decode cX3_nothing 27 = .ok (.iload_n 2, 1) := by decide +kernel
theorem dX3_nothing_28 : decode cX3_nothing 28 = .ok (.ireturn, 1) := by decide +kernel
set_option maxRecDepth 20000 in
theorem ggX3_lump_X3_isOutside : GoodIn wsX3_lump wsX3_isOutside := goodIn_r _ [9] (by decide +kernel) (by decide +kernel)
set_option maxRecDepth 20000 in
theorem gX3_lump_X3_isOutside : GoodIn wsX3_lump (va_wsS RX3 19 yX3_isOutside wsX3_isOutside) := goodIn_app (goodIn_of _ (by decide +kernel)) ggX3_lump_X3_isOutside
set_option maxRecDepth 20000 in
theorem ggX3_lump_X1_init : GoodIn wsX3_lump wsX1_init := goodIn_r _ [12, 13, 14, 15, 16, 17, 18, 19, 20, 21, 22, 23, 24, 27, 28, 29, 30] (by decide +kernel) (by decide +kernel)
set_option maxRecDepth 20000 in
theorem gX3_lump_X1_init : GoodIn wsX3_lump (wsX1_init) := ggX3_lump_X1_init
theorem dX3_lump_0 : decode cX3_lump 0 = .ok (.iload_n 1, 1) := by decide +kernel
theorem dX3_lump_1 : decode cX3_lump 1 = .ok (.invokestatic 19, 3) := by decide +kernel
theorem dX3_lump_4 : decode cX3_lump 4 = .ok (.ifCond .eq 6, 3) := by decide +kernel
theorem dX3_lump_7 : decode cX3_lump 7 = .ok (.ldc 23, 2) := by decide +kernel
theorem dX3_lump_9 : decode cX3_lump 9 = .ok (.ireturn, 1) := by decide +kernel
theorem dX3_lump_10 : decode cX3_lump 10 = .ok (.aload_n 0, 1) := by decide +kernel
theorem dX3_lump_11 : decode cX3_lump 11 = .ok (.getfield 11, 3) := by decide +kernel
theorem dX3_lump_14 : decode cX3_lump 14 = .ok (.iload_n 1, 1) := by decide +kernel
theorem dX3_lump_15 : decode cX3_lump 15 = .ok (.new 9, 3) := by decide +kernel
theorem dX3_lump_18 : decode cX3_lump 18 = .ok (.dup, 1) := by decide +kernel
theorem dX3_lump_19 : decode cX3_lump 19 = .ok (.bipush 6, 2) := by decide +kernel
theorem dX3_lump_21 : decode cX3_lump 21 = .ok (.iconst 0, 1) := by decide +kernel
theorem dX3_lump_22 : decode cX3_lump 22 = .ok (.invokespecial 28, 3) := by decide +kernel
theorem dX3_lump_25 : decode cX3_lump 25 = .ok (.aastore, 1) := by decide +kernel
theorem dX3_lump_26 : decode cX3_lump 26 = .ok (.iconst 1, 1) := by decide +kernel
theorem dX3_lump_27 : decode cX3_lump 27 = .ok (.ireturn, 1) := by decide +kernel
set_option maxRecDepth 20000 in
theorem ggX3_kind_X3_isOutside : GoodIn wsX3_kind wsX3_isOutside := goodIn_r _ [6] (by decide +kernel) (by decide +kernel)
set_option maxRecDepth 20000 in
theorem gX3_kind_X3_isOutside : GoodIn wsX3_kind (va_wsS RX3 19 yX3_isOutside wsX3_isOutside) := goodIn_app (goodIn_of _ (by decide +kernel)) ggX3_kind_X3_isOutside
set_option maxRecDepth 20000 in
theorem ggX3_kind_X3_kindOf : GoodIn wsX3_kind wsX3_kindOf := goodIn_r _ [9, 10, 13, 14, 15, 16] (by decide +kernel) (by decide +kernel)
set_option maxRecDepth 20000 in
theorem gX3_kind_X3_kindOf : GoodIn wsX3_kind (va_wsS RX3 35 yX3_kindOf wsX3_kindOf) := goodIn_app (goodIn_of _ (by decide +kernel)) ggX3_kind_X3_kindOf
theorem dX3_kind_0 : decode cX3_kind 0 = .ok (.iload_n 1, 1) := by decide +kernel
theorem dX3_kind_1 : decode cX3_kind 1 = .ok (.invokestatic 19, 3) := by decide +kernel
theorem dX3_kind_4 : decode cX3_kind 4 = .ok (.ifCond .eq 8, 3) := by decide +kernel
theorem dX3_kind_7 : decode cX3_kind 7 = .ok (.ldc 23, 2) := by decide +kernel
theorem dX3_kind_9 : decode cX3_kind 9 = .ok (.goto 12, 3) := by decide +kernel
theorem dX3_kind_12 : decode cX3_kind 12 = .ok (.aload_n 0, 1) := by decide +kernel
theorem dX3_kind_13 : decode cX3_kind 13 = .ok (.getfield 11, 3) := by decide +kernel
theorem dX3_kind_16 : decode cX3_kind 16 = .ok (.iload_n 1, 1) := by decide +kernel
theorem dX3_kind_17 : decode cX3_kind 17 = .ok (.aaload, 1) := by decide +kernel
theorem dX3_kind_18 : decode cX3_kind 18 = .ok (.invokestatic 35, 3) := by decide +kernel
theorem dX3_kind_21 : decode cX3_kind 21 = .ok (.ireturn, 1) := by decide +kernel
set_option maxRecDepth 20000 in
theorem ggX3_length_X3_isOutside : GoodIn wsX3_length wsX3_isOutside := goodIn_r _ [6] (by decide +kernel) (by decide +kernel)
set_option maxRecDepth 20000 in
theorem gX3_length_X3_isOutside : GoodIn wsX3_length (va_wsS RX3 19 yX3_isOutside wsX3_isOutside) := goodIn_app (goodIn_of _ (by decide +kernel)) ggX3_length_X3_isOutside
set_option maxRecDepth 20000 in
theorem ggX3_length_X3_rowOf : GoodIn wsX3_length wsX3_rowOf := goodIn_r _ [10, 11, 12, 13, 18, 19, 14, 15, 16, 17] (by decide +kernel) (by decide +kernel)
set_option maxRecDepth 20000 in
theorem gX3_length_X3_rowOf : GoodIn wsX3_length (wsV RX3 39 RX3 yX3_rowOf wsX3_rowOf) := goodIn_app (goodIn_of _ (by decide +kernel)) ggX3_length_X3_rowOf
theorem dX3_length_0 : decode cX3_length 0 = .ok (.iload_n 1, 1) := by decide +kernel
theorem dX3_length_1 : decode cX3_length 1 = .ok (.invokestatic 19, 3) := by decide +kernel
theorem dX3_length_4 : decode cX3_length 4 = .ok (.ifCond .eq 6, 3) := by decide +kernel
theorem dX3_length_7 : decode cX3_length 7 = .ok (.ldc 23, 2) := by decide +kernel
theorem dX3_length_9 : decode cX3_length 9 = .ok (.ireturn, 1) := by decide +kernel
theorem dX3_length_10 : decode cX3_length 10 = .ok (.aload_n 0, 1) := by decide +kernel
theorem dX3_length_11 : decode cX3_length 11 = .ok (.iload_n 1, 1) := by decide +kernel
theorem dX3_length_12 : decode cX3_length 12 = .ok (.bipush 63, 2) := by decide +kernel
theorem dX3_length_14 : decode cX3_length 14 = .ok (.invokevirtual 39, 3) := by decide +kernel
theorem dX3_length_17 : decode cX3_length 17 = .ok (.astore_n 2, 1) := by decide +kernel
theorem dX3_length_18 : decode cX3_length 18 = .ok (.aload_n 2, 1) := by decide +kernel
theorem dX3_length_19 : decode cX3_length 19 = .ok (.ifnonnull 7, 3) := by decide +kernel
theorem dX3_length_22 : decode cX3_length 22 = .ok (.iconst 0, 1) := by decide +kernel
theorem dX3_length_23 : decode cX3_length 23 = .ok (.goto 7, 3) := by decide +kernel
theorem dX3_length_26 : decode cX3_length 26 = .ok (.aload_n 2, 1) := by decide +kernel
theorem dX3_length_27 : decode cX3_length 27 = .ok (.getfield 43, 3) := by decide +kernel
theorem dX3_length_30 : decode cX3_length 30 = .ok (.ireturn, 1) := by decide +kernel
set_option maxRecDepth 20000 in
theorem ggX3_set_X3_isOutside : GoodIn wsX3_set wsX3_isOutside := goodIn_r _ [7] (by decide +kernel) (by decide +kernel)
set_option maxRecDepth 20000 in
theorem gX3_set_X3_isOutside : GoodIn wsX3_set (va_wsS RX3 19 yX3_isOutside wsX3_isOutside) := goodIn_app (goodIn_of _ (by decide +kernel)) ggX3_set_X3_isOutside
set_option maxRecDepth 20000 in
theorem ggX3_set_X3_rowOf : GoodIn wsX3_set wsX3_rowOf := goodIn_r _ [11, 12, 13, 3, 28, 29, 24, 25, 26, 27] (by decide +kernel) (by decide +kernel)
set_option maxRecDepth 20000 in
theorem gX3_set_X3_rowOf : GoodIn wsX3_set (wsV RX3 39 RX3 yX3_rowOf wsX3_rowOf) := goodIn_app (goodIn_of _ (by decide +kernel)) ggX3_set_X3_rowOf
set_option maxRecDepth 20000 in
theorem ggX3_set_X1_has : GoodIn wsX3_set wsX1_has := goodIn_r _ [18, 19, 24, 25, 26, 27] (by decide +kernel) (by decide +kernel)
set_option maxRecDepth 20000 in
theorem gX3_set_X1_has : GoodIn wsX3_set (wsV RX3 46 RX1 yX1_has wsX1_has) := goodIn_app (goodIn_of _ (by decide +kernel)) ggX3_set_X1_has
set_option maxRecDepth 20000 in
theorem ggX3_set_X3_fail : GoodIn wsX3_set wsX3_fail := goodIn_r _ [23, 13, 28, 29] (by decide +kernel) (by decide +kernel)
set_option maxRecDepth 20000 in
theorem gX3_set_X3_fail : GoodIn wsX3_set (wsV RX3 24 RX3 yX3_fail wsX3_fail) := goodIn_app (goodIn_of _ (by decide +kernel)) ggX3_set_X3_fail
theorem dX3_set_0 : decode cX3_set 0 = .ok (.iload_n 1, 1) := by decide +kernel
theorem dX3_set_1 : decode cX3_set 1 = .ok (.invokestatic 19, 3) := by decide +kernel
theorem dX3_set_4 : decode cX3_set 4 = .ok (.ifCond .eq 6, 3) := by decide +kernel
theorem dX3_set_7 : decode cX3_set 7 = .ok (.ldc 23, 2) := by decide +kernel
theorem dX3_set_9 : decode cX3_set 9 = .ok (.ireturn, 1) := by decide +kernel
theorem dX3_set_10 : decode cX3_set 10 = .ok (.aload_n 0, 1) := by decide +kernel
theorem dX3_set_11 : decode cX3_set 11 = .ok (.iload_n 1, 1) := by decide +kernel
theorem dX3_set_12 : decode cX3_set 12 = .ok (.iconst 3, 1) := by decide +kernel
theorem dX3_set_13 : decode cX3_set 13 = .ok (.invokevirtual 39, 3) := by decide +kernel
theorem dX3_set_16 : decode cX3_set 16 = .ok (.astore 4, 2) := by decide +kernel
theorem dX3_set_18 : decode cX3_set 18 = .ok (.aload 4, 2) := by decide +kernel
theorem dX3_set_20 : decode cX3_set 20 = .ok (.ifnonnull 5, 3) := by decide +kernel
theorem dX3_set_23 : decode cX3_set 23 = .ok (.iconst 0, 1) := by decide +kernel
theorem dX3_set_24 : decode cX3_set 24 = .ok (.ireturn, 1) := by decide +kernel
theorem dX3_set_25 : decode cX3_set 25 = .ok (.aload 4, 2) := by decide +kernel
theorem dX3_set_27 : decode cX3_set 27 = .ok (.iload_n 2, 1) := by decide +kernel
theorem dX3_set_28 : decode cX3_set 28 = .ok (.invokevirtual 46, 3) := by decide +kernel
theorem dX3_set_31 : decode cX3_set 31 = .ok (.ifCond .ne 9, 3) := by decide +kernel
theorem dX3_set_34 : decode cX3_set 34 = .ok (.aload_n 0, 1) := by decide +kernel
theorem dX3_set_35 : decode cX3_set 35 = .ok (.iconst 3, 1) := by decide +kernel
theorem dX3_set_36 : decode cX3_set 36 = .ok (.invokevirtual 24, 3) := by decide +kernel
theorem dX3_set_39 : decode cX3_set 39 = .ok (.ireturn, 1) := by decide +kernel
theorem dX3_set_40 : decode cX3_set 40 = .ok (.aload 4, 2) := by decide +kernel
theorem dX3_set_42 : decode cX3_set 42 = .ok (.getfield 49, 3) := by decide +kernel
theorem dX3_set_45 : decode cX3_set 45 = .ok (.iload_n 2, 1) := by decide +kernel
theorem dX3_set_46 : decode cX3_set 46 = .ok (.iaload, 1) := by decide +kernel
theorem dX3_set_47 : decode cX3_set 47 = .ok (.istore 5, 2) := by decide +kernel
theorem dX3_set_49 : decode cX3_set 49 = .ok (.aload 4, 2) := by decide +kernel
theorem dX3_set_51 : decode cX3_set 51 = .ok (.getfield 49, 3) := by decide +kernel
theorem dX3_set_54 : decode cX3_set 54 = .ok (.iload_n 2, 1) := by decide +kernel
theorem dX3_set_55 : decode cX3_set 55 = .ok (.aload 4, 2) := by decide +kernel
theorem dX3_set_57 : decode cX3_set 57 = .ok (.getfield 53, 3) := by decide +kernel
theorem dX3_set_60 : decode cX3_set 60 = .ok (.ifCond .ne 8, 3) := by decide +kernel
theorem dX3_set_63 : decode cX3_set 63 = .ok (.iload_n 3, 1) := by decide +kernel
theorem dX3_set_64 : decode cX3_set 64 = .ok (.i2b, 1) := by decide +kernel
theorem dX3_set_65 : decode cX3_set 65 = .ok (.goto 4, 3) := by decide +kernel
theorem dX3_set_68 : decode cX3_set 68 = .ok (.iload_n 3, 1) := by decide +kernel
theorem dX3_set_69 : decode cX3_set 69 = .ok (.iastore, 1) := by decide +kernel
theorem dX3_set_70 : decode cX3_set 70 = .ok (.iload 5, 2) := by decide +kernel
theorem dX3_set_72 : decode cX3_set 72 = .ok (.ireturn, 1) := by decide +kernel
set_option maxRecDepth 20000 in
theorem ggX3_thing_X3_isOutside : GoodIn wsX3_thing wsX3_isOutside := goodIn_r _ [9] (by decide +kernel) (by decide +kernel)
set_option maxRecDepth 20000 in
theorem gX3_thing_X3_isOutside : GoodIn wsX3_thing (va_wsS RX3 19 yX3_isOutside wsX3_isOutside) := goodIn_app (goodIn_of _ (by decide +kernel)) ggX3_thing_X3_isOutside
set_option maxRecDepth 20000 in
theorem ggX3_thing_X3_rowOf : GoodIn wsX3_thing wsX3_rowOf := goodIn_r _ [13, 14, 15, 16, 57, 58, 53, 54, 55, 56] (by decide +kernel) (by decide +kernel)
set_option maxRecDepth 20000 in
theorem gX3_thing_X3_rowOf : GoodIn wsX3_thing (wsV RX3 39 RX3 yX3_rowOf wsX3_rowOf) := goodIn_app (goodIn_of _ (by decide +kernel)) ggX3_thing_X3_rowOf
set_option maxRecDepth 20000 in
theorem ggX3_thing_X1_has : GoodIn wsX3_thing wsX1_has := goodIn_r _ [21, 22, 53, 54, 55, 56] (by decide +kernel) (by decide +kernel)
set_option maxRecDepth 20000 in
theorem gX3_thing_X1_has : GoodIn wsX3_thing (wsV RX3 46 RX1 yX1_has wsX1_has) := goodIn_app (goodIn_of _ (by decide +kernel)) ggX3_thing_X1_has
set_option maxRecDepth 20000 in
theorem ggX3_thing_X3_fail : GoodIn wsX3_thing wsX3_fail := goodIn_r _ [26, 15, 57, 58] (by decide +kernel) (by decide +kernel)
set_option maxRecDepth 20000 in
theorem gX3_thing_X3_fail : GoodIn wsX3_thing (wsV RX3 24 RX3 yX3_fail wsX3_fail) := goodIn_app (goodIn_of _ (by decide +kernel)) ggX3_thing_X3_fail
set_option maxRecDepth 20000 in
theorem ggX3_thing_X2_init : GoodIn wsX3_thing wsX2_init := goodIn_r _ [29, 30, 31, 32, 33, 34, 35, 36, 37, 51, 52] (by decide +kernel) (by decide +kernel)
set_option maxRecDepth 20000 in
theorem gX3_thing_X2_init : GoodIn wsX3_thing (wsX2_init) := ggX3_thing_X2_init
set_option maxRecDepth 20000 in
theorem ggX3_thing_X1_takes : GoodIn wsX3_thing wsX1_takes := goodIn_r _ [41, 42, 43, 44, 45, 46, 20, 47, 48, 49, 4, 50, 30, 53, 54, 55, 56, 51, 52] (by decide +kernel) (by decide +kernel)
set_option maxRecDepth 20000 in
theorem gX3_thing_X1_takes : GoodIn wsX3_thing (wsV RX3 59 RX1 yX1_takes wsX1_takes) := goodIn_app (goodIn_of _ (by decide +kernel)) ggX3_thing_X1_takes
theorem dX3_thing_0 : decode cX3_thing 0 = .ok (.iload_n 1, 1) := by decide +kernel
theorem dX3_thing_1 : decode cX3_thing 1 = .ok (.invokestatic 19, 3) := by decide +kernel
theorem dX3_thing_4 : decode cX3_thing 4 = .ok (.ifCond .ne 13, 3) := by decide +kernel
theorem dX3_thing_7 : decode cX3_thing 7 = .ok (.iload_n 3, 1) := by decide +kernel
theorem dX3_thing_8 : decode cX3_thing 8 = .ok (.iconst (-1), 1) := by decide +kernel
theorem dX3_thing_9 : decode cX3_thing 9 = .ok (.if_icmp .lt 8, 3) := by decide +kernel
theorem dX3_thing_12 : decode cX3_thing 12 = .ok (.iload_n 3, 1) := by decide +kernel
theorem dX3_thing_13 : decode cX3_thing 13 = .ok (.iconst 2, 1) := by decide +kernel
theorem dX3_thing_14 : decode cX3_thing 14 = .ok (.if_icmp .le 6, 3) := by decide +kernel
theorem dX3_thing_17 : decode cX3_thing 17 = .ok (.ldc 23, 2) := by decide +kernel
theorem dX3_thing_19 : decode cX3_thing 19 = .ok (.ireturn, 1) := by decide +kernel
theorem dX3_thing_20 : decode cX3_thing 20 = .ok (.aload_n 0, 1) := by decide +kernel
theorem dX3_thing_21 : decode cX3_thing 21 = .ok (.iload_n 1, 1) := by decide +kernel
theorem dX3_thing_22 : decode cX3_thing 22 = .ok (.bipush 56, 2) := by decide +kernel
theorem dX3_thing_24 : decode cX3_thing 24 = .ok (.invokevirtual 39, 3) := by decide +kernel
theorem dX3_thing_27 : decode cX3_thing 27 = .ok (.astore 5, 2) := by decide +kernel
theorem dX3_thing_29 : decode cX3_thing 29 = .ok (.aload 5, 2) := by decide +kernel
theorem dX3_thing_31 : decode cX3_thing 31 = .ok (.ifnonnull 5, 3) := by decide +kernel
theorem dX3_thing_34 : decode cX3_thing 34 = .ok (.iconst 0, 1) := by decide +kernel
theorem dX3_thing_35 : decode cX3_thing 35 = .ok (.ireturn, 1) := by decide +kernel
theorem dX3_thing_36 : decode cX3_thing 36 = .ok (.aload 5, 2) := by decide +kernel
theorem dX3_thing_38 : decode cX3_thing 38 = .ok (.iload_n 2, 1) := by decide +kernel
theorem dX3_thing_39 : decode cX3_thing 39 = .ok (.invokevirtual 46, 3) := by decide +kernel
theorem dX3_thing_42 : decode cX3_thing 42 = .ok (.ifCond .ne 9, 3) := by decide +kernel
theorem dX3_thing_45 : decode cX3_thing 45 = .ok (.aload_n 0, 1) := by decide +kernel
theorem dX3_thing_46 : decode cX3_thing 46 = .ok (.iconst 3, 1) := by decide +kernel
theorem dX3_thing_47 : decode cX3_thing 47 = .ok (.invokevirtual 24, 3) := by decide +kernel
theorem dX3_thing_50 : decode cX3_thing 50 = .ok (.ireturn, 1) := by decide +kernel
theorem dX3_thing_51 : decode cX3_thing 51 = .ok (.iload_n 3, 1) := by decide +kernel
theorem dX3_thing_52 : decode cX3_thing 52 = .ok (.iconst (-1), 1) := by decide +kernel
theorem dX3_thing_53 : decode cX3_thing 53 = .ok (.if_icmp .ne 7, 3) := by decide +kernel
theorem dX3_thing_56 : decode cX3_thing 56 = .ok (.aconst_null, 1) := by decide +kernel
theorem dX3_thing_57 : decode cX3_thing 57 = .ok (.goto 13, 3) := by decide +kernel
theorem dX3_thing_60 : decode cX3_thing 60 = .ok (.new 56, 3) := by decide +kernel
theorem dX3_thing_63 : decode cX3_thing 63 = .ok (.dup, 1) := by decide +kernel
theorem dX3_thing_64 : decode cX3_thing 64 = .ok (.iload_n 3, 1) := by decide +kernel
theorem dX3_thing_65 : decode cX3_thing 65 = .ok (.iload 4, 2) := by decide +kernel
theorem dX3_thing_67 : decode cX3_thing 67 = .ok (.invokespecial 58, 3) := by decide +kernel
theorem dX3_thing_70 : decode cX3_thing 70 = .ok (.astore 6, 2) := by decide +kernel
theorem dX3_thing_72 : decode cX3_thing 72 = .ok (.aload 5, 2) := by decide +kernel
theorem dX3_thing_74 : decode cX3_thing 74 = .ok (.aload 6, 2) := by decide +kernel
theorem dX3_thing_76 : decode cX3_thing 76 = .ok (.invokevirtual 59, 3) := by decide +kernel
theorem dX3_thing_79 : decode cX3_thing 79 = .ok (.ifCond .ne 9, 3) := by decide +kernel
theorem dX3_thing_82 : decode cX3_thing 82 = .ok (.aload_n 0, 1) := by decide +kernel
theorem dX3_thing_83 : decode cX3_thing 83 = .ok (.iconst 2, 1) := by decide +kernel
theorem dX3_thing_84 : decode cX3_thing 84 = .ok (.invokevirtual 24, 3) := by decide +kernel
theorem dX3_thing_87 : decode cX3_thing 87 = .ok (.ireturn, 1) := by decide +kernel
theorem dX3_thing_88 : decode cX3_thing 88 = .ok (.aload 5, 2) := by decide +kernel
theorem dX3_thing_90 : decode cX3_thing 90 = .ok (.getfield 63, 3) := by decide +kernel
theorem dX3_thing_93 : decode cX3_thing 93 = .ok (.iload_n 2, 1) := by decide +kernel
theorem dX3_thing_94 : decode cX3_thing 94 = .ok (.aload 6, 2) := by decide +kernel
theorem dX3_thing_96 : decode cX3_thing 96 = .ok (.aastore, 1) := by decide +kernel
theorem dX3_thing_97 : decode cX3_thing 97 = .ok (.iconst 1, 1) := by decide +kernel
theorem dX3_thing_98 : decode cX3_thing 98 = .ok (.ireturn, 1) := by decide +kernel
set_option maxRecDepth 20000 in
theorem ggX3_hang_X3_isOutside : GoodIn wsX3_hang wsX3_isOutside := goodIn_r _ [8] (by decide +kernel) (by decide +kernel)
set_option maxRecDepth 20000 in
theorem gX3_hang_X3_isOutside : GoodIn wsX3_hang (va_wsS RX3 19 yX3_isOutside wsX3_isOutside) := goodIn_app (goodIn_of _ (by decide +kernel)) ggX3_hang_X3_isOutside
set_option maxRecDepth 20000 in
theorem ggX3_hang_X3_rowOf : GoodIn wsX3_hang wsX3_rowOf := goodIn_r _ [12, 2, 13, 3, 24, 25, 26, 27, 28, 29] (by decide +kernel) (by decide +kernel)
set_option maxRecDepth 20000 in
theorem gX3_hang_X3_rowOf : GoodIn wsX3_hang (wsV RX3 39 RX3 yX3_rowOf wsX3_rowOf) := goodIn_app (goodIn_of _ (by decide +kernel)) ggX3_hang_X3_rowOf
set_option maxRecDepth 20000 in
theorem ggX3_hang_X3_fail : GoodIn wsX3_hang wsX3_fail := goodIn_r _ [17, 13, 24, 25] (by decide +kernel) (by decide +kernel)
set_option maxRecDepth 20000 in
theorem gX3_hang_X3_fail : GoodIn wsX3_hang (wsV RX3 24 RX3 yX3_fail wsX3_fail) := goodIn_app (goodIn_of _ (by decide +kernel)) ggX3_hang_X3_fail
set_option maxRecDepth 20000 in
theorem ggX3_hang_X1_has : GoodIn wsX3_hang wsX1_has := goodIn_r _ [22, 23, 26, 27, 28, 29] (by decide +kernel) (by decide +kernel)
set_option maxRecDepth 20000 in
theorem gX3_hang_X1_has : GoodIn wsX3_hang (wsV RX3 46 RX1 yX1_has wsX1_has) := goodIn_app (goodIn_of _ (by decide +kernel)) ggX3_hang_X1_has
theorem dX3_hang_0 : decode cX3_hang 0 = .ok (.iload_n 1, 1) := by decide +kernel
theorem dX3_hang_1 : decode cX3_hang 1 = .ok (.invokestatic 19, 3) := by decide +kernel
theorem dX3_hang_4 : decode cX3_hang 4 = .ok (.ifCond .ne 10, 3) := by decide +kernel
theorem dX3_hang_7 : decode cX3_hang 7 = .ok (.iload_n 3, 1) := by decide +kernel
theorem dX3_hang_8 : decode cX3_hang 8 = .ok (.invokestatic 19, 3) := by decide +kernel
theorem dX3_hang_11 : decode cX3_hang 11 = .ok (.ifCond .eq 6, 3) := by decide +kernel
theorem dX3_hang_14 : decode cX3_hang 14 = .ok (.ldc 23, 2) := by decide +kernel
theorem dX3_hang_16 : decode cX3_hang 16 = .ok (.ireturn, 1) := by decide +kernel
theorem dX3_hang_17 : decode cX3_hang 17 = .ok (.aload_n 0, 1) := by decide +kernel
theorem dX3_hang_18 : decode cX3_hang 18 = .ok (.iload_n 1, 1) := by decide +kernel
theorem dX3_hang_19 : decode cX3_hang 19 = .ok (.iconst 4, 1) := by decide +kernel
theorem dX3_hang_20 : decode cX3_hang 20 = .ok (.invokevirtual 39, 3) := by decide +kernel
theorem dX3_hang_23 : decode cX3_hang 23 = .ok (.astore 4, 2) := by decide +kernel
theorem dX3_hang_25 : decode cX3_hang 25 = .ok (.aload 4, 2) := by decide +kernel
theorem dX3_hang_27 : decode cX3_hang 27 = .ok (.ifnonnull 5, 3) := by decide +kernel
theorem dX3_hang_30 : decode cX3_hang 30 = .ok (.iconst 0, 1) := by decide +kernel
theorem dX3_hang_31 : decode cX3_hang 31 = .ok (.ireturn, 1) := by decide +kernel
theorem dX3_hang_32 : decode cX3_hang 32 = .ok (.aload_n 0, 1) := by decide +kernel
theorem dX3_hang_33 : decode cX3_hang 33 = .ok (.getfield 11, 3) := by decide +kernel
theorem dX3_hang_36 : decode cX3_hang 36 = .ok (.iload_n 3, 1) := by decide +kernel
theorem dX3_hang_37 : decode cX3_hang 37 = .ok (.aaload, 1) := by decide +kernel
theorem dX3_hang_38 : decode cX3_hang 38 = .ok (.astore 5, 2) := by decide +kernel
theorem dX3_hang_40 : decode cX3_hang 40 = .ok (.aload 5, 2) := by decide +kernel
theorem dX3_hang_42 : decode cX3_hang 42 = .ok (.ifnull 18, 3) := by decide +kernel
theorem dX3_hang_45 : decode cX3_hang 45 = .ok (.aload 5, 2) := by decide +kernel
theorem dX3_hang_47 : decode cX3_hang 47 = .ok (.getfield 53, 3) := by decide +kernel
theorem dX3_hang_50 : decode cX3_hang 50 = .ok (.iconst 1, 1) := by decide +kernel
theorem dX3_hang_51 : decode cX3_hang 51 = .ok (.if_icmp .eq 9, 3) := by decide +kernel
theorem dX3_hang_54 : decode cX3_hang 54 = .ok (.aload_n 0, 1) := by decide +kernel
theorem dX3_hang_55 : decode cX3_hang 55 = .ok (.iconst 5, 1) := by decide +kernel
theorem dX3_hang_56 : decode cX3_hang 56 = .ok (.invokevirtual 24, 3) := by decide +kernel
theorem dX3_hang_59 : decode cX3_hang 59 = .ok (.ireturn, 1) := by decide +kernel
theorem dX3_hang_60 : decode cX3_hang 60 = .ok (.aload 4, 2) := by decide +kernel
theorem dX3_hang_62 : decode cX3_hang 62 = .ok (.iload_n 2, 1) := by decide +kernel
theorem dX3_hang_63 : decode cX3_hang 63 = .ok (.invokevirtual 46, 3) := by decide +kernel
theorem dX3_hang_66 : decode cX3_hang 66 = .ok (.ifCond .ne 9, 3) := by decide +kernel
theorem dX3_hang_69 : decode cX3_hang 69 = .ok (.aload_n 0, 1) := by decide +kernel
theorem dX3_hang_70 : decode cX3_hang 70 = .ok (.iconst 3, 1) := by decide +kernel
theorem dX3_hang_71 : decode cX3_hang 71 = .ok (.invokevirtual 24, 3) := by decide +kernel
theorem dX3_hang_74 : decode cX3_hang 74 = .ok (.ireturn, 1) := by decide +kernel
theorem dX3_hang_75 : decode cX3_hang 75 = .ok (.aload 4, 2) := by decide +kernel
theorem dX3_hang_77 : decode cX3_hang 77 = .ok (.getfield 63, 3) := by decide +kernel
theorem dX3_hang_80 : decode cX3_hang 80 = .ok (.iload_n 2, 1) := by decide +kernel
theorem dX3_hang_81 : decode cX3_hang 81 = .ok (.aload 5, 2) := by decide +kernel
theorem dX3_hang_83 : decode cX3_hang 83 = .ok (.aastore, 1) := by decide +kernel
theorem dX3_hang_84 : decode cX3_hang 84 = .ok (.iconst 1, 1) := by decide +kernel
theorem dX3_hang_85 : decode cX3_hang 85 = .ok (.ireturn, 1) := by decide +kernel
set_option maxRecDepth 20000 in
theorem ggX3_item_X3_isOutside : GoodIn wsX3_item wsX3_isOutside := goodIn_r _ [7] (by decide +kernel) (by decide +kernel)
set_option maxRecDepth 20000 in
theorem gX3_item_X3_isOutside : GoodIn wsX3_item (va_wsS RX3 19 yX3_isOutside wsX3_isOutside) := goodIn_app (goodIn_of _ (by decide +kernel)) ggX3_item_X3_isOutside
set_option maxRecDepth 20000 in
theorem ggX3_item_X3_rowOf : GoodIn wsX3_item wsX3_rowOf := goodIn_r _ [11, 12, 13, 14, 44, 45, 40, 41, 42, 43] (by decide +kernel) (by decide +kernel)
set_option maxRecDepth 20000 in
theorem gX3_item_X3_rowOf : GoodIn wsX3_item (wsV RX3 39 RX3 yX3_rowOf wsX3_rowOf) := goodIn_app (goodIn_of _ (by decide +kernel)) ggX3_item_X3_rowOf
set_option maxRecDepth 20000 in
theorem ggX3_item_X1_has : GoodIn wsX3_item wsX1_has := goodIn_r _ [19, 20, 40, 41, 42, 43] (by decide +kernel) (by decide +kernel)
set_option maxRecDepth 20000 in
theorem gX3_item_X1_has : GoodIn wsX3_item (wsV RX3 46 RX1 yX1_has wsX1_has) := goodIn_app (goodIn_of _ (by decide +kernel)) ggX3_item_X1_has
set_option maxRecDepth 20000 in
theorem ggX3_item_X3_fail : GoodIn wsX3_item wsX3_fail := goodIn_r _ [24, 13, 44, 45] (by decide +kernel) (by decide +kernel)
set_option maxRecDepth 20000 in
theorem gX3_item_X3_fail : GoodIn wsX3_item (wsV RX3 24 RX3 yX3_fail wsX3_fail) := goodIn_app (goodIn_of _ (by decide +kernel)) ggX3_item_X3_fail
set_option maxRecDepth 20000 in
theorem ggX3_item_X1_isOfNumbers : GoodIn wsX3_item wsX1_isOfNumbers := goodIn_r _ [28, 29, 40, 41, 42, 43] (by decide +kernel) (by decide +kernel)
set_option maxRecDepth 20000 in
theorem gX3_item_X1_isOfNumbers : GoodIn wsX3_item (wsV RX3 67 RX1 yX1_isOfNumbers wsX1_isOfNumbers) := goodIn_app (goodIn_of _ (by decide +kernel)) ggX3_item_X1_isOfNumbers
set_option maxRecDepth 20000 in
theorem ggX3_item_X1_shown : GoodIn wsX3_item wsX1_shown := goodIn_r _ [34, 20, 40, 41, 42, 43] (by decide +kernel) (by decide +kernel)
set_option maxRecDepth 20000 in
theorem gX3_item_X1_shown_u71X1 : GoodIn wsX3_item (va_wsU RX3 71 RX1 "CopyRows$Part" ⟨"CopyRows$Part", "shown", "()I"⟩ yX1_shown wsX1_shown) := goodIn_app (goodIn_of _ (by decide +kernel)) ggX3_item_X1_shown
set_option maxRecDepth 20000 in
theorem ggX3_item_X2_shown : GoodIn wsX3_item wsX2_shown := goodIn_r _ [38, 39, 46, 47] (by decide +kernel) (by decide +kernel)
set_option maxRecDepth 20000 in
theorem gX3_item_X2_shown_u71X2 : GoodIn wsX3_item (va_wsU RX3 71 RX2 "CopyRows$Part" ⟨"CopyRows$Part", "shown", "()I"⟩ yX2_shown wsX2_shown) := goodIn_app (goodIn_of _ (by decide +kernel)) ggX3_item_X2_shown
theorem dX3_item_0 : decode cX3_item 0 = .ok (.iload_n 1, 1) := by decide +kernel
theorem dX3_item_1 : decode cX3_item 1 = .ok (.invokestatic 19, 3) := by decide +kernel
theorem dX3_item_4 : decode cX3_item 4 = .ok (.ifCond .eq 6, 3) := by decide +kernel
theorem dX3_item_7 : decode cX3_item 7 = .ok (.ldc 23, 2) := by decide +kernel
theorem dX3_item_9 : decode cX3_item 9 = .ok (.ireturn, 1) := by decide +kernel
theorem dX3_item_10 : decode cX3_item 10 = .ok (.aload_n 0, 1) := by decide +kernel
theorem dX3_item_11 : decode cX3_item 11 = .ok (.iload_n 1, 1) := by decide +kernel
theorem dX3_item_12 : decode cX3_item 12 = .ok (.bipush 63, 2) := by decide +kernel
theorem dX3_item_14 : decode cX3_item 14 = .ok (.invokevirtual 39, 3) := by decide +kernel
theorem dX3_item_17 : decode cX3_item 17 = .ok (.astore_n 3, 1) := by decide +kernel
theorem dX3_item_18 : decode cX3_item 18 = .ok (.aload_n 3, 1) := by decide +kernel
theorem dX3_item_19 : decode cX3_item 19 = .ok (.ifnonnull 5, 3) := by decide +kernel
theorem dX3_item_22 : decode cX3_item 22 = .ok (.iconst 0, 1) := by decide +kernel
theorem dX3_item_23 : decode cX3_item 23 = .ok (.ireturn, 1) := by decide +kernel
theorem dX3_item_24 : decode cX3_item 24 = .ok (.aload_n 3, 1) := by decide +kernel
theorem dX3_item_25 : decode cX3_item 25 = .ok (.iload_n 2, 1) := by decide +kernel
theorem dX3_item_26 : decode cX3_item 26 = .ok (.invokevirtual 46, 3) := by decide +kernel
theorem dX3_item_29 : decode cX3_item 29 = .ok (.ifCond .ne 9, 3) := by decide +kernel
theorem dX3_item_32 : decode cX3_item 32 = .ok (.aload_n 0, 1) := by decide +kernel
theorem dX3_item_33 : decode cX3_item 33 = .ok (.iconst 3, 1) := by decide +kernel
theorem dX3_item_34 : decode cX3_item 34 = .ok (.invokevirtual 24, 3) := by decide +kernel
theorem dX3_item_37 : decode cX3_item 37 = .ok (.ireturn, 1) := by decide +kernel
theorem dX3_item_38 : decode cX3_item 38 = .ok (.aload_n 3, 1) := by decide +kernel
theorem dX3_item_39 : decode cX3_item 39 = .ok (.invokevirtual 67, 3) := by decide +kernel
theorem dX3_item_42 : decode cX3_item 42 = .ok (.ifCond .eq 10, 3) := by decide +kernel
theorem dX3_item_45 : decode cX3_item 45 = .ok (.aload_n 3, 1) := by decide +kernel
theorem dX3_item_46 : decode cX3_item 46 = .ok (.getfield 49, 3) := by decide +kernel
theorem dX3_item_49 : decode cX3_item 49 = .ok (.iload_n 2, 1) := by decide +kernel
theorem dX3_item_50 : decode cX3_item 50 = .ok (.iaload, 1) := by decide +kernel
theorem dX3_item_51 : decode cX3_item 51 = .ok (.ireturn, 1) := by decide +kernel
theorem dX3_item_52 : decode cX3_item 52 = .ok (.aload_n 3, 1) := by decide +kernel
theorem dX3_item_53 : decode cX3_item 53 = .ok (.getfield 63, 3) := by decide +kernel
theorem dX3_item_56 : decode cX3_item 56 = .ok (.iload_n 2, 1) := by decide +kernel
theorem dX3_item_57 : decode cX3_item 57 = .ok (.aaload, 1) := by decide +kernel
theorem dX3_item_58 : decode cX3_item 58 = .ok (.astore 4, 2) := by decide +kernel
theorem dX3_item_60 : decode cX3_item 60 = .ok (.aload 4, 2) := by decide +kernel
theorem dX3_item_62 : decode cX3_item 62 = .ok (.ifnonnull 11, 3) := by decide +kernel
theorem dX3_item_65 : decode cX3_item 65 = .ok (.aload_n 0, 1) := by decide +kernel
theorem dX3_item_66 : decode cX3_item 66 = .ok (.iconst 1, 1) := by decide +kernel
theorem dX3_item_67 : decode cX3_item 67 = .ok (.invokevirtual 24, 3) := by decide +kernel
theorem dX3_item_70 : decode cX3_item 70 = .ok (.goto 8, 3) := by decide +kernel
theorem dX3_item_73 : decode cX3_item 73 = .ok (.aload 4, 2) := by decide +kernel
theorem dX3_item_75 : decode cX3_item 75 = .ok (.invokevirtual 71, 3) := by decide +kernel
theorem dX3_item_78 : decode cX3_item 78 = .ok (.ireturn, 1) := by decide +kernel
set_option maxRecDepth 20000 in
theorem ggX3_classOf_X3_isOutside : GoodIn wsX3_classOf wsX3_isOutside := goodIn_r _ [8] (by decide +kernel) (by decide +kernel)
set_option maxRecDepth 20000 in
theorem gX3_classOf_X3_isOutside : GoodIn wsX3_classOf (va_wsS RX3 19 yX3_isOutside wsX3_isOutside) := goodIn_app (goodIn_of _ (by decide +kernel)) ggX3_classOf_X3_isOutside
set_option maxRecDepth 20000 in
theorem ggX3_classOf_X3_rowOf : GoodIn wsX3_classOf wsX3_rowOf := goodIn_r _ [12, 13, 14, 15, 32, 33, 26, 27, 28, 29] (by decide +kernel) (by decide +kernel)
set_option maxRecDepth 20000 in
theorem gX3_classOf_X3_rowOf : GoodIn wsX3_classOf (wsV RX3 39 RX3 yX3_rowOf wsX3_rowOf) := goodIn_app (goodIn_of _ (by decide +kernel)) ggX3_classOf_X3_rowOf
set_option maxRecDepth 20000 in
theorem ggX3_classOf_X1_has : GoodIn wsX3_classOf wsX1_has := goodIn_r _ [20, 21, 26, 27, 28, 29] (by decide +kernel) (by decide +kernel)
set_option maxRecDepth 20000 in
theorem gX3_classOf_X1_has : GoodIn wsX3_classOf (wsV RX3 46 RX1 yX1_has wsX1_has) := goodIn_app (goodIn_of _ (by decide +kernel)) ggX3_classOf_X1_has
set_option maxRecDepth 20000 in
theorem ggX3_classOf_X3_fail : GoodIn wsX3_classOf wsX3_fail := goodIn_r _ [25, 14, 32, 33] (by decide +kernel) (by decide +kernel)
set_option maxRecDepth 20000 in
theorem gX3_classOf_X3_fail : GoodIn wsX3_classOf (wsV RX3 24 RX3 yX3_fail wsX3_fail) := goodIn_app (goodIn_of _ (by decide +kernel)) ggX3_classOf_X3_fail
theorem dX3_classOf_0 : decode cX3_classOf 0 = .ok (.iload_n 1, 1) := by decide +kernel
theorem dX3_classOf_1 : decode cX3_classOf 1 = .ok (.invokestatic 19, 3) := by decide +kernel
theorem dX3_classOf_4 : decode cX3_classOf 4 = .ok (.ifCond .eq 6, 3) := by decide +kernel
theorem dX3_classOf_7 : decode cX3_classOf 7 = .ok (.ldc 23, 2) := by decide +kernel
theorem dX3_classOf_9 : decode cX3_classOf 9 = .ok (.ireturn, 1) := by decide +kernel
theorem dX3_classOf_10 : decode cX3_classOf 10 = .ok (.aload_n 0, 1) := by decide +kernel
theorem dX3_classOf_11 : decode cX3_classOf 11 = .ok (.iload_n 1, 1) := by decide +kernel
theorem dX3_classOf_12 : decode cX3_classOf 12 = .ok (.bipush 56, 2) := by decide +kernel
theorem dX3_classOf_14 : decode cX3_classOf 14 = .ok (.invokevirtual 39, 3) := by decide +kernel
theorem dX3_classOf_17 : decode cX3_classOf 17 = .ok (.astore_n 3, 1) := by decide +kernel
theorem dX3_classOf_18 : decode cX3_classOf 18 = .ok (.aload_n 3, 1) := by decide +kernel
theorem dX3_classOf_19 : decode cX3_classOf 19 = .ok (.ifnonnull 5, 3) := by decide +kernel
theorem dX3_classOf_22 : decode cX3_classOf 22 = .ok (.iconst 0, 1) := by decide +kernel
theorem dX3_classOf_23 : decode cX3_classOf 23 = .ok (.ireturn, 1) := by decide +kernel
theorem dX3_classOf_24 : decode cX3_classOf 24 = .ok (.aload_n 3, 1) := by decide +kernel
theorem dX3_classOf_25 : decode cX3_classOf 25 = .ok (.iload_n 2, 1) := by decide +kernel
theorem dX3_classOf_26 : decode cX3_classOf 26 = .ok (.invokevirtual 46, 3) := by decide +kernel
theorem dX3_classOf_29 : decode cX3_classOf 29 = .ok (.ifCond .ne 9, 3) := by decide +kernel
theorem dX3_classOf_32 : decode cX3_classOf 32 = .ok (.aload_n 0, 1) := by decide +kernel
theorem dX3_classOf_33 : decode cX3_classOf 33 = .ok (.iconst 3, 1) := by decide +kernel
theorem dX3_classOf_34 : decode cX3_classOf 34 = .ok (.invokevirtual 24, 3) := by decide +kernel
theorem dX3_classOf_37 : decode cX3_classOf 37 = .ok (.ireturn, 1) := by decide +kernel
theorem dX3_classOf_38 : decode cX3_classOf 38 = .ok (.aload_n 3, 1) := by decide +kernel
theorem dX3_classOf_39 : decode cX3_classOf 39 = .ok (.getfield 63, 3) := by decide +kernel
theorem dX3_classOf_42 : decode cX3_classOf 42 = .ok (.iload_n 2, 1) := by decide +kernel
theorem dX3_classOf_43 : decode cX3_classOf 43 = .ok (.aaload, 1) := by decide +kernel
theorem dX3_classOf_44 : decode cX3_classOf 44 = .ok (.astore 5, 2) := by decide +kernel
theorem dX3_classOf_46 : decode cX3_classOf 46 = .ok (.aload 5, 2) := by decide +kernel
theorem dX3_classOf_48 : decode cX3_classOf 48 = .ok (.instanceof 56, 3) := by decide +kernel
theorem dX3_classOf_51 : decode cX3_classOf 51 = .ok (.ifCond .eq 18, 3) := by decide +kernel
theorem dX3_classOf_54 : decode cX3_classOf 54 = .ok (.aload 5, 2) := by decide +kernel
theorem dX3_classOf_56 : decode cX3_classOf 56 = .ok (.checkcast 56, 3) := by decide +kernel
theorem dX3_classOf_59 : decode cX3_classOf 59 = .ok (.astore 4, 2) := by decide +kernel
theorem dX3_classOf_61 : decode cX3_classOf 61 = .ok (.aload 4, 2) := by decide +kernel
theorem dX3_classOf_63 : decode cX3_classOf 63 = .ok (.getfield 77, 3) := by decide +kernel
theorem dX3_classOf_66 : decode cX3_classOf 66 = .ok (.goto 4, 3) := by decide +kernel
theorem dX3_classOf_69 : decode cX3_classOf 69 = .ok (.iconst (-1), 1) := by decide +kernel
theorem dX3_classOf_70 : decode cX3_classOf 70 = .ok (.ireturn, 1) := by decide +kernel
set_option maxRecDepth 20000 in
theorem ggX3_move_X3_isOutside : GoodIn wsX3_move wsX3_isOutside := goodIn_r _ [7] (by decide +kernel) (by decide +kernel)
set_option maxRecDepth 20000 in
theorem gX3_move_X3_isOutside : GoodIn wsX3_move (va_wsS RX3 19 yX3_isOutside wsX3_isOutside) := goodIn_app (goodIn_of _ (by decide +kernel)) ggX3_move_X3_isOutside
set_option maxRecDepth 20000 in
theorem ggX3_move_X3_fail : GoodIn wsX3_move wsX3_fail := goodIn_r _ [11, 3, 55, 56] (by decide +kernel) (by decide +kernel)
set_option maxRecDepth 20000 in
theorem gX3_move_X3_fail : GoodIn wsX3_move (wsV RX3 24 RX3 yX3_fail wsX3_fail) := goodIn_app (goodIn_of _ (by decide +kernel)) ggX3_move_X3_fail
set_option maxRecDepth 20000 in
theorem ggX3_move_X1_mayTakeOf : GoodIn wsX3_move wsX1_mayTakeOf := goodIn_r _ [16, 17, 18, 19, 20, 15, 21, 57, 58, 59, 60] (by decide +kernel) (by decide +kernel)
set_option maxRecDepth 20000 in
theorem gX3_move_X1_mayTakeOf : GoodIn wsX3_move (wsV RX3 80 RX1 yX1_mayTakeOf wsX1_mayTakeOf) := goodIn_app (goodIn_of _ (by decide +kernel)) ggX3_move_X1_mayTakeOf
set_option maxRecDepth 20000 in
theorem ggX3_move_X1_hasRange : GoodIn wsX3_move wsX1_hasRange := goodIn_r _ [25, 26, 57, 58, 59, 60] (by decide +kernel) (by decide +kernel)
set_option maxRecDepth 20000 in
theorem gX3_move_X1_hasRange : GoodIn wsX3_move (wsV RX3 84 RX1 yX1_hasRange wsX1_hasRange) := goodIn_app (goodIn_of _ (by decide +kernel)) ggX3_move_X1_hasRange
set_option maxRecDepth 20000 in
theorem ggX3_move_X1_countTaken : GoodIn wsX3_move wsX1_countTaken := goodIn_r _ [30, 31, 18, 19, 20, 15, 21, 17, 32, 33, 34, 35, 36, 37, 38, 39, 40, 41, 42, 43, 44, 45, 57, 58, 59, 60, 61, 62] (by decide +kernel) (by decide +kernel)
set_option maxRecDepth 20000 in
theorem gX3_move_X1_countTaken : GoodIn wsX3_move (wsV RX3 88 RX1 yX1_countTaken wsX1_countTaken) := goodIn_app (goodIn_of _ (by decide +kernel)) ggX3_move_X1_countTaken
set_option maxRecDepth 20000 in
theorem ggX3_move_X1_take : GoodIn wsX3_move wsX1_take := goodIn_r _ [49, 50, 51, 52, 53, 54, 31, 18, 19, 20, 15, 21, 17, 57, 58, 59, 60] (by decide +kernel) (by decide +kernel)
set_option maxRecDepth 20000 in
theorem gX3_move_X1_take : GoodIn wsX3_move (wsV RX3 92 RX1 yX1_take wsX1_take) := goodIn_app (goodIn_of _ (by decide +kernel)) ggX3_move_X1_take
theorem dX3_move_0 : decode cX3_move 0 = .ok (.iload_n 1, 1) := by decide +kernel
theorem dX3_move_1 : decode cX3_move 1 = .ok (.invokestatic 19, 3) := by decide +kernel
theorem dX3_move_4 : decode cX3_move 4 = .ok (.ifCond .ne 10, 3) := by decide +kernel
theorem dX3_move_7 : decode cX3_move 7 = .ok (.iload_n 3, 1) := by decide +kernel
theorem dX3_move_8 : decode cX3_move 8 = .ok (.invokestatic 19, 3) := by decide +kernel
theorem dX3_move_11 : decode cX3_move 11 = .ok (.ifCond .eq 6, 3) := by decide +kernel
theorem dX3_move_14 : decode cX3_move 14 = .ok (.ldc 23, 2) := by decide +kernel
theorem dX3_move_16 : decode cX3_move 16 = .ok (.ireturn, 1) := by decide +kernel
theorem dX3_move_17 : decode cX3_move 17 = .ok (.aload_n 0, 1) := by decide +kernel
theorem dX3_move_18 : decode cX3_move 18 = .ok (.getfield 11, 3) := by decide +kernel
theorem dX3_move_21 : decode cX3_move 21 = .ok (.iload_n 1, 1) := by decide +kernel
theorem dX3_move_22 : decode cX3_move 22 = .ok (.aaload, 1) := by decide +kernel
theorem dX3_move_23 : decode cX3_move 23 = .ok (.astore 6, 2) := by decide +kernel
theorem dX3_move_25 : decode cX3_move 25 = .ok (.aload_n 0, 1) := by decide +kernel
theorem dX3_move_26 : decode cX3_move 26 = .ok (.getfield 11, 3) := by decide +kernel
theorem dX3_move_29 : decode cX3_move 29 = .ok (.iload_n 3, 1) := by decide +kernel
theorem dX3_move_30 : decode cX3_move 30 = .ok (.aaload, 1) := by decide +kernel
theorem dX3_move_31 : decode cX3_move 31 = .ok (.astore 7, 2) := by decide +kernel
theorem dX3_move_33 : decode cX3_move 33 = .ok (.aload 6, 2) := by decide +kernel
theorem dX3_move_35 : decode cX3_move 35 = .ok (.ifnull 8, 3) := by decide +kernel
theorem dX3_move_38 : decode cX3_move 38 = .ok (.aload 7, 2) := by decide +kernel
theorem dX3_move_40 : decode cX3_move 40 = .ok (.ifnonnull 9, 3) := by decide +kernel
theorem dX3_move_43 : decode cX3_move 43 = .ok (.aload_n 0, 1) := by decide +kernel
theorem dX3_move_44 : decode cX3_move 44 = .ok (.iconst 1, 1) := by decide +kernel
theorem dX3_move_45 : decode cX3_move 45 = .ok (.invokevirtual 24, 3) := by decide +kernel
theorem dX3_move_48 : decode cX3_move 48 = .ok (.ireturn, 1) := by decide +kernel
theorem dX3_move_49 : decode cX3_move 49 = .ok (.aload 7, 2) := by decide +kernel
theorem dX3_move_51 : decode cX3_move 51 = .ok (.aload 6, 2) := by decide +kernel
theorem dX3_move_53 : decode cX3_move 53 = .ok (.invokevirtual 80, 3) := by decide +kernel
theorem dX3_move_56 : decode cX3_move 56 = .ok (.ifCond .ne 9, 3) := by decide +kernel
theorem dX3_move_59 : decode cX3_move 59 = .ok (.aload_n 0, 1) := by decide +kernel
theorem dX3_move_60 : decode cX3_move 60 = .ok (.iconst 2, 1) := by decide +kernel
theorem dX3_move_61 : decode cX3_move 61 = .ok (.invokevirtual 24, 3) := by decide +kernel
theorem dX3_move_64 : decode cX3_move 64 = .ok (.ireturn, 1) := by decide +kernel
theorem dX3_move_65 : decode cX3_move 65 = .ok (.aload 6, 2) := by decide +kernel
theorem dX3_move_67 : decode cX3_move 67 = .ok (.iload_n 2, 1) := by decide +kernel
theorem dX3_move_68 : decode cX3_move 68 = .ok (.iload 5, 2) := by decide +kernel
theorem dX3_move_70 : decode cX3_move 70 = .ok (.invokevirtual 84, 3) := by decide +kernel
theorem dX3_move_73 : decode cX3_move 73 = .ok (.ifCond .eq 15, 3) := by decide +kernel
theorem dX3_move_76 : decode cX3_move 76 = .ok (.aload 7, 2) := by decide +kernel
theorem dX3_move_78 : decode cX3_move 78 = .ok (.iload 4, 2) := by decide +kernel
theorem dX3_move_80 : decode cX3_move 80 = .ok (.iload 5, 2) := by decide +kernel
theorem dX3_move_82 : decode cX3_move 82 = .ok (.invokevirtual 84, 3) := by decide +kernel
theorem dX3_move_85 : decode cX3_move 85 = .ok (.ifCond .ne 9, 3) := by decide +kernel
theorem dX3_move_88 : decode cX3_move 88 = .ok (.aload_n 0, 1) := by decide +kernel
theorem dX3_move_89 : decode cX3_move 89 = .ok (.iconst 3, 1) := by decide +kernel
theorem dX3_move_90 : decode cX3_move 90 = .ok (.invokevirtual 24, 3) := by decide +kernel
theorem dX3_move_93 : decode cX3_move 93 = .ok (.ireturn, 1) := by decide +kernel
theorem dX3_move_94 : decode cX3_move 94 = .ok (.aload 7, 2) := by decide +kernel
theorem dX3_move_96 : decode cX3_move 96 = .ok (.aload 6, 2) := by decide +kernel
theorem dX3_move_98 : decode cX3_move 98 = .ok (.iload_n 2, 1) := by decide +kernel
theorem dX3_move_99 : decode cX3_move 99 = .ok (.iload 5, 2) := by decide +kernel
theorem dX3_move_101 : decode cX3_move 101 = .ok (.invokevirtual 88, 3) := by decide +kernel
theorem dX3_move_104 : decode cX3_move 104 = .ok (.istore 8, 2) := by decide +kernel
theorem dX3_move_106 : decode cX3_move 106 = .ok (.aload 7, 2) := by decide +kernel
theorem dX3_move_108 : decode cX3_move 108 = .ok (.aload 6, 2) := by decide +kernel
theorem dX3_move_110 : decode cX3_move 110 = .ok (.iload_n 2, 1) := by decide +kernel
theorem dX3_move_111 : decode cX3_move 111 = .ok (.iload 4, 2) := by decide +kernel
theorem dX3_move_113 : decode cX3_move 113 = .ok (.iload 8, 2) := by decide +kernel
theorem dX3_move_115 : decode cX3_move 115 = .ok (.invokevirtual 92, 3) := by decide +kernel
theorem dX3_move_118 : decode cX3_move 118 = .ok (.aload_n 0, 1) := by decide +kernel
theorem dX3_move_119 : decode cX3_move 119 = .ok (.iload 8, 2) := by decide +kernel
theorem dX3_move_121 : decode cX3_move 121 = .ok (.iload 5, 2) := by decide +kernel
theorem dX3_move_123 : decode cX3_move 123 = .ok (.if_icmp .ge 7, 3) := by decide +kernel
theorem dX3_move_126 : decode cX3_move 126 = .ok (.iconst 2, 1) := by decide +kernel
theorem dX3_move_127 : decode cX3_move 127 = .ok (.goto 4, 3) := by decide +kernel
theorem dX3_move_130 : decode cX3_move 130 = .ok (.iconst 0, 1) := by decide +kernel
theorem dX3_move_131 : decode cX3_move 131 = .ok (.putfield 15, 3) := by decide +kernel
theorem dX3_move_134 : decode cX3_move 134 = .ok (.iload 8, 2) := by decide +kernel
theorem dX3_move_136 : decode cX3_move 136 = .ok (.ireturn, 1) := by decide +kernel
set_option maxRecDepth 20000 in
theorem ggX3_loop_X3_isOutside : GoodIn wsX3_loop wsX3_isOutside := goodIn_r _ [11] (by decide +kernel) (by decide +kernel)
set_option maxRecDepth 20000 in
theorem gX3_loop_X3_isOutside : GoodIn wsX3_loop (va_wsS RX3 19 yX3_isOutside wsX3_isOutside) := goodIn_app (goodIn_of _ (by decide +kernel)) ggX3_loop_X3_isOutside
set_option maxRecDepth 20000 in
theorem ggX3_loop_X3_fail : GoodIn wsX3_loop wsX3_fail := goodIn_r _ [15, 3, 62, 63] (by decide +kernel) (by decide +kernel)
set_option maxRecDepth 20000 in
theorem gX3_loop_X3_fail : GoodIn wsX3_loop (wsV RX3 24 RX3 yX3_fail wsX3_fail) := goodIn_app (goodIn_of _ (by decide +kernel)) ggX3_loop_X3_fail
set_option maxRecDepth 20000 in
theorem ggX3_loop_X1_mayTakeOf : GoodIn wsX3_loop wsX1_mayTakeOf := goodIn_r _ [20, 21, 22, 23, 24, 19, 25, 64, 65, 66, 67] (by decide +kernel) (by decide +kernel)
set_option maxRecDepth 20000 in
theorem gX3_loop_X1_mayTakeOf : GoodIn wsX3_loop (wsV RX3 80 RX1 yX1_mayTakeOf wsX1_mayTakeOf) := goodIn_app (goodIn_of _ (by decide +kernel)) ggX3_loop_X1_mayTakeOf
set_option maxRecDepth 20000 in
theorem ggX3_loop_X3_moveOne : GoodIn wsX3_loop wsX3_moveOne := goodIn_r _ [28, 29, 30, 31, 19, 32, 33, 34, 35, 36, 37, 38, 22, 23, 24, 25, 21, 39, 40, 41, 42, 43, 44, 45, 46, 47, 48, 49, 50, 51, 52, 53, 54, 55, 56, 57, 58, 59, 60, 61, 64, 65, 66, 67, 68, 69] (by decide +kernel) (by decide +kernel)
set_option maxRecDepth 20000 in
theorem gX3_loop_X3_moveOne : GoodIn wsX3_loop (va_wsS RX3 96 yX3_moveOne wsX3_moveOne) := goodIn_app (goodIn_of _ (by decide +kernel)) ggX3_loop_X3_moveOne
theorem dX3_loop_0 : decode cX3_loop 0 = .ok (.iload_n 1, 1) := by decide +kernel
theorem dX3_loop_1 : decode cX3_loop 1 = .ok (.invokestatic 19, 3) := by decide +kernel
theorem dX3_loop_4 : decode cX3_loop 4 = .ok (.ifCond .ne 10, 3) := by decide +kernel
theorem dX3_loop_7 : decode cX3_loop 7 = .ok (.iload_n 3, 1) := by decide +kernel
theorem dX3_loop_8 : decode cX3_loop 8 = .ok (.invokestatic 19, 3) := by decide +kernel
theorem dX3_loop_11 : decode cX3_loop 11 = .ok (.ifCond .eq 6, 3) := by decide +kernel
theorem dX3_loop_14 : decode cX3_loop 14 = .ok (.ldc 23, 2) := by decide +kernel
theorem dX3_loop_16 : decode cX3_loop 16 = .ok (.ireturn, 1) := by decide +kernel
theorem dX3_loop_17 : decode cX3_loop 17 = .ok (.aload_n 0, 1) := by decide +kernel
theorem dX3_loop_18 : decode cX3_loop 18 = .ok (.getfield 11, 3) := by decide +kernel
theorem dX3_loop_21 : decode cX3_loop 21 = .ok (.iload_n 1, 1) := by decide +kernel
theorem dX3_loop_22 : decode cX3_loop 22 = .ok (.aaload, 1) := by decide +kernel
theorem dX3_loop_23 : decode cX3_loop 23 = .ok (.astore 6, 2) := by decide +kernel
theorem dX3_loop_25 : decode cX3_loop 25 = .ok (.aload_n 0, 1) := by decide +kernel
theorem dX3_loop_26 : decode cX3_loop 26 = .ok (.getfield 11, 3) := by decide +kernel
theorem dX3_loop_29 : decode cX3_loop 29 = .ok (.iload_n 3, 1) := by decide +kernel
theorem dX3_loop_30 : decode cX3_loop 30 = .ok (.aaload, 1) := by decide +kernel
theorem dX3_loop_31 : decode cX3_loop 31 = .ok (.astore 7, 2) := by decide +kernel
theorem dX3_loop_33 : decode cX3_loop 33 = .ok (.aload 6, 2) := by decide +kernel
theorem dX3_loop_35 : decode cX3_loop 35 = .ok (.ifnull 8, 3) := by decide +kernel
theorem dX3_loop_38 : decode cX3_loop 38 = .ok (.aload 7, 2) := by decide +kernel
theorem dX3_loop_40 : decode cX3_loop 40 = .ok (.ifnonnull 9, 3) := by decide +kernel
theorem dX3_loop_43 : decode cX3_loop 43 = .ok (.aload_n 0, 1) := by decide +kernel
theorem dX3_loop_44 : decode cX3_loop 44 = .ok (.iconst 1, 1) := by decide +kernel
theorem dX3_loop_45 : decode cX3_loop 45 = .ok (.invokevirtual 24, 3) := by decide +kernel
theorem dX3_loop_48 : decode cX3_loop 48 = .ok (.ireturn, 1) := by decide +kernel
theorem dX3_loop_49 : decode cX3_loop 49 = .ok (.aload 7, 2) := by decide +kernel
theorem dX3_loop_51 : decode cX3_loop 51 = .ok (.aload 6, 2) := by decide +kernel
theorem dX3_loop_53 : decode cX3_loop 53 = .ok (.invokevirtual 80, 3) := by decide +kernel
theorem dX3_loop_56 : decode cX3_loop 56 = .ok (.ifCond .ne 9, 3) := by decide +kernel
theorem dX3_loop_59 : decode cX3_loop 59 = .ok (.aload_n 0, 1) := by decide +kernel
theorem dX3_loop_60 : decode cX3_loop 60 = .ok (.iconst 2, 1) := by decide +kernel
theorem dX3_loop_61 : decode cX3_loop 61 = .ok (.invokevirtual 24, 3) := by decide +kernel
theorem dX3_loop_64 : decode cX3_loop 64 = .ok (.ireturn, 1) := by decide +kernel
theorem dX3_loop_65 : decode cX3_loop 65 = .ok (.aload_n 0, 1) := by decide +kernel
theorem dX3_loop_66 : decode cX3_loop 66 = .ok (.iconst 0, 1) := by decide +kernel
theorem dX3_loop_67 : decode cX3_loop 67 = .ok (.putfield 15, 3) := by decide +kernel
theorem dX3_loop_70 : decode cX3_loop 70 = .ok (.iconst 0, 1) := by decide +kernel
theorem dX3_loop_71 : decode cX3_loop 71 = .ok (.istore 8, 2) := by decide +kernel
theorem dX3_loop_73 : decode cX3_loop 73 = .ok (.iload 8, 2) := by decide +kernel
theorem dX3_loop_75 : decode cX3_loop 75 = .ok (.iload 5, 2) := by decide +kernel
theorem dX3_loop_77 : decode cX3_loop 77 = .ok (.if_icmp .ge 39, 3) := by decide +kernel
theorem dX3_loop_80 : decode cX3_loop 80 = .ok (.aload_n 0, 1) := by decide +kernel
theorem dX3_loop_81 : decode cX3_loop 81 = .ok (.aload 6, 2) := by decide +kernel
theorem dX3_loop_83 : decode cX3_loop 83 = .ok (.iload_n 2, 1) := by decide +kernel
theorem dX3_loop_84 : decode cX3_loop 84 = .ok (.iload 8, 2) := by decide +kernel
theorem dX3_loop_86 : decode cX3_loop 86 = .ok (.iadd, 1) := by decide +kernel
theorem dX3_loop_87 : decode cX3_loop 87 = .ok (.aload 7, 2) := by decide +kernel
theorem dX3_loop_89 : decode cX3_loop 89 = .ok (.iload 4, 2) := by decide +kernel
theorem dX3_loop_91 : decode cX3_loop 91 = .ok (.iload 8, 2) := by decide +kernel
theorem dX3_loop_93 : decode cX3_loop 93 = .ok (.iadd, 1) := by decide +kernel
theorem dX3_loop_94 : decode cX3_loop 94 = .ok (.invokestatic 96, 3) := by decide +kernel
theorem dX3_loop_97 : decode cX3_loop 97 = .ok (.putfield 15, 3) := by decide +kernel
theorem dX3_loop_100 : decode cX3_loop 100 = .ok (.aload_n 0, 1) := by decide +kernel
theorem dX3_loop_101 : decode cX3_loop 101 = .ok (.getfield 15, 3) := by decide +kernel
theorem dX3_loop_104 : decode cX3_loop 104 = .ok (.ifCond .eq 6, 3) := by decide +kernel
theorem dX3_loop_107 : decode cX3_loop 107 = .ok (.iload 8, 2) := by decide +kernel
theorem dX3_loop_109 : decode cX3_loop 109 = .ok (.ireturn, 1) := by decide +kernel
theorem dX3_loop_110 : decode cX3_loop 110 = .ok (.iinc 8 1, 3) := by decide +kernel
theorem dX3_loop_113 : decode cX3_loop 113 = .ok (.goto (-40), 3) := by decide +kernel
theorem dX3_loop_116 : decode cX3_loop 116 = .ok (.iload 5, 2) := by decide +kernel
theorem dX3_loop_118 : decode cX3_loop 118 = .ok (.iconst 0, 1) := by decide +kernel
theorem dX3_loop_119 : decode cX3_loop 119 = .ok (.invokestatic 100, 3) := by decide +kernel
theorem dX3_loop_122 : decode cX3_loop 122 = .ok (.ireturn, 1) := by decide +kernel
set_option maxRecDepth 20000 in
theorem ggX3_copy_X3_isOutside : GoodIn wsX3_copy wsX3_isOutside := goodIn_r _ [6] (by decide +kernel) (by decide +kernel)
set_option maxRecDepth 20000 in
theorem gX3_copy_X3_isOutside : GoodIn wsX3_copy (va_wsS RX3 19 yX3_isOutside wsX3_isOutside) := goodIn_app (goodIn_of _ (by decide +kernel)) ggX3_copy_X3_isOutside
set_option maxRecDepth 20000 in
theorem ggX3_copy_X3_rowOf : GoodIn wsX3_copy wsX3_rowOf := goodIn_r _ [10, 11, 12, 13, 56, 57, 52, 53, 54, 55] (by decide +kernel) (by decide +kernel)
set_option maxRecDepth 20000 in
theorem gX3_copy_X3_rowOf : GoodIn wsX3_copy (wsV RX3 39 RX3 yX3_rowOf wsX3_rowOf) := goodIn_app (goodIn_of _ (by decide +kernel)) ggX3_copy_X3_rowOf
set_option maxRecDepth 20000 in
theorem ggX3_copy_X1_cut : GoodIn wsX3_copy wsX1_cut := goodIn_r _ [18, 19, 20, 17, 21, 22, 23, 24, 25, 26, 27, 28, 29, 30, 31, 32, 33, 34, 35, 36, 37, 38, 39, 40, 41, 42, 43, 44, 45, 46, 47, 52, 53, 54, 55] (by decide +kernel) (by decide +kernel)
set_option maxRecDepth 20000 in
theorem gX3_copy_X1_cut : GoodIn wsX3_copy (wsV RX3 106 RX1 yX1_cut wsX1_cut) := goodIn_app (goodIn_of _ (by decide +kernel)) ggX3_copy_X1_cut
set_option maxRecDepth 20000 in
theorem ggX3_copy_X3_put : GoodIn wsX3_copy wsX3_put := goodIn_r _ [51, 11, 12, 2, 56, 57, 52, 53, 54, 55] (by decide +kernel) (by decide +kernel)
set_option maxRecDepth 20000 in
theorem gX3_copy_X3_put : GoodIn wsX3_copy (wsV RX3 31 RX3 yX3_put wsX3_put) := goodIn_app (goodIn_of _ (by decide +kernel)) ggX3_copy_X3_put
theorem dX3_copy_0 : decode cX3_copy 0 = .ok (.iload_n 1, 1) := by decide +kernel
theorem dX3_copy_1 : decode cX3_copy 1 = .ok (.invokestatic 19, 3) := by decide +kernel
theorem dX3_copy_4 : decode cX3_copy 4 = .ok (.ifCond .ne 10, 3) := by decide +kernel
theorem dX3_copy_7 : decode cX3_copy 7 = .ok (.iload_n 2, 1) := by decide +kernel
theorem dX3_copy_8 : decode cX3_copy 8 = .ok (.invokestatic 19, 3) := by decide +kernel
theorem dX3_copy_11 : decode cX3_copy 11 = .ok (.ifCond .eq 6, 3) := by decide +kernel
theorem dX3_copy_14 : decode cX3_copy 14 = .ok (.ldc 23, 2) := by decide +kernel
theorem dX3_copy_16 : decode cX3_copy 16 = .ok (.ireturn, 1) := by decide +kernel
theorem dX3_copy_17 : decode cX3_copy 17 = .ok (.aload_n 0, 1) := by decide +kernel
theorem dX3_copy_18 : decode cX3_copy 18 = .ok (.iload_n 2, 1) := by decide +kernel
theorem dX3_copy_19 : decode cX3_copy 19 = .ok (.bipush 63, 2) := by decide +kernel
theorem dX3_copy_21 : decode cX3_copy 21 = .ok (.invokevirtual 39, 3) := by decide +kernel
theorem dX3_copy_24 : decode cX3_copy 24 = .ok (.astore_n 3, 1) := by decide +kernel
theorem dX3_copy_25 : decode cX3_copy 25 = .ok (.aload_n 3, 1) := by decide +kernel
theorem dX3_copy_26 : decode cX3_copy 26 = .ok (.ifnonnull 7, 3) := by decide +kernel
theorem dX3_copy_29 : decode cX3_copy 29 = .ok (.iconst 0, 1) := by decide +kernel
theorem dX3_copy_30 : decode cX3_copy 30 = .ok (.goto 17, 3) := by decide +kernel
theorem dX3_copy_33 : decode cX3_copy 33 = .ok (.aload_n 0, 1) := by decide +kernel
theorem dX3_copy_34 : decode cX3_copy 34 = .ok (.iload_n 1, 1) := by decide +kernel
theorem dX3_copy_35 : decode cX3_copy 35 = .ok (.aload_n 3, 1) := by decide +kernel
theorem dX3_copy_36 : decode cX3_copy 36 = .ok (.iconst 0, 1) := by decide +kernel
theorem dX3_copy_37 : decode cX3_copy 37 = .ok (.aload_n 3, 1) := by decide +kernel
theorem dX3_copy_38 : decode cX3_copy 38 = .ok (.getfield 43, 3) := by decide +kernel
theorem dX3_copy_41 : decode cX3_copy 41 = .ok (.invokevirtual 106, 3) := by decide +kernel
theorem dX3_copy_44 : decode cX3_copy 44 = .ok (.invokevirtual 31, 3) := by decide +kernel
theorem dX3_copy_47 : decode cX3_copy 47 = .ok (.ireturn, 1) := by decide +kernel
set_option maxRecDepth 20000 in
theorem ggX3_slice_X3_isOutside : GoodIn wsX3_slice wsX3_isOutside := goodIn_r _ [5] (by decide +kernel) (by decide +kernel)
set_option maxRecDepth 20000 in
theorem gX3_slice_X3_isOutside : GoodIn wsX3_slice (va_wsS RX3 19 yX3_isOutside wsX3_isOutside) := goodIn_app (goodIn_of _ (by decide +kernel)) ggX3_slice_X3_isOutside
set_option maxRecDepth 20000 in
theorem ggX3_slice_X3_rowOf : GoodIn wsX3_slice wsX3_rowOf := goodIn_r _ [9, 10, 11, 12, 60, 61, 62, 63, 64, 65] (by decide +kernel) (by decide +kernel)
set_option maxRecDepth 20000 in
theorem gX3_slice_X3_rowOf : GoodIn wsX3_slice (wsV RX3 39 RX3 yX3_rowOf wsX3_rowOf) := goodIn_app (goodIn_of _ (by decide +kernel)) ggX3_slice_X3_rowOf
set_option maxRecDepth 20000 in
theorem ggX3_slice_X3_fail : GoodIn wsX3_slice wsX3_fail := goodIn_r _ [16, 11, 60, 61] (by decide +kernel) (by decide +kernel)
set_option maxRecDepth 20000 in
theorem gX3_slice_X3_fail : GoodIn wsX3_slice (wsV RX3 24 RX3 yX3_fail wsX3_fail) := goodIn_app (goodIn_of _ (by decide +kernel)) ggX3_slice_X3_fail
set_option maxRecDepth 20000 in
theorem ggX3_slice_X1_hasRange : GoodIn wsX3_slice wsX1_hasRange := goodIn_r _ [21, 22, 62, 63, 64, 65] (by decide +kernel) (by decide +kernel)
set_option maxRecDepth 20000 in
theorem gX3_slice_X1_hasRange : GoodIn wsX3_slice (wsV RX3 84 RX1 yX1_hasRange wsX1_hasRange) := goodIn_app (goodIn_of _ (by decide +kernel)) ggX3_slice_X1_hasRange
set_option maxRecDepth 20000 in
theorem ggX3_slice_X1_cut : GoodIn wsX3_slice wsX1_cut := goodIn_r _ [26, 27, 28, 20, 29, 30, 31, 32, 22, 33, 34, 35, 36, 37, 38, 39, 40, 41, 42, 43, 44, 45, 46, 47, 48, 49, 50, 51, 52, 53, 54, 62, 63, 64, 65] (by decide +kernel) (by decide +kernel)
set_option maxRecDepth 20000 in
theorem gX3_slice_X1_cut : GoodIn wsX3_slice (wsV RX3 106 RX1 yX1_cut wsX1_cut) := goodIn_app (goodIn_of _ (by decide +kernel)) ggX3_slice_X1_cut
set_option maxRecDepth 20000 in
theorem ggX3_slice_X3_put : GoodIn wsX3_slice wsX3_put := goodIn_r _ [58, 10, 11, 59, 60, 61, 62, 63, 64, 65] (by decide +kernel) (by decide +kernel)
set_option maxRecDepth 20000 in
theorem gX3_slice_X3_put : GoodIn wsX3_slice (wsV RX3 31 RX3 yX3_put wsX3_put) := goodIn_app (goodIn_of _ (by decide +kernel)) ggX3_slice_X3_put
theorem dX3_slice_0 : decode cX3_slice 0 = .ok (.iload_n 1, 1) := by decide +kernel
theorem dX3_slice_1 : decode cX3_slice 1 = .ok (.invokestatic 19, 3) := by decide +kernel
theorem dX3_slice_4 : decode cX3_slice 4 = .ok (.ifCond .ne 10, 3) := by decide +kernel
theorem dX3_slice_7 : decode cX3_slice 7 = .ok (.iload_n 2, 1) := by decide +kernel
theorem dX3_slice_8 : decode cX3_slice 8 = .ok (.invokestatic 19, 3) := by decide +kernel
theorem dX3_slice_11 : decode cX3_slice 11 = .ok (.ifCond .eq 6, 3) := by decide +kernel
theorem dX3_slice_14 : decode cX3_slice 14 = .ok (.ldc 23, 2) := by decide +kernel
theorem dX3_slice_16 : decode cX3_slice 16 = .ok (.ireturn, 1) := by decide +kernel
theorem dX3_slice_17 : decode cX3_slice 17 = .ok (.aload_n 0, 1) := by decide +kernel
theorem dX3_slice_18 : decode cX3_slice 18 = .ok (.iload_n 2, 1) := by decide +kernel
theorem dX3_slice_19 : decode cX3_slice 19 = .ok (.bipush 63, 2) := by decide +kernel
theorem dX3_slice_21 : decode cX3_slice 21 = .ok (.invokevirtual 39, 3) := by decide +kernel
theorem dX3_slice_24 : decode cX3_slice 24 = .ok (.astore 5, 2) := by decide +kernel
theorem dX3_slice_26 : decode cX3_slice 26 = .ok (.aload 5, 2) := by decide +kernel
theorem dX3_slice_28 : decode cX3_slice 28 = .ok (.ifnonnull 5, 3) := by decide +kernel
theorem dX3_slice_31 : decode cX3_slice 31 = .ok (.iconst 0, 1) := by decide +kernel
theorem dX3_slice_32 : decode cX3_slice 32 = .ok (.ireturn, 1) := by decide +kernel
theorem dX3_slice_33 : decode cX3_slice 33 = .ok (.iload 4, 2) := by decide +kernel
theorem dX3_slice_35 : decode cX3_slice 35 = .ok (.ifCond .ge 9, 3) := by decide +kernel
theorem dX3_slice_38 : decode cX3_slice 38 = .ok (.aload_n 0, 1) := by decide +kernel
theorem dX3_slice_39 : decode cX3_slice 39 = .ok (.iconst 4, 1) := by decide +kernel
theorem dX3_slice_40 : decode cX3_slice 40 = .ok (.invokevirtual 24, 3) := by decide +kernel
theorem dX3_slice_43 : decode cX3_slice 43 = .ok (.ireturn, 1) := by decide +kernel
theorem dX3_slice_44 : decode cX3_slice 44 = .ok (.aload 5, 2) := by decide +kernel
theorem dX3_slice_46 : decode cX3_slice 46 = .ok (.iload_n 3, 1) := by decide +kernel
theorem dX3_slice_47 : decode cX3_slice 47 = .ok (.iload 4, 2) := by decide +kernel
theorem dX3_slice_49 : decode cX3_slice 49 = .ok (.invokevirtual 84, 3) := by decide +kernel
theorem dX3_slice_52 : decode cX3_slice 52 = .ok (.ifCond .ne 9, 3) := by decide +kernel
theorem dX3_slice_55 : decode cX3_slice 55 = .ok (.aload_n 0, 1) := by decide +kernel
theorem dX3_slice_56 : decode cX3_slice 56 = .ok (.iconst 3, 1) := by decide +kernel
theorem dX3_slice_57 : decode cX3_slice 57 = .ok (.invokevirtual 24, 3) := by decide +kernel
theorem dX3_slice_60 : decode cX3_slice 60 = .ok (.ireturn, 1) := by decide +kernel
theorem dX3_slice_61 : decode cX3_slice 61 = .ok (.aload_n 0, 1) := by decide +kernel
theorem dX3_slice_62 : decode cX3_slice 62 = .ok (.iload_n 1, 1) := by decide +kernel
theorem dX3_slice_63 : decode cX3_slice 63 = .ok (.aload 5, 2) := by decide +kernel
theorem dX3_slice_65 : decode cX3_slice 65 = .ok (.iload_n 3, 1) := by decide +kernel
theorem dX3_slice_66 : decode cX3_slice 66 = .ok (.iload 4, 2) := by decide +kernel
theorem dX3_slice_68 : decode cX3_slice 68 = .ok (.invokevirtual 106, 3) := by decide +kernel
theorem dX3_slice_71 : decode cX3_slice 71 = .ok (.invokevirtual 31, 3) := by decide +kernel
theorem dX3_slice_74 : decode cX3_slice 74 = .ok (.ireturn, 1) := by decide +kernel
set_option maxRecDepth 20000 in
theorem ggX3_join_X3_isOutside : GoodIn wsX3_join wsX3_isOutside := goodIn_r _ [11] (by decide +kernel) (by decide +kernel)
set_option maxRecDepth 20000 in
theorem gX3_join_X3_isOutside : GoodIn wsX3_join (va_wsS RX3 19 yX3_isOutside wsX3_isOutside) := goodIn_app (goodIn_of _ (by decide +kernel)) ggX3_join_X3_isOutside
set_option maxRecDepth 20000 in
theorem ggX3_join_X3_fail : GoodIn wsX3_join wsX3_fail := goodIn_r _ [15, 16, 70, 71] (by decide +kernel) (by decide +kernel)
set_option maxRecDepth 20000 in
theorem gX3_join_X3_fail : GoodIn wsX3_join (wsV RX3 24 RX3 yX3_fail wsX3_fail) := goodIn_app (goodIn_of _ (by decide +kernel)) ggX3_join_X3_fail
set_option maxRecDepth 20000 in
theorem ggX3_join_X1_mayTakeOf : GoodIn wsX3_join wsX1_mayTakeOf := goodIn_r _ [20, 21, 22, 23, 24, 7, 25, 72, 73, 74, 75] (by decide +kernel) (by decide +kernel)
set_option maxRecDepth 20000 in
theorem gX3_join_X1_mayTakeOf : GoodIn wsX3_join (wsV RX3 80 RX1 yX1_mayTakeOf wsX1_mayTakeOf) := goodIn_app (goodIn_of _ (by decide +kernel)) ggX3_join_X1_mayTakeOf
set_option maxRecDepth 20000 in
theorem ggX3_join_X1_countTaken : GoodIn wsX3_join wsX1_countTaken := goodIn_r _ [29, 30, 22, 23, 24, 7, 25, 21, 31, 32, 33, 34, 35, 36, 37, 38, 39, 40, 41, 42, 43, 44, 72, 73, 74, 75, 76, 77] (by decide +kernel) (by decide +kernel)
set_option maxRecDepth 20000 in
theorem gX3_join_X1_countTaken : GoodIn wsX3_join (wsV RX3 88 RX1 yX1_countTaken wsX1_countTaken) := goodIn_app (goodIn_of _ (by decide +kernel)) ggX3_join_X1_countTaken
set_option maxRecDepth 20000 in
theorem ggX3_join_X1_init : GoodIn wsX3_join wsX1_init := goodIn_r _ [47, 21, 48, 49, 50, 51, 30, 52, 53, 54, 55, 56, 57, 72, 73, 74, 75] (by decide +kernel) (by decide +kernel)
set_option maxRecDepth 20000 in
theorem gX3_join_X1_init : GoodIn wsX3_join (wsX1_init) := ggX3_join_X1_init
set_option maxRecDepth 20000 in
theorem ggX3_join_X1_take : GoodIn wsX3_join wsX1_take := goodIn_r _ [61, 50, 62, 63, 64, 65, 30, 22, 23, 24, 7, 25, 21, 72, 73, 74, 75] (by decide +kernel) (by decide +kernel)
set_option maxRecDepth 20000 in
theorem gX3_join_X1_take : GoodIn wsX3_join (wsV RX3 92 RX1 yX1_take wsX1_take) := goodIn_app (goodIn_of _ (by decide +kernel)) ggX3_join_X1_take
set_option maxRecDepth 20000 in
theorem ggX3_join_X3_put : GoodIn wsX3_join wsX3_put := goodIn_r _ [69, 2, 16, 4, 70, 71, 72, 73, 74, 75] (by decide +kernel) (by decide +kernel)
set_option maxRecDepth 20000 in
theorem gX3_join_X3_put : GoodIn wsX3_join (wsV RX3 31 RX3 yX3_put wsX3_put) := goodIn_app (goodIn_of _ (by decide +kernel)) ggX3_join_X3_put
theorem dX3_join_0 : decode cX3_join 0 = .ok (.iload_n 1, 1) := by decide +kernel
theorem dX3_join_1 : decode cX3_join 1 = .ok (.invokestatic 19, 3) := by decide +kernel
theorem dX3_join_4 : decode cX3_join 4 = .ok (.ifCond .ne 17, 3) := by decide +kernel
theorem dX3_join_7 : decode cX3_join 7 = .ok (.iload_n 2, 1) := by decide +kernel
theorem dX3_join_8 : decode cX3_join 8 = .ok (.invokestatic 19, 3) := by decide +kernel
theorem dX3_join_11 : decode cX3_join 11 = .ok (.ifCond .ne 10, 3) := by decide +kernel
theorem dX3_join_14 : decode cX3_join 14 = .ok (.iload_n 3, 1) := by decide +kernel
theorem dX3_join_15 : decode cX3_join 15 = .ok (.invokestatic 19, 3) := by decide +kernel
theorem dX3_join_18 : decode cX3_join 18 = .ok (.ifCond .eq 6, 3) := by decide +kernel
theorem dX3_join_21 : decode cX3_join 21 = .ok (.ldc 23, 2) := by decide +kernel
theorem dX3_join_23 : decode cX3_join 23 = .ok (.ireturn, 1) := by decide +kernel
theorem dX3_join_24 : decode cX3_join 24 = .ok (.aload_n 0, 1) := by decide +kernel
theorem dX3_join_25 : decode cX3_join 25 = .ok (.getfield 11, 3) := by decide +kernel
theorem dX3_join_28 : decode cX3_join 28 = .ok (.iload_n 2, 1) := by decide +kernel
theorem dX3_join_29 : decode cX3_join 29 = .ok (.aaload, 1) := by decide +kernel
theorem dX3_join_30 : decode cX3_join 30 = .ok (.astore 4, 2) := by decide +kernel
theorem dX3_join_32 : decode cX3_join 32 = .ok (.aload_n 0, 1) := by decide +kernel
theorem dX3_join_33 : decode cX3_join 33 = .ok (.getfield 11, 3) := by decide +kernel
theorem dX3_join_36 : decode cX3_join 36 = .ok (.iload_n 3, 1) := by decide +kernel
theorem dX3_join_37 : decode cX3_join 37 = .ok (.aaload, 1) := by decide +kernel
theorem dX3_join_38 : decode cX3_join 38 = .ok (.astore 5, 2) := by decide +kernel
theorem dX3_join_40 : decode cX3_join 40 = .ok (.aload 4, 2) := by decide +kernel
theorem dX3_join_42 : decode cX3_join 42 = .ok (.ifnull 8, 3) := by decide +kernel
theorem dX3_join_45 : decode cX3_join 45 = .ok (.aload 5, 2) := by decide +kernel
theorem dX3_join_47 : decode cX3_join 47 = .ok (.ifnonnull 9, 3) := by decide +kernel
theorem dX3_join_50 : decode cX3_join 50 = .ok (.aload_n 0, 1) := by decide +kernel
theorem dX3_join_51 : decode cX3_join 51 = .ok (.iconst 1, 1) := by decide +kernel
theorem dX3_join_52 : decode cX3_join 52 = .ok (.invokevirtual 24, 3) := by decide +kernel
theorem dX3_join_55 : decode cX3_join 55 = .ok (.ireturn, 1) := by decide +kernel
theorem dX3_join_56 : decode cX3_join 56 = .ok (.aload 4, 2) := by decide +kernel
theorem dX3_join_58 : decode cX3_join 58 = .ok (.getfield 53, 3) := by decide +kernel
theorem dX3_join_61 : decode cX3_join 61 = .ok (.bipush 6, 2) := by decide +kernel
theorem dX3_join_63 : decode cX3_join 63 = .ok (.if_icmp .eq 13, 3) := by decide +kernel
theorem dX3_join_66 : decode cX3_join 66 = .ok (.aload 5, 2) := by decide +kernel
theorem dX3_join_68 : decode cX3_join 68 = .ok (.getfield 53, 3) := by decide +kernel
theorem dX3_join_71 : decode cX3_join 71 = .ok (.bipush 6, 2) := by decide +kernel
theorem dX3_join_73 : decode cX3_join 73 = .ok (.if_icmp .ne 9, 3) := by decide +kernel
theorem dX3_join_76 : decode cX3_join 76 = .ok (.aload_n 0, 1) := by decide +kernel
theorem dX3_join_77 : decode cX3_join 77 = .ok (.iconst 5, 1) := by decide +kernel
theorem dX3_join_78 : decode cX3_join 78 = .ok (.invokevirtual 24, 3) := by decide +kernel
theorem dX3_join_81 : decode cX3_join 81 = .ok (.ireturn, 1) := by decide +kernel
theorem dX3_join_82 : decode cX3_join 82 = .ok (.aload 4, 2) := by decide +kernel
theorem dX3_join_84 : decode cX3_join 84 = .ok (.getfield 43, 3) := by decide +kernel
theorem dX3_join_87 : decode cX3_join 87 = .ok (.aload 5, 2) := by decide +kernel
theorem dX3_join_89 : decode cX3_join 89 = .ok (.getfield 43, 3) := by decide +kernel
theorem dX3_join_92 : decode cX3_join 92 = .ok (.iadd, 1) := by decide +kernel
theorem dX3_join_93 : decode cX3_join 93 = .ok (.bipush 40, 2) := by decide +kernel
theorem dX3_join_95 : decode cX3_join 95 = .ok (.if_icmp .le 9, 3) := by decide +kernel
theorem dX3_join_98 : decode cX3_join 98 = .ok (.aload_n 0, 1) := by decide +kernel
theorem dX3_join_99 : decode cX3_join 99 = .ok (.iconst 3, 1) := by decide +kernel
theorem dX3_join_100 : decode cX3_join 100 = .ok (.invokevirtual 24, 3) := by decide +kernel
theorem dX3_join_103 : decode cX3_join 103 = .ok (.ireturn, 1) := by decide +kernel
theorem dX3_join_104 : decode cX3_join 104 = .ok (.aload 4, 2) := by decide +kernel
theorem dX3_join_106 : decode cX3_join 106 = .ok (.aload 5, 2) := by decide +kernel
theorem dX3_join_108 : decode cX3_join 108 = .ok (.invokevirtual 80, 3) := by decide +kernel
theorem dX3_join_111 : decode cX3_join 111 = .ok (.ifCond .eq 24, 3) := by decide +kernel
theorem dX3_join_114 : decode cX3_join 114 = .ok (.aload 4, 2) := by decide +kernel
theorem dX3_join_116 : decode cX3_join 116 = .ok (.aload 5, 2) := by decide +kernel
theorem dX3_join_118 : decode cX3_join 118 = .ok (.iconst 0, 1) := by decide +kernel
theorem dX3_join_119 : decode cX3_join 119 = .ok (.aload 5, 2) := by decide +kernel
theorem dX3_join_121 : decode cX3_join 121 = .ok (.getfield 43, 3) := by decide +kernel
theorem dX3_join_124 : decode cX3_join 124 = .ok (.invokevirtual 88, 3) := by decide +kernel
theorem dX3_join_127 : decode cX3_join 127 = .ok (.aload 5, 2) := by decide +kernel
theorem dX3_join_129 : decode cX3_join 129 = .ok (.getfield 43, 3) := by decide +kernel
theorem dX3_join_132 : decode cX3_join 132 = .ok (.if_icmp .ge 9, 3) := by decide +kernel
theorem dX3_join_135 : decode cX3_join 135 = .ok (.aload_n 0, 1) := by decide +kernel
theorem dX3_join_136 : decode cX3_join 136 = .ok (.iconst 2, 1) := by decide +kernel
theorem dX3_join_137 : decode cX3_join 137 = .ok (.invokevirtual 24, 3) := by decide +kernel
theorem dX3_join_140 : decode cX3_join 140 = .ok (.ireturn, 1) := by decide +kernel
theorem dX3_join_141 : decode cX3_join 141 = .ok (.new 9, 3) := by decide +kernel
theorem dX3_join_144 : decode cX3_join 144 = .ok (.dup, 1) := by decide +kernel
theorem dX3_join_145 : decode cX3_join 145 = .ok (.aload 4, 2) := by decide +kernel
theorem dX3_join_147 : decode cX3_join 147 = .ok (.getfield 53, 3) := by decide +kernel
theorem dX3_join_150 : decode cX3_join 150 = .ok (.aload 4, 2) := by decide +kernel
theorem dX3_join_152 : decode cX3_join 152 = .ok (.getfield 43, 3) := by decide +kernel
theorem dX3_join_155 : decode cX3_join 155 = .ok (.aload 5, 2) := by decide +kernel
theorem dX3_join_157 : decode cX3_join 157 = .ok (.getfield 43, 3) := by decide +kernel
theorem dX3_join_160 : decode cX3_join 160 = .ok (.iadd, 1) := by decide +kernel
theorem dX3_join_161 : decode cX3_join 161 = .ok (.invokespecial 28, 3) := by decide +kernel
theorem dX3_join_164 : decode cX3_join 164 = .ok (.astore 6, 2) := by decide +kernel
theorem dX3_join_166 : decode cX3_join 166 = .ok (.aload 6, 2) := by decide +kernel
theorem dX3_join_168 : decode cX3_join 168 = .ok (.aload 4, 2) := by decide +kernel
theorem dX3_join_170 : decode cX3_join 170 = .ok (.iconst 0, 1) := by decide +kernel
theorem dX3_join_171 : decode cX3_join 171 = .ok (.iconst 0, 1) := by decide +kernel
theorem dX3_join_172 : decode cX3_join 172 = .ok (.aload 4, 2) := by decide +kernel
theorem dX3_join_174 : decode cX3_join 174 = .ok (.getfield 43, 3) := by decide +kernel
theorem dX3_join_177 : decode cX3_join 177 = .ok (.invokevirtual 92, 3) := by decide +kernel
theorem dX3_join_180 : decode cX3_join 180 = .ok (.aload 6, 2) := by decide +kernel
theorem dX3_join_182 : decode cX3_join 182 = .ok (.aload 5, 2) := by decide +kernel
theorem dX3_join_184 : decode cX3_join 184 = .ok (.iconst 0, 1) := by decide +kernel
theorem dX3_join_185 : decode cX3_join 185 = .ok (.aload 4, 2) := by decide +kernel
theorem dX3_join_187 : decode cX3_join 187 = .ok (.getfield 43, 3) := by decide +kernel
theorem dX3_join_190 : decode cX3_join 190 = .ok (.aload 5, 2) := by decide +kernel
theorem dX3_join_192 : decode cX3_join 192 = .ok (.getfield 43, 3) := by decide +kernel
theorem dX3_join_195 : decode cX3_join 195 = .ok (.invokevirtual 92, 3) := by decide +kernel
theorem dX3_join_198 : decode cX3_join 198 = .ok (.aload_n 0, 1) := by decide +kernel
theorem dX3_join_199 : decode cX3_join 199 = .ok (.iload_n 1, 1) := by decide +kernel
theorem dX3_join_200 : decode cX3_join 200 = .ok (.aload 6, 2) := by decide +kernel
theorem dX3_join_202 : decode cX3_join 202 = .ok (.invokevirtual 31, 3) := by decide +kernel
theorem dX3_join_205 : decode cX3_join 205 = .ok (.ireturn, 1) := by decide +kernel
set_option maxRecDepth 20000 in
theorem ggX3_update_X3_isOutside : GoodIn wsX3_update wsX3_isOutside := goodIn_r _ [10] (by decide +kernel) (by decide +kernel)
set_option maxRecDepth 20000 in
theorem gX3_update_X3_isOutside : GoodIn wsX3_update (va_wsS RX3 19 yX3_isOutside wsX3_isOutside) := goodIn_app (goodIn_of _ (by decide +kernel)) ggX3_update_X3_isOutside
set_option maxRecDepth 20000 in
theorem ggX3_update_X3_fail : GoodIn wsX3_update wsX3_fail := goodIn_r _ [14, 4, 21, 22] (by decide +kernel) (by decide +kernel)
set_option maxRecDepth 20000 in
theorem gX3_update_X3_fail : GoodIn wsX3_update (wsV RX3 24 RX3 yX3_fail wsX3_fail) := goodIn_app (goodIn_of _ (by decide +kernel)) ggX3_update_X3_fail
set_option maxRecDepth 20000 in
theorem ggX3_update_X1_has : GoodIn wsX3_update wsX1_has := goodIn_r _ [19, 20, 23, 24, 25, 26] (by decide +kernel) (by decide +kernel)
set_option maxRecDepth 20000 in
theorem gX3_update_X1_has : GoodIn wsX3_update (wsV RX3 46 RX1 yX1_has wsX1_has) := goodIn_app (goodIn_of _ (by decide +kernel)) ggX3_update_X1_has
theorem dX3_update_0 : decode cX3_update 0 = .ok (.iload_n 1, 1) := by decide +kernel
theorem dX3_update_1 : decode cX3_update 1 = .ok (.invokestatic 19, 3) := by decide +kernel
theorem dX3_update_4 : decode cX3_update 4 = .ok (.ifCond .ne 17, 3) := by decide +kernel
theorem dX3_update_7 : decode cX3_update 7 = .ok (.iload_n 2, 1) := by decide +kernel
theorem dX3_update_8 : decode cX3_update 8 = .ok (.invokestatic 19, 3) := by decide +kernel
theorem dX3_update_11 : decode cX3_update 11 = .ok (.ifCond .ne 10, 3) := by decide +kernel
theorem dX3_update_14 : decode cX3_update 14 = .ok (.iload_n 3, 1) := by decide +kernel
theorem dX3_update_15 : decode cX3_update 15 = .ok (.invokestatic 19, 3) := by decide +kernel
theorem dX3_update_18 : decode cX3_update 18 = .ok (.ifCond .eq 6, 3) := by decide +kernel
theorem dX3_update_21 : decode cX3_update 21 = .ok (.ldc 23, 2) := by decide +kernel
theorem dX3_update_23 : decode cX3_update 23 = .ok (.ireturn, 1) := by decide +kernel
theorem dX3_update_24 : decode cX3_update 24 = .ok (.aload_n 0, 1) := by decide +kernel
theorem dX3_update_25 : decode cX3_update 25 = .ok (.getfield 11, 3) := by decide +kernel
theorem dX3_update_28 : decode cX3_update 28 = .ok (.iload_n 1, 1) := by decide +kernel
theorem dX3_update_29 : decode cX3_update 29 = .ok (.aaload, 1) := by decide +kernel
theorem dX3_update_30 : decode cX3_update 30 = .ok (.astore 4, 2) := by decide +kernel
theorem dX3_update_32 : decode cX3_update 32 = .ok (.aload_n 0, 1) := by decide +kernel
theorem dX3_update_33 : decode cX3_update 33 = .ok (.getfield 11, 3) := by decide +kernel
theorem dX3_update_36 : decode cX3_update 36 = .ok (.iload_n 2, 1) := by decide +kernel
theorem dX3_update_37 : decode cX3_update 37 = .ok (.aaload, 1) := by decide +kernel
theorem dX3_update_38 : decode cX3_update 38 = .ok (.astore 5, 2) := by decide +kernel
theorem dX3_update_40 : decode cX3_update 40 = .ok (.aload_n 0, 1) := by decide +kernel
theorem dX3_update_41 : decode cX3_update 41 = .ok (.getfield 11, 3) := by decide +kernel
theorem dX3_update_44 : decode cX3_update 44 = .ok (.iload_n 3, 1) := by decide +kernel
theorem dX3_update_45 : decode cX3_update 45 = .ok (.aaload, 1) := by decide +kernel
theorem dX3_update_46 : decode cX3_update 46 = .ok (.astore 6, 2) := by decide +kernel
theorem dX3_update_48 : decode cX3_update 48 = .ok (.aload 4, 2) := by decide +kernel
theorem dX3_update_50 : decode cX3_update 50 = .ok (.ifnull 13, 3) := by decide +kernel
theorem dX3_update_53 : decode cX3_update 53 = .ok (.aload 5, 2) := by decide +kernel
theorem dX3_update_55 : decode cX3_update 55 = .ok (.ifnull 8, 3) := by decide +kernel
theorem dX3_update_58 : decode cX3_update 58 = .ok (.aload 6, 2) := by decide +kernel
theorem dX3_update_60 : decode cX3_update 60 = .ok (.ifnonnull 9, 3) := by decide +kernel
theorem dX3_update_63 : decode cX3_update 63 = .ok (.aload_n 0, 1) := by decide +kernel
theorem dX3_update_64 : decode cX3_update 64 = .ok (.iconst 1, 1) := by decide +kernel
theorem dX3_update_65 : decode cX3_update 65 = .ok (.invokevirtual 24, 3) := by decide +kernel
theorem dX3_update_68 : decode cX3_update 68 = .ok (.ireturn, 1) := by decide +kernel
theorem dX3_update_69 : decode cX3_update 69 = .ok (.aload 4, 2) := by decide +kernel
theorem dX3_update_71 : decode cX3_update 71 = .ok (.getfield 53, 3) := by decide +kernel
theorem dX3_update_74 : decode cX3_update 74 = .ok (.iconst 1, 1) := by decide +kernel
theorem dX3_update_75 : decode cX3_update 75 = .ok (.if_icmp .ne 21, 3) := by decide +kernel
theorem dX3_update_78 : decode cX3_update 78 = .ok (.aload 5, 2) := by decide +kernel
theorem dX3_update_80 : decode cX3_update 80 = .ok (.getfield 53, 3) := by decide +kernel
theorem dX3_update_83 : decode cX3_update 83 = .ok (.iconst 1, 1) := by decide +kernel
theorem dX3_update_84 : decode cX3_update 84 = .ok (.if_icmp .ne 12, 3) := by decide +kernel
theorem dX3_update_87 : decode cX3_update 87 = .ok (.aload 6, 2) := by decide +kernel
theorem dX3_update_89 : decode cX3_update 89 = .ok (.getfield 53, 3) := by decide +kernel
theorem dX3_update_92 : decode cX3_update 92 = .ok (.iconst 1, 1) := by decide +kernel
theorem dX3_update_93 : decode cX3_update 93 = .ok (.if_icmp .eq 9, 3) := by decide +kernel
theorem dX3_update_96 : decode cX3_update 96 = .ok (.aload_n 0, 1) := by decide +kernel
theorem dX3_update_97 : decode cX3_update 97 = .ok (.iconst 5, 1) := by decide +kernel
theorem dX3_update_98 : decode cX3_update 98 = .ok (.invokevirtual 24, 3) := by decide +kernel
theorem dX3_update_101 : decode cX3_update 101 = .ok (.ireturn, 1) := by decide +kernel
theorem dX3_update_102 : decode cX3_update 102 = .ok (.aload_n 0, 1) := by decide +kernel
theorem dX3_update_103 : decode cX3_update 103 = .ok (.iconst 0, 1) := by decide +kernel
theorem dX3_update_104 : decode cX3_update 104 = .ok (.putfield 15, 3) := by decide +kernel
theorem dX3_update_107 : decode cX3_update 107 = .ok (.iconst 0, 1) := by decide +kernel
theorem dX3_update_108 : decode cX3_update 108 = .ok (.istore 7, 2) := by decide +kernel
theorem dX3_update_110 : decode cX3_update 110 = .ok (.iload 7, 2) := by decide +kernel
theorem dX3_update_112 : decode cX3_update 112 = .ok (.aload 5, 2) := by decide +kernel
theorem dX3_update_114 : decode cX3_update 114 = .ok (.getfield 43, 3) := by decide +kernel
theorem dX3_update_117 : decode cX3_update 117 = .ok (.if_icmp .ge 63, 3) := by decide +kernel
theorem dX3_update_120 : decode cX3_update 120 = .ok (.aload 5, 2) := by decide +kernel
theorem dX3_update_122 : decode cX3_update 122 = .ok (.getfield 49, 3) := by decide +kernel
theorem dX3_update_125 : decode cX3_update 125 = .ok (.iload 7, 2) := by decide +kernel
theorem dX3_update_127 : decode cX3_update 127 = .ok (.iaload, 1) := by decide +kernel
theorem dX3_update_128 : decode cX3_update 128 = .ok (.istore 8, 2) := by decide +kernel
theorem dX3_update_130 : decode cX3_update 130 = .ok (.aload 6, 2) := by decide +kernel
theorem dX3_update_132 : decode cX3_update 132 = .ok (.iload 8, 2) := by decide +kernel
theorem dX3_update_134 : decode cX3_update 134 = .ok (.invokevirtual 46, 3) := by decide +kernel
theorem dX3_update_137 : decode cX3_update 137 = .ok (.ifCond .eq 13, 3) := by decide +kernel
theorem dX3_update_140 : decode cX3_update 140 = .ok (.aload 4, 2) := by decide +kernel
theorem dX3_update_142 : decode cX3_update 142 = .ok (.iload 8, 2) := by decide +kernel
theorem dX3_update_144 : decode cX3_update 144 = .ok (.invokevirtual 46, 3) := by decide +kernel
theorem dX3_update_147 : decode cX3_update 147 = .ok (.ifCond .ne 11, 3) := by decide +kernel
theorem dX3_update_150 : decode cX3_update 150 = .ok (.aload_n 0, 1) := by decide +kernel
theorem dX3_update_151 : decode cX3_update 151 = .ok (.iconst 3, 1) := by decide +kernel
theorem dX3_update_152 : decode cX3_update 152 = .ok (.putfield 15, 3) := by decide +kernel
theorem dX3_update_155 : decode cX3_update 155 = .ok (.iload 7, 2) := by decide +kernel
theorem dX3_update_157 : decode cX3_update 157 = .ok (.ireturn, 1) := by decide +kernel
theorem dX3_update_158 : decode cX3_update 158 = .ok (.aload 4, 2) := by decide +kernel
theorem dX3_update_160 : decode cX3_update 160 = .ok (.getfield 49, 3) := by decide +kernel
theorem dX3_update_163 : decode cX3_update 163 = .ok (.iload 8, 2) := by decide +kernel
theorem dX3_update_165 : decode cX3_update 165 = .ok (.aload 6, 2) := by decide +kernel
theorem dX3_update_167 : decode cX3_update 167 = .ok (.getfield 49, 3) := by decide +kernel
theorem dX3_update_170 : decode cX3_update 170 = .ok (.iload 8, 2) := by decide +kernel
theorem dX3_update_172 : decode cX3_update 172 = .ok (.iaload, 1) := by decide +kernel
theorem dX3_update_173 : decode cX3_update 173 = .ok (.iastore, 1) := by decide +kernel
theorem dX3_update_174 : decode cX3_update 174 = .ok (.iinc 7 1, 3) := by decide +kernel
theorem dX3_update_177 : decode cX3_update 177 = .ok (.goto (-67), 3) := by decide +kernel
theorem dX3_update_180 : decode cX3_update 180 = .ok (.aload 5, 2) := by decide +kernel
theorem dX3_update_182 : decode cX3_update 182 = .ok (.getfield 43, 3) := by decide +kernel
theorem dX3_update_185 : decode cX3_update 185 = .ok (.ireturn, 1) := by decide +kernel
set_option maxRecDepth 20000 in
theorem ggX3_rotate_X3_isOutside : GoodIn wsX3_rotate wsX3_isOutside := goodIn_r _ [6] (by decide +kernel) (by decide +kernel)
set_option maxRecDepth 20000 in
theorem gX3_rotate_X3_isOutside : GoodIn wsX3_rotate (va_wsS RX3 19 yX3_isOutside wsX3_isOutside) := goodIn_app (goodIn_of _ (by decide +kernel)) ggX3_rotate_X3_isOutside
set_option maxRecDepth 20000 in
theorem ggX3_rotate_X3_rowOf : GoodIn wsX3_rotate wsX3_rowOf := goodIn_r _ [10, 11, 12, 13, 61, 62, 57, 58, 59, 60] (by decide +kernel) (by decide +kernel)
set_option maxRecDepth 20000 in
theorem gX3_rotate_X3_rowOf : GoodIn wsX3_rotate (wsV RX3 39 RX3 yX3_rowOf wsX3_rowOf) := goodIn_app (goodIn_of _ (by decide +kernel)) ggX3_rotate_X3_rowOf
set_option maxRecDepth 20000 in
theorem ggX3_rotate_X3_fail : GoodIn wsX3_rotate wsX3_fail := goodIn_r _ [17, 12, 61, 62] (by decide +kernel) (by decide +kernel)
set_option maxRecDepth 20000 in
theorem gX3_rotate_X3_fail : GoodIn wsX3_rotate (wsV RX3 24 RX3 yX3_fail wsX3_fail) := goodIn_app (goodIn_of _ (by decide +kernel)) ggX3_rotate_X3_fail
set_option maxRecDepth 20000 in
theorem ggX3_rotate_J9_floorMod_7cf53 : GoodIn wsX3_rotate wsJ9_floorMod_7cf53 := goodIn_r _ [21] (by decide +kernel) (by decide +kernel)
set_option maxRecDepth 20000 in
theorem gX3_rotate_J9_floorMod_7cf53 : GoodIn wsX3_rotate (va_wsS RX3 109 yJ9_floorMod_7cf53 wsJ9_floorMod_7cf53) := goodIn_app (goodIn_of _ (by decide +kernel)) ggX3_rotate_J9_floorMod_7cf53
set_option maxRecDepth 20000 in
theorem ggX3_rotate_X1_cut : GoodIn wsX3_rotate wsX1_cut := goodIn_r _ [26, 27, 28, 25, 29, 30, 31, 32, 33, 34, 35, 36, 37, 38, 39, 40, 41, 42, 43, 44, 45, 46, 47, 48, 49, 50, 51, 52, 53, 54, 55, 57, 58, 59, 60] (by decide +kernel) (by decide +kernel)
set_option maxRecDepth 20000 in
theorem gX3_rotate_X1_cut : GoodIn wsX3_rotate (wsV RX3 106 RX1 yX1_cut wsX1_cut) := goodIn_app (goodIn_of _ (by decide +kernel)) ggX3_rotate_X1_cut
set_option maxRecDepth 20000 in
theorem ggX3_rotate_X1_take : GoodIn wsX3_rotate wsX1_take := goodIn_r _ [47, 35, 48, 49, 50, 51, 37, 52, 53, 54, 25, 55, 29, 57, 58, 59, 60] (by decide +kernel) (by decide +kernel)
set_option maxRecDepth 20000 in
theorem gX3_rotate_X1_take : GoodIn wsX3_rotate (wsV RX3 92 RX1 yX1_take wsX1_take) := goodIn_app (goodIn_of _ (by decide +kernel)) ggX3_rotate_X1_take
theorem dX3_rotate_0 : decode cX3_rotate 0 = .ok (.iload_n 1, 1) := by decide +kernel
theorem dX3_rotate_1 : decode cX3_rotate 1 = .ok (.invokestatic 19, 3) := by decide +kernel
theorem dX3_rotate_4 : decode cX3_rotate 4 = .ok (.ifCond .eq 6, 3) := by decide +kernel
theorem dX3_rotate_7 : decode cX3_rotate 7 = .ok (.ldc 23, 2) := by decide +kernel
theorem dX3_rotate_9 : decode cX3_rotate 9 = .ok (.ireturn, 1) := by decide +kernel
theorem dX3_rotate_10 : decode cX3_rotate 10 = .ok (.aload_n 0, 1) := by decide +kernel
theorem dX3_rotate_11 : decode cX3_rotate 11 = .ok (.iload_n 1, 1) := by decide +kernel
theorem dX3_rotate_12 : decode cX3_rotate 12 = .ok (.bipush 63, 2) := by decide +kernel
theorem dX3_rotate_14 : decode cX3_rotate 14 = .ok (.invokevirtual 39, 3) := by decide +kernel
theorem dX3_rotate_17 : decode cX3_rotate 17 = .ok (.astore_n 3, 1) := by decide +kernel
theorem dX3_rotate_18 : decode cX3_rotate 18 = .ok (.aload_n 3, 1) := by decide +kernel
theorem dX3_rotate_19 : decode cX3_rotate 19 = .ok (.ifnonnull 5, 3) := by decide +kernel
theorem dX3_rotate_22 : decode cX3_rotate 22 = .ok (.iconst 0, 1) := by decide +kernel
theorem dX3_rotate_23 : decode cX3_rotate 23 = .ok (.ireturn, 1) := by decide +kernel
theorem dX3_rotate_24 : decode cX3_rotate 24 = .ok (.aload_n 3, 1) := by decide +kernel
theorem dX3_rotate_25 : decode cX3_rotate 25 = .ok (.getfield 43, 3) := by decide +kernel
theorem dX3_rotate_28 : decode cX3_rotate 28 = .ok (.ifCond .ne 10, 3) := by decide +kernel
theorem dX3_rotate_31 : decode cX3_rotate 31 = .ok (.aload_n 0, 1) := by decide +kernel
theorem dX3_rotate_32 : decode cX3_rotate 32 = .ok (.bipush 6, 2) := by decide +kernel
theorem dX3_rotate_34 : decode cX3_rotate 34 = .ok (.invokevirtual 24, 3) := by decide +kernel
theorem dX3_rotate_37 : decode cX3_rotate 37 = .ok (.ireturn, 1) := by decide +kernel
theorem dX3_rotate_38 : decode cX3_rotate 38 = .ok (.iload_n 2, 1) := by decide +kernel
theorem dX3_rotate_39 : decode cX3_rotate 39 = .ok (.aload_n 3, 1) := by decide +kernel
theorem dX3_rotate_40 : decode cX3_rotate 40 = .ok (.getfield 43, 3) := by decide +kernel
theorem dX3_rotate_43 : decode cX3_rotate 43 = .ok (.invokestatic 109, 3) := by decide +kernel
theorem dX3_rotate_46 : decode cX3_rotate 46 = .ok (.istore 4, 2) := by decide +kernel
theorem dX3_rotate_48 : decode cX3_rotate 48 = .ok (.aload_n 3, 1) := by decide +kernel
theorem dX3_rotate_49 : decode cX3_rotate 49 = .ok (.iconst 0, 1) := by decide +kernel
theorem dX3_rotate_50 : decode cX3_rotate 50 = .ok (.aload_n 3, 1) := by decide +kernel
theorem dX3_rotate_51 : decode cX3_rotate 51 = .ok (.getfield 43, 3) := by decide +kernel
theorem dX3_rotate_54 : decode cX3_rotate 54 = .ok (.invokevirtual 106, 3) := by decide +kernel
theorem dX3_rotate_57 : decode cX3_rotate 57 = .ok (.astore 5, 2) := by decide +kernel
theorem dX3_rotate_59 : decode cX3_rotate 59 = .ok (.aload_n 3, 1) := by decide +kernel
theorem dX3_rotate_60 : decode cX3_rotate 60 = .ok (.aload 5, 2) := by decide +kernel
theorem dX3_rotate_62 : decode cX3_rotate 62 = .ok (.iconst 0, 1) := by decide +kernel
theorem dX3_rotate_63 : decode cX3_rotate 63 = .ok (.iload 4, 2) := by decide +kernel
theorem dX3_rotate_65 : decode cX3_rotate 65 = .ok (.aload_n 3, 1) := by decide +kernel
theorem dX3_rotate_66 : decode cX3_rotate 66 = .ok (.getfield 43, 3) := by decide +kernel
theorem dX3_rotate_69 : decode cX3_rotate 69 = .ok (.iload 4, 2) := by decide +kernel
theorem dX3_rotate_71 : decode cX3_rotate 71 = .ok (.isub, 1) := by decide +kernel
theorem dX3_rotate_72 : decode cX3_rotate 72 = .ok (.invokevirtual 92, 3) := by decide +kernel
theorem dX3_rotate_75 : decode cX3_rotate 75 = .ok (.aload_n 3, 1) := by decide +kernel
theorem dX3_rotate_76 : decode cX3_rotate 76 = .ok (.aload 5, 2) := by decide +kernel
theorem dX3_rotate_78 : decode cX3_rotate 78 = .ok (.aload_n 3, 1) := by decide +kernel
theorem dX3_rotate_79 : decode cX3_rotate 79 = .ok (.getfield 43, 3) := by decide +kernel
theorem dX3_rotate_82 : decode cX3_rotate 82 = .ok (.iload 4, 2) := by decide +kernel
theorem dX3_rotate_84 : decode cX3_rotate 84 = .ok (.isub, 1) := by decide +kernel
theorem dX3_rotate_85 : decode cX3_rotate 85 = .ok (.iconst 0, 1) := by decide +kernel
theorem dX3_rotate_86 : decode cX3_rotate 86 = .ok (.iload 4, 2) := by decide +kernel
theorem dX3_rotate_88 : decode cX3_rotate 88 = .ok (.invokevirtual 92, 3) := by decide +kernel
theorem dX3_rotate_91 : decode cX3_rotate 91 = .ok (.iload 4, 2) := by decide +kernel
theorem dX3_rotate_93 : decode cX3_rotate 93 = .ok (.ireturn, 1) := by decide +kernel
set_option maxRecDepth 20000 in
theorem ggX3_sum_X3_isOutside : GoodIn wsX3_sum wsX3_isOutside := goodIn_r _ [6] (by decide +kernel) (by decide +kernel)
set_option maxRecDepth 20000 in
theorem gX3_sum_X3_isOutside : GoodIn wsX3_sum (va_wsS RX3 19 yX3_isOutside wsX3_isOutside) := goodIn_app (goodIn_of _ (by decide +kernel)) ggX3_sum_X3_isOutside
set_option maxRecDepth 20000 in
theorem ggX3_sum_X3_rowOf : GoodIn wsX3_sum wsX3_rowOf := goodIn_r _ [10, 11, 12, 2, 34, 35, 30, 31, 32, 33] (by decide +kernel) (by decide +kernel)
set_option maxRecDepth 20000 in
theorem gX3_sum_X3_rowOf : GoodIn wsX3_sum (wsV RX3 39 RX3 yX3_rowOf wsX3_rowOf) := goodIn_app (goodIn_of _ (by decide +kernel)) ggX3_sum_X3_rowOf
set_option maxRecDepth 20000 in
theorem ggX3_sum_X3_sumOfTable : GoodIn wsX3_sum wsX3_sumOfTable := goodIn_r _ [16, 17, 18, 19, 20, 21, 22, 23, 24, 25, 26, 27, 28, 5, 29, 12, 30, 31, 32, 33, 34, 35] (by decide +kernel) (by decide +kernel)
set_option maxRecDepth 20000 in
theorem gX3_sum_X3_sumOfTable : GoodIn wsX3_sum (wsV RX3 112 RX3 yX3_sumOfTable wsX3_sumOfTable) := goodIn_app (goodIn_of _ (by decide +kernel)) ggX3_sum_X3_sumOfTable
set_option maxRecDepth 20000 in
theorem ggX3_sum_X1_total : GoodIn wsX3_sum wsX1_total := goodIn_r _ [24, 25, 30, 31, 32, 33] (by decide +kernel) (by decide +kernel)
set_option maxRecDepth 20000 in
theorem gX3_sum_X1_total : GoodIn wsX3_sum (wsV RX3 115 RX1 yX1_total wsX1_total) := goodIn_app (goodIn_of _ (by decide +kernel)) ggX3_sum_X1_total
theorem dX3_sum_0 : decode cX3_sum 0 = .ok (.iload_n 1, 1) := by decide +kernel
theorem dX3_sum_1 : decode cX3_sum 1 = .ok (.invokestatic 19, 3) := by decide +kernel
theorem dX3_sum_4 : decode cX3_sum 4 = .ok (.ifCond .eq 6, 3) := by decide +kernel
theorem dX3_sum_7 : decode cX3_sum 7 = .ok (.ldc 23, 2) := by decide +kernel
theorem dX3_sum_9 : decode cX3_sum 9 = .ok (.ireturn, 1) := by decide +kernel
theorem dX3_sum_10 : decode cX3_sum 10 = .ok (.aload_n 0, 1) := by decide +kernel
theorem dX3_sum_11 : decode cX3_sum 11 = .ok (.iload_n 1, 1) := by decide +kernel
theorem dX3_sum_12 : decode cX3_sum 12 = .ok (.bipush 7, 2) := by decide +kernel
theorem dX3_sum_14 : decode cX3_sum 14 = .ok (.invokevirtual 39, 3) := by decide +kernel
theorem dX3_sum_17 : decode cX3_sum 17 = .ok (.astore_n 2, 1) := by decide +kernel
theorem dX3_sum_18 : decode cX3_sum 18 = .ok (.aload_n 2, 1) := by decide +kernel
theorem dX3_sum_19 : decode cX3_sum 19 = .ok (.ifnonnull 5, 3) := by decide +kernel
theorem dX3_sum_22 : decode cX3_sum 22 = .ok (.iconst 0, 1) := by decide +kernel
theorem dX3_sum_23 : decode cX3_sum 23 = .ok (.ireturn, 1) := by decide +kernel
theorem dX3_sum_24 : decode cX3_sum 24 = .ok (.aload_n 2, 1) := by decide +kernel
theorem dX3_sum_25 : decode cX3_sum 25 = .ok (.getfield 53, 3) := by decide +kernel
theorem dX3_sum_28 : decode cX3_sum 28 = .ok (.iconst 2, 1) := by decide +kernel
theorem dX3_sum_29 : decode cX3_sum 29 = .ok (.if_icmp .ne 11, 3) := by decide +kernel
theorem dX3_sum_32 : decode cX3_sum 32 = .ok (.aload_n 0, 1) := by decide +kernel
theorem dX3_sum_33 : decode cX3_sum 33 = .ok (.aload_n 2, 1) := by decide +kernel
theorem dX3_sum_34 : decode cX3_sum 34 = .ok (.invokevirtual 112, 3) := by decide +kernel
theorem dX3_sum_37 : decode cX3_sum 37 = .ok (.goto 7, 3) := by decide +kernel
theorem dX3_sum_40 : decode cX3_sum 40 = .ok (.aload_n 2, 1) := by decide +kernel
theorem dX3_sum_41 : decode cX3_sum 41 = .ok (.invokevirtual 115, 3) := by decide +kernel
theorem dX3_sum_44 : decode cX3_sum 44 = .ok (.ireturn, 1) := by decide +kernel
set_option maxRecDepth 20000 in
theorem ggX3_mean_X3_isOutside : GoodIn wsX3_mean wsX3_isOutside := goodIn_r _ [6] (by decide +kernel) (by decide +kernel)
set_option maxRecDepth 20000 in
theorem gX3_mean_X3_isOutside : GoodIn wsX3_mean (va_wsS RX3 19 yX3_isOutside wsX3_isOutside) := goodIn_app (goodIn_of _ (by decide +kernel)) ggX3_mean_X3_isOutside
set_option maxRecDepth 20000 in
theorem ggX3_mean_X3_rowOf : GoodIn wsX3_mean wsX3_rowOf := goodIn_r _ [10, 11, 12, 13, 28, 29, 24, 25, 26, 27] (by decide +kernel) (by decide +kernel)
set_option maxRecDepth 20000 in
theorem gX3_mean_X3_rowOf : GoodIn wsX3_mean (wsV RX3 39 RX3 yX3_rowOf wsX3_rowOf) := goodIn_app (goodIn_of _ (by decide +kernel)) ggX3_mean_X3_rowOf
set_option maxRecDepth 20000 in
theorem ggX3_mean_X3_fail : GoodIn wsX3_mean wsX3_fail := goodIn_r _ [17, 12, 28, 29] (by decide +kernel) (by decide +kernel)
set_option maxRecDepth 20000 in
theorem gX3_mean_X3_fail : GoodIn wsX3_mean (wsV RX3 24 RX3 yX3_fail wsX3_fail) := goodIn_app (goodIn_of _ (by decide +kernel)) ggX3_mean_X3_fail
set_option maxRecDepth 20000 in
theorem ggX3_mean_X1_total : GoodIn wsX3_mean wsX1_total := goodIn_r _ [22, 23, 24, 25, 26, 27] (by decide +kernel) (by decide +kernel)
set_option maxRecDepth 20000 in
theorem gX3_mean_X1_total : GoodIn wsX3_mean (wsV RX3 115 RX1 yX1_total wsX1_total) := goodIn_app (goodIn_of _ (by decide +kernel)) ggX3_mean_X1_total
theorem dX3_mean_0 : decode cX3_mean 0 = .ok (.iload_n 1, 1) := by decide +kernel
theorem dX3_mean_1 : decode cX3_mean 1 = .ok (.invokestatic 19, 3) := by decide +kernel
theorem dX3_mean_4 : decode cX3_mean 4 = .ok (.ifCond .eq 6, 3) := by decide +kernel
theorem dX3_mean_7 : decode cX3_mean 7 = .ok (.ldc 23, 2) := by decide +kernel
theorem dX3_mean_9 : decode cX3_mean 9 = .ok (.ireturn, 1) := by decide +kernel
theorem dX3_mean_10 : decode cX3_mean 10 = .ok (.aload_n 0, 1) := by decide +kernel
theorem dX3_mean_11 : decode cX3_mean 11 = .ok (.iload_n 1, 1) := by decide +kernel
theorem dX3_mean_12 : decode cX3_mean 12 = .ok (.iconst 3, 1) := by decide +kernel
theorem dX3_mean_13 : decode cX3_mean 13 = .ok (.invokevirtual 39, 3) := by decide +kernel
theorem dX3_mean_16 : decode cX3_mean 16 = .ok (.astore_n 2, 1) := by decide +kernel
theorem dX3_mean_17 : decode cX3_mean 17 = .ok (.aload_n 2, 1) := by decide +kernel
theorem dX3_mean_18 : decode cX3_mean 18 = .ok (.ifnonnull 5, 3) := by decide +kernel
theorem dX3_mean_21 : decode cX3_mean 21 = .ok (.iconst 0, 1) := by decide +kernel
theorem dX3_mean_22 : decode cX3_mean 22 = .ok (.ireturn, 1) := by decide +kernel
theorem dX3_mean_23 : decode cX3_mean 23 = .ok (.aload_n 2, 1) := by decide +kernel
theorem dX3_mean_24 : decode cX3_mean 24 = .ok (.getfield 43, 3) := by decide +kernel
theorem dX3_mean_27 : decode cX3_mean 27 = .ok (.ifCond .ne 12, 3) := by decide +kernel
theorem dX3_mean_30 : decode cX3_mean 30 = .ok (.aload_n 0, 1) := by decide +kernel
theorem dX3_mean_31 : decode cX3_mean 31 = .ok (.bipush 6, 2) := by decide +kernel
theorem dX3_mean_33 : decode cX3_mean 33 = .ok (.invokevirtual 24, 3) := by decide +kernel
theorem dX3_mean_36 : decode cX3_mean 36 = .ok (.goto 12, 3) := by decide +kernel
theorem dX3_mean_39 : decode cX3_mean 39 = .ok (.aload_n 2, 1) := by decide +kernel
theorem dX3_mean_40 : decode cX3_mean 40 = .ok (.invokevirtual 115, 3) := by decide +kernel
theorem dX3_mean_43 : decode cX3_mean 43 = .ok (.aload_n 2, 1) := by decide +kernel
theorem dX3_mean_44 : decode cX3_mean 44 = .ok (.getfield 43, 3) := by decide +kernel
theorem dX3_mean_47 : decode cX3_mean 47 = .ok (.idiv, 1) := by decide +kernel
theorem dX3_mean_48 : decode cX3_mean 48 = .ok (.ireturn, 1) := by decide +kernel
set_option maxRecDepth 20000 in
theorem ggX3_same_X3_isOutside : GoodIn wsX3_same wsX3_isOutside := goodIn_r _ [6] (by decide +kernel) (by decide +kernel)
set_option maxRecDepth 20000 in
theorem gX3_same_X3_isOutside : GoodIn wsX3_same (va_wsS RX3 19 yX3_isOutside wsX3_isOutside) := goodIn_app (goodIn_of _ (by decide +kernel)) ggX3_same_X3_isOutside
theorem dX3_same_0 : decode cX3_same 0 = .ok (.iload_n 1, 1) := by decide +kernel
theorem dX3_same_1 : decode cX3_same 1 = .ok (.invokestatic 19, 3) := by decide +kernel
theorem dX3_same_4 : decode cX3_same 4 = .ok (.ifCond .ne 10, 3) := by decide +kernel
theorem dX3_same_7 : decode cX3_same 7 = .ok (.iload_n 2, 1) := by decide +kernel
theorem dX3_same_8 : decode cX3_same 8 = .ok (.invokestatic 19, 3) := by decide +kernel
theorem dX3_same_11 : decode cX3_same 11 = .ok (.ifCond .eq 6, 3) := by decide +kernel
theorem dX3_same_14 : decode cX3_same 14 = .ok (.ldc 23, 2) := by decide +kernel
theorem dX3_same_16 : decode cX3_same 16 = .ok (.ireturn, 1) := by decide +kernel
theorem dX3_same_17 : decode cX3_same 17 = .ok (.aload_n 0, 1) := by decide +kernel
theorem dX3_same_18 : decode cX3_same 18 = .ok (.getfield 11, 3) := by decide +kernel
theorem dX3_same_21 : decode cX3_same 21 = .ok (.iload_n 1, 1) := by decide +kernel
theorem dX3_same_22 : decode cX3_same 22 = .ok (.aaload, 1) := by decide +kernel
theorem dX3_same_23 : decode cX3_same 23 = .ok (.aload_n 0, 1) := by decide +kernel
theorem dX3_same_24 : decode cX3_same 24 = .ok (.getfield 11, 3) := by decide +kernel
theorem dX3_same_27 : decode cX3_same 27 = .ok (.iload_n 2, 1) := by decide +kernel
theorem dX3_same_28 : decode cX3_same 28 = .ok (.aaload, 1) := by decide +kernel
theorem dX3_same_29 : decode cX3_same 29 = .ok (.if_acmp .ne 7, 3) := by decide +kernel
theorem dX3_same_32 : decode cX3_same 32 = .ok (.iconst 1, 1) := by decide +kernel
theorem dX3_same_33 : decode cX3_same 33 = .ok (.goto 4, 3) := by decide +kernel
theorem dX3_same_36 : decode cX3_same 36 = .ok (.iconst 0, 1) := by decide +kernel
theorem dX3_same_37 : decode cX3_same 37 = .ok (.ireturn, 1) := by decide +kernel
set_option maxRecDepth 20000 in
theorem ggX3_equal_X3_isOutside : GoodIn wsX3_equal wsX3_isOutside := goodIn_r _ [7] (by decide +kernel) (by decide +kernel)
set_option maxRecDepth 20000 in
theorem gX3_equal_X3_isOutside : GoodIn wsX3_equal (va_wsS RX3 19 yX3_isOutside wsX3_isOutside) := goodIn_app (goodIn_of _ (by decide +kernel)) ggX3_equal_X3_isOutside
set_option maxRecDepth 20000 in
theorem ggX3_equal_X1_isLike : GoodIn wsX3_equal wsX1_isLike := goodIn_r _ [12, 13, 14, 15, 16, 17, 18, 19, 11, 20, 23, 24, 25, 26] (by decide +kernel) (by decide +kernel)
set_option maxRecDepth 20000 in
theorem gX3_equal_X1_isLike : GoodIn wsX3_equal (wsV RX3 118 RX1 yX1_isLike wsX1_isLike) := goodIn_app (goodIn_of _ (by decide +kernel)) ggX3_equal_X1_isLike
theorem dX3_equal_0 : decode cX3_equal 0 = .ok (.iload_n 1, 1) := by decide +kernel
theorem dX3_equal_1 : decode cX3_equal 1 = .ok (.invokestatic 19, 3) := by decide +kernel
theorem dX3_equal_4 : decode cX3_equal 4 = .ok (.ifCond .ne 10, 3) := by decide +kernel
theorem dX3_equal_7 : decode cX3_equal 7 = .ok (.iload_n 2, 1) := by decide +kernel
theorem dX3_equal_8 : decode cX3_equal 8 = .ok (.invokestatic 19, 3) := by decide +kernel
theorem dX3_equal_11 : decode cX3_equal 11 = .ok (.ifCond .eq 6, 3) := by decide +kernel
theorem dX3_equal_14 : decode cX3_equal 14 = .ok (.ldc 23, 2) := by decide +kernel
theorem dX3_equal_16 : decode cX3_equal 16 = .ok (.ireturn, 1) := by decide +kernel
theorem dX3_equal_17 : decode cX3_equal 17 = .ok (.aload_n 0, 1) := by decide +kernel
theorem dX3_equal_18 : decode cX3_equal 18 = .ok (.getfield 11, 3) := by decide +kernel
theorem dX3_equal_21 : decode cX3_equal 21 = .ok (.iload_n 1, 1) := by decide +kernel
theorem dX3_equal_22 : decode cX3_equal 22 = .ok (.aaload, 1) := by decide +kernel
theorem dX3_equal_23 : decode cX3_equal 23 = .ok (.astore_n 3, 1) := by decide +kernel
theorem dX3_equal_24 : decode cX3_equal 24 = .ok (.aload_n 0, 1) := by decide +kernel
theorem dX3_equal_25 : decode cX3_equal 25 = .ok (.getfield 11, 3) := by decide +kernel
theorem dX3_equal_28 : decode cX3_equal 28 = .ok (.iload_n 2, 1) := by decide +kernel
theorem dX3_equal_29 : decode cX3_equal 29 = .ok (.aaload, 1) := by decide +kernel
theorem dX3_equal_30 : decode cX3_equal 30 = .ok (.astore 4, 2) := by decide +kernel
theorem dX3_equal_32 : decode cX3_equal 32 = .ok (.aload_n 3, 1) := by decide +kernel
theorem dX3_equal_33 : decode cX3_equal 33 = .ok (.aload 4, 2) := by decide +kernel
theorem dX3_equal_35 : decode cX3_equal 35 = .ok (.if_acmp .ne 5, 3) := by decide +kernel
theorem dX3_equal_38 : decode cX3_equal 38 = .ok (.iconst 1, 1) := by decide +kernel
theorem dX3_equal_39 : decode cX3_equal 39 = .ok (.ireturn, 1) := by decide +kernel
theorem dX3_equal_40 : decode cX3_equal 40 = .ok (.aload_n 3, 1) := by decide +kernel
theorem dX3_equal_41 : decode cX3_equal 41 = .ok (.ifnull 17, 3) := by decide +kernel
theorem dX3_equal_44 : decode cX3_equal 44 = .ok (.aload 4, 2) := by decide +kernel
theorem dX3_equal_46 : decode cX3_equal 46 = .ok (.ifnull 12, 3) := by decide +kernel
theorem dX3_equal_49 : decode cX3_equal 49 = .ok (.aload_n 3, 1) := by decide +kernel
theorem dX3_equal_50 : decode cX3_equal 50 = .ok (.getfield 53, 3) := by decide +kernel
theorem dX3_equal_53 : decode cX3_equal 53 = .ok (.bipush 6, 2) := by decide +kernel
theorem dX3_equal_55 : decode cX3_equal 55 = .ok (.if_icmp .ne 5, 3) := by decide +kernel
theorem dX3_equal_58 : decode cX3_equal 58 = .ok (.iconst 0, 1) := by decide +kernel
theorem dX3_equal_59 : decode cX3_equal 59 = .ok (.ireturn, 1) := by decide +kernel
theorem dX3_equal_60 : decode cX3_equal 60 = .ok (.aload_n 3, 1) := by decide +kernel
theorem dX3_equal_61 : decode cX3_equal 61 = .ok (.aload 4, 2) := by decide +kernel
theorem dX3_equal_63 : decode cX3_equal 63 = .ok (.invokevirtual 118, 3) := by decide +kernel
theorem dX3_equal_66 : decode cX3_equal 66 = .ok (.ifCond .eq 7, 3) := by decide +kernel
theorem dX3_equal_69 : decode cX3_equal 69 = .ok (.iconst 1, 1) := by decide +kernel
theorem dX3_equal_70 : decode cX3_equal 70 = .ok (.goto 4, 3) := by decide +kernel
theorem dX3_equal_73 : decode cX3_equal 73 = .ok (.iconst 0, 1) := by decide +kernel
theorem dX3_equal_74 : decode cX3_equal 74 = .ok (.ireturn, 1) := by decide +kernel
set_option maxRecDepth 20000 in
theorem ggX3_compare_X3_isOutside : GoodIn wsX3_compare wsX3_isOutside := goodIn_r _ [8] (by decide +kernel) (by decide +kernel)
set_option maxRecDepth 20000 in
theorem gX3_compare_X3_isOutside : GoodIn wsX3_compare (va_wsS RX3 19 yX3_isOutside wsX3_isOutside) := goodIn_app (goodIn_of _ (by decide +kernel)) ggX3_compare_X3_isOutside
set_option maxRecDepth 20000 in
theorem ggX3_compare_X3_fail : GoodIn wsX3_compare wsX3_fail := goodIn_r _ [12, 4, 25, 26] (by decide +kernel) (by decide +kernel)
set_option maxRecDepth 20000 in
theorem gX3_compare_X3_fail : GoodIn wsX3_compare (wsV RX3 24 RX3 yX3_fail wsX3_fail) := goodIn_app (goodIn_of _ (by decide +kernel)) ggX3_compare_X3_fail
set_option maxRecDepth 20000 in
theorem ggX3_compare_X1_isOfNumbers : GoodIn wsX3_compare wsX1_isOfNumbers := goodIn_r _ [17, 18, 27, 28, 29, 30] (by decide +kernel) (by decide +kernel)
set_option maxRecDepth 20000 in
theorem gX3_compare_X1_isOfNumbers : GoodIn wsX3_compare (wsV RX3 67 RX1 yX1_isOfNumbers wsX1_isOfNumbers) := goodIn_app (goodIn_of _ (by decide +kernel)) ggX3_compare_X1_isOfNumbers
set_option maxRecDepth 20000 in
theorem ggX3_compare_X1_order : GoodIn wsX3_compare wsX1_order := goodIn_r _ [22, 23, 24, 27, 28, 29, 30] (by decide +kernel) (by decide +kernel)
set_option maxRecDepth 20000 in
theorem gX3_compare_X1_order : GoodIn wsX3_compare (wsV RX3 121 RX1 yX1_order wsX1_order) := goodIn_app (goodIn_of _ (by decide +kernel)) ggX3_compare_X1_order
theorem dX3_compare_0 : decode cX3_compare 0 = .ok (.iload_n 1, 1) := by decide +kernel
theorem dX3_compare_1 : decode cX3_compare 1 = .ok (.invokestatic 19, 3) := by decide +kernel
theorem dX3_compare_4 : decode cX3_compare 4 = .ok (.ifCond .ne 10, 3) := by decide +kernel
theorem dX3_compare_7 : decode cX3_compare 7 = .ok (.iload_n 2, 1) := by decide +kernel
theorem dX3_compare_8 : decode cX3_compare 8 = .ok (.invokestatic 19, 3) := by decide +kernel
theorem dX3_compare_11 : decode cX3_compare 11 = .ok (.ifCond .eq 6, 3) := by decide +kernel
theorem dX3_compare_14 : decode cX3_compare 14 = .ok (.ldc 23, 2) := by decide +kernel
theorem dX3_compare_16 : decode cX3_compare 16 = .ok (.ireturn, 1) := by decide +kernel
theorem dX3_compare_17 : decode cX3_compare 17 = .ok (.aload_n 0, 1) := by decide +kernel
theorem dX3_compare_18 : decode cX3_compare 18 = .ok (.getfield 11, 3) := by decide +kernel
theorem dX3_compare_21 : decode cX3_compare 21 = .ok (.iload_n 1, 1) := by decide +kernel
theorem dX3_compare_22 : decode cX3_compare 22 = .ok (.aaload, 1) := by decide +kernel
theorem dX3_compare_23 : decode cX3_compare 23 = .ok (.astore_n 3, 1) := by decide +kernel
theorem dX3_compare_24 : decode cX3_compare 24 = .ok (.aload_n 0, 1) := by decide +kernel
theorem dX3_compare_25 : decode cX3_compare 25 = .ok (.getfield 11, 3) := by decide +kernel
theorem dX3_compare_28 : decode cX3_compare 28 = .ok (.iload_n 2, 1) := by decide +kernel
theorem dX3_compare_29 : decode cX3_compare 29 = .ok (.aaload, 1) := by decide +kernel
theorem dX3_compare_30 : decode cX3_compare 30 = .ok (.astore 4, 2) := by decide +kernel
theorem dX3_compare_32 : decode cX3_compare 32 = .ok (.aload_n 3, 1) := by decide +kernel
theorem dX3_compare_33 : decode cX3_compare 33 = .ok (.ifnull 8, 3) := by decide +kernel
theorem dX3_compare_36 : decode cX3_compare 36 = .ok (.aload 4, 2) := by decide +kernel
theorem dX3_compare_38 : decode cX3_compare 38 = .ok (.ifnonnull 9, 3) := by decide +kernel
theorem dX3_compare_41 : decode cX3_compare 41 = .ok (.aload_n 0, 1) := by decide +kernel
theorem dX3_compare_42 : decode cX3_compare 42 = .ok (.iconst 1, 1) := by decide +kernel
theorem dX3_compare_43 : decode cX3_compare 43 = .ok (.invokevirtual 24, 3) := by decide +kernel
theorem dX3_compare_46 : decode cX3_compare 46 = .ok (.ireturn, 1) := by decide +kernel
theorem dX3_compare_47 : decode cX3_compare 47 = .ok (.aload_n 3, 1) := by decide +kernel
theorem dX3_compare_48 : decode cX3_compare 48 = .ok (.invokevirtual 67, 3) := by decide +kernel
theorem dX3_compare_51 : decode cX3_compare 51 = .ok (.ifCond .eq 15, 3) := by decide +kernel
theorem dX3_compare_54 : decode cX3_compare 54 = .ok (.aload_n 3, 1) := by decide +kernel
theorem dX3_compare_55 : decode cX3_compare 55 = .ok (.getfield 53, 3) := by decide +kernel
theorem dX3_compare_58 : decode cX3_compare 58 = .ok (.aload 4, 2) := by decide +kernel
theorem dX3_compare_60 : decode cX3_compare 60 = .ok (.getfield 53, 3) := by decide +kernel
theorem dX3_compare_63 : decode cX3_compare 63 = .ok (.if_icmp .eq 9, 3) := by decide +kernel
theorem dX3_compare_66 : decode cX3_compare 66 = .ok (.aload_n 0, 1) := by decide +kernel
theorem dX3_compare_67 : decode cX3_compare 67 = .ok (.iconst 5, 1) := by decide +kernel
theorem dX3_compare_68 : decode cX3_compare 68 = .ok (.invokevirtual 24, 3) := by decide +kernel
theorem dX3_compare_71 : decode cX3_compare 71 = .ok (.ireturn, 1) := by decide +kernel
theorem dX3_compare_72 : decode cX3_compare 72 = .ok (.aload_n 0, 1) := by decide +kernel
theorem dX3_compare_73 : decode cX3_compare 73 = .ok (.iconst 0, 1) := by decide +kernel
theorem dX3_compare_74 : decode cX3_compare 74 = .ok (.putfield 15, 3) := by decide +kernel
theorem dX3_compare_77 : decode cX3_compare 77 = .ok (.aload_n 3, 1) := by decide +kernel
theorem dX3_compare_78 : decode cX3_compare 78 = .ok (.aload 4, 2) := by decide +kernel
theorem dX3_compare_80 : decode cX3_compare 80 = .ok (.invokevirtual 121, 3) := by decide +kernel
theorem dX3_compare_83 : decode cX3_compare 83 = .ok (.ireturn, 1) := by decide +kernel
set_option maxRecDepth 20000 in
theorem ggX3_held_X3_isOutside : GoodIn wsX3_held wsX3_isOutside := goodIn_r _ [6] (by decide +kernel) (by decide +kernel)
set_option maxRecDepth 20000 in
theorem gX3_held_X3_isOutside : GoodIn wsX3_held (va_wsS RX3 19 yX3_isOutside wsX3_isOutside) := goodIn_app (goodIn_of _ (by decide +kernel)) ggX3_held_X3_isOutside
set_option maxRecDepth 20000 in
theorem ggX3_held_X3_isFirstHeldAt : GoodIn wsX3_held wsX3_isFirstHeldAt := goodIn_r _ [10, 2, 17, 18] (by decide +kernel) (by decide +kernel)
set_option maxRecDepth 20000 in
theorem gX3_held_X3_isFirstHeldAt : GoodIn wsX3_held (wsV RX3 124 RX3 yX3_isFirstHeldAt wsX3_isFirstHeldAt) := goodIn_app (goodIn_of _ (by decide +kernel)) ggX3_held_X3_isFirstHeldAt
set_option maxRecDepth 20000 in
theorem ggX3_held_X1_countOf : GoodIn wsX3_held wsX1_countOf := goodIn_r _ [15, 16, 19, 20, 21, 22] (by decide +kernel) (by decide +kernel)
set_option maxRecDepth 20000 in
theorem gX3_held_X1_countOf : GoodIn wsX3_held (wsV RX3 128 RX1 yX1_countOf wsX1_countOf) := goodIn_app (goodIn_of _ (by decide +kernel)) ggX3_held_X1_countOf
theorem dX3_held_0 : decode cX3_held 0 = .ok (.iload_n 1, 1) := by decide +kernel
theorem dX3_held_1 : decode cX3_held 1 = .ok (.invokestatic 19, 3) := by decide +kernel
theorem dX3_held_4 : decode cX3_held 4 = .ok (.ifCond .eq 6, 3) := by decide +kernel
theorem dX3_held_7 : decode cX3_held 7 = .ok (.ldc 23, 2) := by decide +kernel
theorem dX3_held_9 : decode cX3_held 9 = .ok (.ireturn, 1) := by decide +kernel
theorem dX3_held_10 : decode cX3_held 10 = .ok (.aload_n 0, 1) := by decide +kernel
theorem dX3_held_11 : decode cX3_held 11 = .ok (.getfield 11, 3) := by decide +kernel
theorem dX3_held_14 : decode cX3_held 14 = .ok (.iload_n 1, 1) := by decide +kernel
theorem dX3_held_15 : decode cX3_held 15 = .ok (.aaload, 1) := by decide +kernel
theorem dX3_held_16 : decode cX3_held 16 = .ok (.astore_n 2, 1) := by decide +kernel
theorem dX3_held_17 : decode cX3_held 17 = .ok (.aload_n 2, 1) := by decide +kernel
theorem dX3_held_18 : decode cX3_held 18 = .ok (.ifnonnull 5, 3) := by decide +kernel
theorem dX3_held_21 : decode cX3_held 21 = .ok (.iconst 0, 1) := by decide +kernel
theorem dX3_held_22 : decode cX3_held 22 = .ok (.ireturn, 1) := by decide +kernel
theorem dX3_held_23 : decode cX3_held 23 = .ok (.iconst 0, 1) := by decide +kernel
theorem dX3_held_24 : decode cX3_held 24 = .ok (.istore_n 3, 1) := by decide +kernel
theorem dX3_held_25 : decode cX3_held 25 = .ok (.iconst 0, 1) := by decide +kernel
theorem dX3_held_26 : decode cX3_held 26 = .ok (.istore 4, 2) := by decide +kernel
theorem dX3_held_28 : decode cX3_held 28 = .ok (.iload 4, 2) := by decide +kernel
theorem dX3_held_30 : decode cX3_held 30 = .ok (.bipush 12, 2) := by decide +kernel
theorem dX3_held_32 : decode cX3_held 32 = .ok (.if_icmp .ge 52, 3) := by decide +kernel
theorem dX3_held_35 : decode cX3_held 35 = .ok (.aload_n 0, 1) := by decide +kernel
theorem dX3_held_36 : decode cX3_held 36 = .ok (.getfield 11, 3) := by decide +kernel
theorem dX3_held_39 : decode cX3_held 39 = .ok (.iload 4, 2) := by decide +kernel
theorem dX3_held_41 : decode cX3_held 41 = .ok (.aaload, 1) := by decide +kernel
theorem dX3_held_42 : decode cX3_held 42 = .ok (.astore 5, 2) := by decide +kernel
theorem dX3_held_44 : decode cX3_held 44 = .ok (.aload 5, 2) := by decide +kernel
theorem dX3_held_46 : decode cX3_held 46 = .ok (.aload_n 2, 1) := by decide +kernel
theorem dX3_held_47 : decode cX3_held 47 = .ok (.if_acmp .ne 6, 3) := by decide +kernel
theorem dX3_held_50 : decode cX3_held 50 = .ok (.iinc 3 1, 3) := by decide +kernel
theorem dX3_held_53 : decode cX3_held 53 = .ok (.aload 5, 2) := by decide +kernel
theorem dX3_held_55 : decode cX3_held 55 = .ok (.ifnull 23, 3) := by decide +kernel
theorem dX3_held_58 : decode cX3_held 58 = .ok (.aload_n 0, 1) := by decide +kernel
theorem dX3_held_59 : decode cX3_held 59 = .ok (.aload 5, 2) := by decide +kernel
theorem dX3_held_61 : decode cX3_held 61 = .ok (.iload 4, 2) := by decide +kernel
theorem dX3_held_63 : decode cX3_held 63 = .ok (.invokevirtual 124, 3) := by decide +kernel
theorem dX3_held_66 : decode cX3_held 66 = .ok (.ifCond .eq 12, 3) := by decide +kernel
theorem dX3_held_69 : decode cX3_held 69 = .ok (.iload_n 3, 1) := by decide +kernel
theorem dX3_held_70 : decode cX3_held 70 = .ok (.aload 5, 2) := by decide +kernel
theorem dX3_held_72 : decode cX3_held 72 = .ok (.aload_n 2, 1) := by decide +kernel
theorem dX3_held_73 : decode cX3_held 73 = .ok (.invokevirtual 128, 3) := by decide +kernel
theorem dX3_held_76 : decode cX3_held 76 = .ok (.iadd, 1) := by decide +kernel
theorem dX3_held_77 : decode cX3_held 77 = .ok (.istore_n 3, 1) := by decide +kernel
theorem dX3_held_78 : decode cX3_held 78 = .ok (.iinc 4 1, 3) := by decide +kernel
theorem dX3_held_81 : decode cX3_held 81 = .ok (.goto (-53), 3) := by decide +kernel
theorem dX3_held_84 : decode cX3_held 84 = .ok (.iload_n 3, 1) := by decide +kernel
theorem dX3_held_85 : decode cX3_held 85 = .ok (.ireturn, 1) := by decide +kernel
theorem dX3_isOutside_0 : decode cX3_isOutside 0 = .ok (.iload_n 0, 1) := by decide +kernel
theorem dX3_isOutside_1 : decode cX3_isOutside 1 = .ok (.ifCond .lt 9, 3) := by decide +kernel
theorem dX3_isOutside_4 : decode cX3_isOutside 4 = .ok (.iload_n 0, 1) := by decide +kernel
theorem dX3_isOutside_5 : decode cX3_isOutside 5 = .ok (.bipush 12, 2) := by decide +kernel
theorem dX3_isOutside_7 : decode cX3_isOutside 7 = .ok (.if_icmp .lt 7, 3) := by decide +kernel
theorem dX3_isOutside_10 : decode cX3_isOutside 10 = .ok (.iconst 1, 1) := by decide +kernel
theorem dX3_isOutside_11 : decode cX3_isOutside 11 = .ok (.goto 4, 3) := by decide +kernel
theorem dX3_isOutside_14 : decode cX3_isOutside 14 = .ok (.iconst 0, 1) := by decide +kernel
theorem dX3_isOutside_15 : decode cX3_isOutside 15 = .ok (.ireturn, 1) := by decide +kernel
theorem dX3_kindOf_0 : decode cX3_kindOf 0 = .ok (.aload_n 0, 1) := by decide +kernel
theorem dX3_kindOf_1 : decode cX3_kindOf 1 = .ok (.ifnonnull 7, 3) := by decide +kernel
theorem dX3_kindOf_4 : decode cX3_kindOf 4 = .ok (.iconst (-1), 1) := by decide +kernel
theorem dX3_kindOf_5 : decode cX3_kindOf 5 = .ok (.goto 7, 3) := by decide +kernel
theorem dX3_kindOf_8 : decode cX3_kindOf 8 = .ok (.aload_n 0, 1) := by decide +kernel
theorem dX3_kindOf_9 : decode cX3_kindOf 9 = .ok (.getfield 53, 3) := by decide +kernel
theorem dX3_kindOf_12 : decode cX3_kindOf 12 = .ok (.ireturn, 1) := by decide +kernel
theorem dX3_fail_0 : decode cX3_fail 0 = .ok (.aload_n 0, 1) := by decide +kernel
theorem dX3_fail_1 : decode cX3_fail 1 = .ok (.iload_n 1, 1) := by decide +kernel
theorem dX3_fail_2 : decode cX3_fail 2 = .ok (.putfield 15, 3) := by decide +kernel
theorem dX3_fail_5 : decode cX3_fail 5 = .ok (.iconst 0, 1) := by decide +kernel
theorem dX3_fail_6 : decode cX3_fail 6 = .ok (.ireturn, 1) := by decide +kernel
theorem dX3_put_0 : decode cX3_put 0 = .ok (.aload_n 0, 1) := by decide +kernel
theorem dX3_put_1 : decode cX3_put 1 = .ok (.getfield 11, 3) := by decide +kernel
theorem dX3_put_4 : decode cX3_put 4 = .ok (.iload_n 1, 1) := by decide +kernel
theorem dX3_put_5 : decode cX3_put 5 = .ok (.aload_n 2, 1) := by decide +kernel
theorem dX3_put_6 : decode cX3_put 6 = .ok (.aastore, 1) := by decide +kernel
theorem dX3_put_7 : decode cX3_put 7 = .ok (.aload_n 0, 1) := by decide +kernel
theorem dX3_put_8 : decode cX3_put 8 = .ok (.iconst 0, 1) := by decide +kernel
theorem dX3_put_9 : decode cX3_put 9 = .ok (.putfield 15, 3) := by decide +kernel
theorem dX3_put_12 : decode cX3_put 12 = .ok (.aload_n 2, 1) := by decide +kernel
theorem dX3_put_13 : decode cX3_put 13 = .ok (.getfield 43, 3) := by decide +kernel
theorem dX3_put_16 : decode cX3_put 16 = .ok (.ireturn, 1) := by decide +kernel
theorem dX3_rowOf_0 : decode cX3_rowOf 0 = .ok (.aload_n 0, 1) := by decide +kernel
theorem dX3_rowOf_1 : decode cX3_rowOf 1 = .ok (.getfield 11, 3) := by decide +kernel
theorem dX3_rowOf_4 : decode cX3_rowOf 4 = .ok (.iload_n 1, 1) := by decide +kernel
theorem dX3_rowOf_5 : decode cX3_rowOf 5 = .ok (.aaload, 1) := by decide +kernel
theorem dX3_rowOf_6 : decode cX3_rowOf 6 = .ok (.astore_n 3, 1) := by decide +kernel
theorem dX3_rowOf_7 : decode cX3_rowOf 7 = .ok (.aload_n 3, 1) := by decide +kernel
theorem dX3_rowOf_8 : decode cX3_rowOf 8 = .ok (.ifnonnull 10, 3) := by decide +kernel
theorem dX3_rowOf_11 : decode cX3_rowOf 11 = .ok (.aload_n 0, 1) := by decide +kernel
theorem dX3_rowOf_12 : decode cX3_rowOf 12 = .ok (.iconst 1, 1) := by decide +kernel
theorem dX3_rowOf_13 : decode cX3_rowOf 13 = .ok (.putfield 15, 3) := by decide +kernel
theorem dX3_rowOf_16 : decode cX3_rowOf 16 = .ok (.aconst_null, 1) := by decide +kernel
theorem dX3_rowOf_17 : decode cX3_rowOf 17 = .ok (.areturn, 1) := by decide +kernel
theorem dX3_rowOf_18 : decode cX3_rowOf 18 = .ok (.iload_n 2, 1) := by decide +kernel
theorem dX3_rowOf_19 : decode cX3_rowOf 19 = .ok (.aload_n 3, 1) := by decide +kernel
theorem dX3_rowOf_20 : decode cX3_rowOf 20 = .ok (.getfield 53, 3) := by decide +kernel
theorem dX3_rowOf_23 : decode cX3_rowOf 23 = .ok (.ishr, 1) := by decide +kernel
theorem dX3_rowOf_24 : decode cX3_rowOf 24 = .ok (.iconst 1, 1) := by decide +kernel
theorem dX3_rowOf_25 : decode cX3_rowOf 25 = .ok (.iand, 1) := by decide +kernel
theorem dX3_rowOf_26 : decode cX3_rowOf 26 = .ok (.ifCond .ne 10, 3) := by decide +kernel
theorem dX3_rowOf_29 : decode cX3_rowOf 29 = .ok (.aload_n 0, 1) := by decide +kernel
theorem dX3_rowOf_30 : decode cX3_rowOf 30 = .ok (.iconst 5, 1) := by decide +kernel
theorem dX3_rowOf_31 : decode cX3_rowOf 31 = .ok (.putfield 15, 3) := by decide +kernel
theorem dX3_rowOf_34 : decode cX3_rowOf 34 = .ok (.aconst_null, 1) := by decide +kernel
theorem dX3_rowOf_35 : decode cX3_rowOf 35 = .ok (.areturn, 1) := by decide +kernel
theorem dX3_rowOf_36 : decode cX3_rowOf 36 = .ok (.aload_n 0, 1) := by decide +kernel
theorem dX3_rowOf_37 : decode cX3_rowOf 37 = .ok (.iconst 0, 1) := by decide +kernel
theorem dX3_rowOf_38 : decode cX3_rowOf 38 = .ok (.putfield 15, 3) := by decide +kernel
theorem dX3_rowOf_41 : decode cX3_rowOf 41 = .ok (.aload_n 3, 1) := by decide +kernel
theorem dX3_rowOf_42 : decode cX3_rowOf 42 = .ok (.areturn, 1) := by decide +kernel
set_option maxRecDepth 20000 in
theorem ggX3_moveOne_X1_has : GoodIn wsX3_moveOne wsX1_has := goodIn_r _ [5, 6, 40, 41, 42, 43] (by decide +kernel) (by decide +kernel)
set_option maxRecDepth 20000 in
theorem gX3_moveOne_X1_has : GoodIn wsX3_moveOne (wsV RX3 46 RX1 yX1_has wsX1_has) := goodIn_app (goodIn_of _ (by decide +kernel)) ggX3_moveOne_X1_has
set_option maxRecDepth 20000 in
theorem ggX3_moveOne_X1_countTaken : GoodIn wsX3_moveOne wsX1_countTaken := goodIn_r _ [10, 11, 12, 13, 14, 4, 15, 16, 17, 18, 19, 20, 21, 22, 23, 24, 25, 26, 27, 28, 29, 30, 40, 41, 42, 43, 44, 45] (by decide +kernel) (by decide +kernel)
set_option maxRecDepth 20000 in
theorem gX3_moveOne_X1_countTaken : GoodIn wsX3_moveOne (wsV RX3 88 RX1 yX1_countTaken wsX1_countTaken) := goodIn_app (goodIn_of _ (by decide +kernel)) ggX3_moveOne_X1_countTaken
set_option maxRecDepth 20000 in
theorem ggX3_moveOne_X1_take : GoodIn wsX3_moveOne wsX1_take := goodIn_r _ [34, 35, 36, 37, 38, 39, 11, 12, 13, 14, 4, 15, 16, 40, 41, 42, 43] (by decide +kernel) (by decide +kernel)
set_option maxRecDepth 20000 in
theorem gX3_moveOne_X1_take : GoodIn wsX3_moveOne (wsV RX3 92 RX1 yX1_take wsX1_take) := goodIn_app (goodIn_of _ (by decide +kernel)) ggX3_moveOne_X1_take
theorem dX3_moveOne_0 : decode cX3_moveOne 0 = .ok (.aload_n 0, 1) := by decide +kernel
theorem dX3_moveOne_1 : decode cX3_moveOne 1 = .ok (.iload_n 1, 1) := by decide +kernel
theorem dX3_moveOne_2 : decode cX3_moveOne 2 = .ok (.invokevirtual 46, 3) := by decide +kernel
theorem dX3_moveOne_5 : decode cX3_moveOne 5 = .ok (.ifCond .eq 11, 3) := by decide +kernel
theorem dX3_moveOne_8 : decode cX3_moveOne 8 = .ok (.aload_n 2, 1) := by decide +kernel
theorem dX3_moveOne_9 : decode cX3_moveOne 9 = .ok (.iload_n 3, 1) := by decide +kernel
theorem dX3_moveOne_10 : decode cX3_moveOne 10 = .ok (.invokevirtual 46, 3) := by decide +kernel
theorem dX3_moveOne_13 : decode cX3_moveOne 13 = .ok (.ifCond .ne 5, 3) := by decide +kernel
theorem dX3_moveOne_16 : decode cX3_moveOne 16 = .ok (.iconst 3, 1) := by decide +kernel
theorem dX3_moveOne_17 : decode cX3_moveOne 17 = .ok (.ireturn, 1) := by decide +kernel
theorem dX3_moveOne_18 : decode cX3_moveOne 18 = .ok (.aload_n 2, 1) := by decide +kernel
theorem dX3_moveOne_19 : decode cX3_moveOne 19 = .ok (.aload_n 0, 1) := by decide +kernel
theorem dX3_moveOne_20 : decode cX3_moveOne 20 = .ok (.iload_n 1, 1) := by decide +kernel
theorem dX3_moveOne_21 : decode cX3_moveOne 21 = .ok (.iconst 1, 1) := by decide +kernel
theorem dX3_moveOne_22 : decode cX3_moveOne 22 = .ok (.invokevirtual 88, 3) := by decide +kernel
theorem dX3_moveOne_25 : decode cX3_moveOne 25 = .ok (.iconst 1, 1) := by decide +kernel
theorem dX3_moveOne_26 : decode cX3_moveOne 26 = .ok (.if_icmp .ge 5, 3) := by decide +kernel
theorem dX3_moveOne_29 : decode cX3_moveOne 29 = .ok (.iconst 2, 1) := by decide +kernel
theorem dX3_moveOne_30 : decode cX3_moveOne 30 = .ok (.ireturn, 1) := by decide +kernel
theorem dX3_moveOne_31 : decode cX3_moveOne 31 = .ok (.aload_n 2, 1) := by decide +kernel
theorem dX3_moveOne_32 : decode cX3_moveOne 32 = .ok (.aload_n 0, 1) := by decide +kernel
theorem dX3_moveOne_33 : decode cX3_moveOne 33 = .ok (.iload_n 1, 1) := by decide +kernel
theorem dX3_moveOne_34 : decode cX3_moveOne 34 = .ok (.iload_n 3, 1) := by decide +kernel
theorem dX3_moveOne_35 : decode cX3_moveOne 35 = .ok (.iconst 1, 1) := by decide +kernel
theorem dX3_moveOne_36 : decode cX3_moveOne 36 = .ok (.invokevirtual 92, 3) := by decide +kernel
theorem dX3_moveOne_39 : decode cX3_moveOne 39 = .ok (.iconst 0, 1) := by decide +kernel
theorem dX3_moveOne_40 : decode cX3_moveOne 40 = .ok (.ireturn, 1) := by decide +kernel
set_option maxRecDepth 20000 in
theorem ggX3_sumOfTable_X1_total : GoodIn wsX3_sumOfTable wsX1_total := goodIn_r _ [8, 9, 16, 17, 18, 19] (by decide +kernel) (by decide +kernel)
set_option maxRecDepth 20000 in
theorem gX3_sumOfTable_X1_total : GoodIn wsX3_sumOfTable (wsV RX3 115 RX1 yX1_total wsX1_total) := goodIn_app (goodIn_of _ (by decide +kernel)) ggX3_sumOfTable_X1_total
set_option maxRecDepth 20000 in
theorem ggX3_sumOfTable_X3_fail : GoodIn wsX3_sumOfTable wsX3_fail := goodIn_r _ [14, 15, 20, 21] (by decide +kernel) (by decide +kernel)
set_option maxRecDepth 20000 in
theorem gX3_sumOfTable_X3_fail : GoodIn wsX3_sumOfTable (wsV RX3 24 RX3 yX3_fail wsX3_fail) := goodIn_app (goodIn_of _ (by decide +kernel)) ggX3_sumOfTable_X3_fail
theorem dX3_sumOfTable_0 : decode cX3_sumOfTable 0 = .ok (.iconst 0, 1) := by decide +kernel
theorem dX3_sumOfTable_1 : decode cX3_sumOfTable 1 = .ok (.istore_n 2, 1) := by decide +kernel
theorem dX3_sumOfTable_2 : decode cX3_sumOfTable 2 = .ok (.iconst 0, 1) := by decide +kernel
theorem dX3_sumOfTable_3 : decode cX3_sumOfTable 3 = .ok (.istore_n 3, 1) := by decide +kernel
theorem dX3_sumOfTable_4 : decode cX3_sumOfTable 4 = .ok (.iload_n 3, 1) := by decide +kernel
theorem dX3_sumOfTable_5 : decode cX3_sumOfTable 5 = .ok (.aload_n 1, 1) := by decide +kernel
theorem dX3_sumOfTable_6 : decode cX3_sumOfTable 6 = .ok (.getfield 43, 3) := by decide +kernel
theorem dX3_sumOfTable_9 : decode cX3_sumOfTable 9 = .ok (.if_icmp .ge 49, 3) := by decide +kernel
theorem dX3_sumOfTable_12 : decode cX3_sumOfTable 12 = .ok (.aload_n 1, 1) := by decide +kernel
theorem dX3_sumOfTable_13 : decode cX3_sumOfTable 13 = .ok (.getfield 63, 3) := by decide +kernel
theorem dX3_sumOfTable_16 : decode cX3_sumOfTable 16 = .ok (.iload_n 3, 1) := by decide +kernel
theorem dX3_sumOfTable_17 : decode cX3_sumOfTable 17 = .ok (.aaload, 1) := by decide +kernel
theorem dX3_sumOfTable_18 : decode cX3_sumOfTable 18 = .ok (.astore 5, 2) := by decide +kernel
theorem dX3_sumOfTable_20 : decode cX3_sumOfTable 20 = .ok (.aload 5, 2) := by decide +kernel
theorem dX3_sumOfTable_22 : decode cX3_sumOfTable 22 = .ok (.instanceof 9, 3) := by decide +kernel
theorem dX3_sumOfTable_25 : decode cX3_sumOfTable 25 = .ok (.ifCond .eq 21, 3) := by decide +kernel
theorem dX3_sumOfTable_28 : decode cX3_sumOfTable 28 = .ok (.aload 5, 2) := by decide +kernel
theorem dX3_sumOfTable_30 : decode cX3_sumOfTable 30 = .ok (.checkcast 9, 3) := by decide +kernel
theorem dX3_sumOfTable_33 : decode cX3_sumOfTable 33 = .ok (.astore 4, 2) := by decide +kernel
theorem dX3_sumOfTable_35 : decode cX3_sumOfTable 35 = .ok (.iload_n 2, 1) := by decide +kernel
theorem dX3_sumOfTable_36 : decode cX3_sumOfTable 36 = .ok (.aload 4, 2) := by decide +kernel
theorem dX3_sumOfTable_38 : decode cX3_sumOfTable 38 = .ok (.invokevirtual 115, 3) := by decide +kernel
theorem dX3_sumOfTable_41 : decode cX3_sumOfTable 41 = .ok (.iadd, 1) := by decide +kernel
theorem dX3_sumOfTable_42 : decode cX3_sumOfTable 42 = .ok (.istore_n 2, 1) := by decide +kernel
theorem dX3_sumOfTable_43 : decode cX3_sumOfTable 43 = .ok (.goto 9, 3) := by decide +kernel
theorem dX3_sumOfTable_46 : decode cX3_sumOfTable 46 = .ok (.aload_n 0, 1) := by decide +kernel
theorem dX3_sumOfTable_47 : decode cX3_sumOfTable 47 = .ok (.iconst 1, 1) := by decide +kernel
theorem dX3_sumOfTable_48 : decode cX3_sumOfTable 48 = .ok (.invokevirtual 24, 3) := by decide +kernel
theorem dX3_sumOfTable_51 : decode cX3_sumOfTable 51 = .ok (.ireturn, 1) := by decide +kernel
theorem dX3_sumOfTable_52 : decode cX3_sumOfTable 52 = .ok (.iinc 3 1, 3) := by decide +kernel
theorem dX3_sumOfTable_55 : decode cX3_sumOfTable 55 = .ok (.goto (-51), 3) := by decide +kernel
theorem dX3_sumOfTable_58 : decode cX3_sumOfTable 58 = .ok (.iload_n 2, 1) := by decide +kernel
theorem dX3_sumOfTable_59 : decode cX3_sumOfTable 59 = .ok (.ireturn, 1) := by decide +kernel
theorem dX3_isFirstHeldAt_0 : decode cX3_isFirstHeldAt 0 = .ok (.iconst 0, 1) := by decide +kernel
theorem dX3_isFirstHeldAt_1 : decode cX3_isFirstHeldAt 1 = .ok (.istore_n 3, 1) := by decide +kernel
theorem dX3_isFirstHeldAt_2 : decode cX3_isFirstHeldAt 2 = .ok (.iload_n 3, 1) := by decide +kernel
theorem dX3_isFirstHeldAt_3 : decode cX3_isFirstHeldAt 3 = .ok (.iload_n 2, 1) := by decide +kernel
theorem dX3_isFirstHeldAt_4 : decode cX3_isFirstHeldAt 4 = .ok (.if_icmp .ge 21, 3) := by decide +kernel
theorem dX3_isFirstHeldAt_7 : decode cX3_isFirstHeldAt 7 = .ok (.aload_n 0, 1) := by decide +kernel
theorem dX3_isFirstHeldAt_8 : decode cX3_isFirstHeldAt 8 = .ok (.getfield 11, 3) := by decide +kernel
theorem dX3_isFirstHeldAt_11 : decode cX3_isFirstHeldAt 11 = .ok (.iload_n 3, 1) := by decide +kernel
theorem dX3_isFirstHeldAt_12 : decode cX3_isFirstHeldAt 12 = .ok (.aaload, 1) := by decide +kernel
theorem dX3_isFirstHeldAt_13 : decode cX3_isFirstHeldAt 13 = .ok (.aload_n 1, 1) := by decide +kernel
theorem dX3_isFirstHeldAt_14 : decode cX3_isFirstHeldAt 14 = .ok (.if_acmp .ne 5, 3) := by decide +kernel
theorem dX3_isFirstHeldAt_17 : decode cX3_isFirstHeldAt 17 = .ok (.iconst 0, 1) := by decide +kernel
theorem dX3_isFirstHeldAt_18 : decode cX3_isFirstHeldAt 18 = .ok (.ireturn, 1) := by decide +kernel
theorem dX3_isFirstHeldAt_19 : decode cX3_isFirstHeldAt 19 = .ok (.iinc 3 1, 3) := by decide +kernel
theorem dX3_isFirstHeldAt_22 : decode cX3_isFirstHeldAt 22 = .ok (.goto (-20), 3) := by decide +kernel
theorem dX3_isFirstHeldAt_25 : decode cX3_isFirstHeldAt 25 = .ok (.iconst 1, 1) := by decide +kernel
theorem dX3_isFirstHeldAt_26 : decode cX3_isFirstHeldAt 26 = .ok (.ireturn, 1) := by decide +kernel
end
section
theorem dX4_init_0 : decode cX4_init 0 = .ok (.aload_n 0, 1) := by decide +kernel
theorem dX4_init_1 : decode cX4_init 1 = .ok (.invokespecial 1, 3) := by decide +kernel
theorem dX4_init_4 : decode cX4_init 4 = .ok (.aload_n 0, 1) := by decide +kernel
theorem dX4_init_5 : decode cX4_init 5 = .ok (.bipush 12, 2) := by decide +kernel
theorem dX4_init_7 : decode cX4_init 7 = .ok (.newarray .int, 2) := by decide +kernel
theorem dX4_init_9 : decode cX4_init 9 = .ok (.putfield 7, 3) := by decide +kernel
theorem dX4_init_12 : decode cX4_init 12 = .ok (.aload_n 0, 1) := by decide +kernel
theorem dX4_init_13 : decode cX4_init 13 = .ok (.sipush 520, 3) := by decide +kernel
theorem dX4_init_16 : decode cX4_init 16 = .ok (.newarray .int, 2) := by decide +kernel
theorem dX4_init_18 : decode cX4_init 18 = .ok (.putfield 13, 3) := by decide +kernel
theorem dX4_init_21 : decode cX4_init 21 = .ok (.aload_n 0, 1) := by decide +kernel
theorem dX4_init_22 : decode cX4_init 22 = .ok (.sipush 520, 3) := by decide +kernel
theorem dX4_init_25 : decode cX4_init 25 = .ok (.newarray .int, 2) := by decide +kernel
theorem dX4_init_27 : decode cX4_init 27 = .ok (.putfield 16, 3) := by decide +kernel
theorem dX4_init_30 : decode cX4_init 30 = .ok (.aload_n 0, 1) := by decide +kernel
theorem dX4_init_31 : decode cX4_init 31 = .ok (.sipush 20800, 3) := by decide +kernel
theorem dX4_init_34 : decode cX4_init 34 = .ok (.newarray .int, 2) := by decide +kernel
theorem dX4_init_36 : decode cX4_init 36 = .ok (.putfield 19, 3) := by decide +kernel
theorem dX4_init_39 : decode cX4_init 39 = .ok (.aload_n 0, 1) := by decide +kernel
theorem dX4_init_40 : decode cX4_init 40 = .ok (.sipush 520, 3) := by decide +kernel
theorem dX4_init_43 : decode cX4_init 43 = .ok (.newarray .int, 2) := by decide +kernel
theorem dX4_init_45 : decode cX4_init 45 = .ok (.putfield 22, 3) := by decide +kernel
theorem dX4_init_48 : decode cX4_init 48 = .ok (.aload_n 0, 1) := by decide +kernel
theorem dX4_init_49 : decode cX4_init 49 = .ok (.sipush 520, 3) := by decide +kernel
theorem dX4_init_52 : decode cX4_init 52 = .ok (.newarray .int, 2) := by decide +kernel
theorem dX4_init_54 : decode cX4_init 54 = .ok (.putfield 25, 3) := by decide +kernel
theorem dX4_init_57 : decode cX4_init 57 = .ok (.aload_n 0, 1) := by decide +kernel
theorem dX4_init_58 : decode cX4_init 58 = .ok (.bipush 40, 2) := by decide +kernel
theorem dX4_init_60 : decode cX4_init 60 = .ok (.newarray .int, 2) := by decide +kernel
theorem dX4_init_62 : decode cX4_init 62 = .ok (.putfield 28, 3) := by decide +kernel
theorem dX4_init_65 : decode cX4_init 65 = .ok (.iconst 0, 1) := by decide +kernel
theorem dX4_init_66 : decode cX4_init 66 = .ok (.istore_n 1, 1) := by decide +kernel
theorem dX4_init_67 : decode cX4_init 67 = .ok (.iload_n 1, 1) := by decide +kernel
theorem dX4_init_68 : decode cX4_init 68 = .ok (.bipush 12, 2) := by decide +kernel
theorem dX4_init_70 : decode cX4_init 70 = .ok (.if_icmp .ge 16, 3) := by decide +kernel
theorem dX4_init_73 : decode cX4_init 73 = .ok (.aload_n 0, 1) := by decide +kernel
theorem dX4_init_74 : decode cX4_init 74 = .ok (.getfield 7, 3) := by decide +kernel
theorem dX4_init_77 : decode cX4_init 77 = .ok (.iload_n 1, 1) := by decide +kernel
theorem dX4_init_78 : decode cX4_init 78 = .ok (.iconst (-1), 1) := by decide +kernel
theorem dX4_init_79 : decode cX4_init 79 = .ok (.iastore, 1) := by decide +kernel
theorem dX4_init_80 : decode cX4_init 80 = .ok (.iinc 1 1, 3) := by decide +kernel
theorem dX4_init_83 : decode cX4_init 83 = .ok (.goto (-16), 3) := by decide +kernel
theorem dX4_init_86 : decode cX4_init 86 = .ok (.return_, 1) := by decide +kernel
theorem dX4_within_0 : decode cX4_within 0 = .ok (.lload_n 0, 1) := by decide +kernel
theorem dX4_within_1 : decode cX4_within 1 = .ok (.lload_n 2, 1) := by decide +kernel
theorem dX4_within_2 : decode cX4_within 2 = .ok (.lcmp, 1) := by decide +kernel
theorem dX4_within_3 : decode cX4_within 3 = .ok (.ifCond .lt 14, 3) := by decide +kernel
theorem dX4_within_6 : decode cX4_within 6 = .ok (.lload_n 0, 1) := by decide +kernel
theorem dX4_within_7 : decode cX4_within 7 = .ok (.lload 4, 2) := by decide +kernel
theorem dX4_within_9 : decode cX4_within 9 = .ok (.lcmp, 1) := by decide +kernel
theorem dX4_within_10 : decode cX4_within 10 = .ok (.ifCond .gt 7, 3) := by decide +kernel
theorem dX4_within_13 : decode cX4_within 13 = .ok (.iconst 1, 1) := by decide +kernel
theorem dX4_within_14 : decode cX4_within 14 = .ok (.goto 4, 3) := by decide +kernel
theorem dX4_within_17 : decode cX4_within 17 = .ok (.iconst 0, 1) := by decide +kernel
theorem dX4_within_18 : decode cX4_within 18 = .ok (.ireturn, 1) := by decide +kernel
set_option maxRecDepth 20000 in
theorem ggX4_isPlace_X4_within : GoodIn wsX4_isPlace wsX4_within := goodIn_r _ [5] (by decide +kernel) (by decide +kernel)
set_option maxRecDepth 20000 in
theorem gX4_isPlace_X4_within : GoodIn wsX4_isPlace (va_wsS RX4 33 yX4_within wsX4_within) := goodIn_app (goodIn_of _ (by decide +kernel)) ggX4_isPlace_X4_within
theorem dX4_isPlace_0 : decode cX4_isPlace 0 = .ok (.iload_n 0, 1) := by decide +kernel
theorem dX4_isPlace_1 : decode cX4_isPlace 1 = .ok (.i2l, 1) := by decide +kernel
theorem dX4_isPlace_2 : decode cX4_isPlace 2 = .ok (.lconst 0, 1) := by decide +kernel
theorem dX4_isPlace_3 : decode cX4_isPlace 3 = .ok (.ldc2_w 31, 3) := by decide +kernel
theorem dX4_isPlace_6 : decode cX4_isPlace 6 = .ok (.invokestatic 33, 3) := by decide +kernel
theorem dX4_isPlace_9 : decode cX4_isPlace 9 = .ok (.ireturn, 1) := by decide +kernel
theorem dX4_code_0 : decode cX4_code 0 = .ok (.aload_n 0, 1) := by decide +kernel
theorem dX4_code_1 : decode cX4_code 1 = .ok (.getfield 37, 3) := by decide +kernel
theorem dX4_code_4 : decode cX4_code 4 = .ok (.ireturn, 1) := by decide +kernel
theorem dX4_no_0 : decode cX4_no 0 = .ok (.aload_n 0, 1) := by decide +kernel
theorem dX4_no_1 : decode cX4_no 1 = .ok (.iload_n 1, 1) := by decide +kernel
theorem dX4_no_2 : decode cX4_no 2 = .ok (.putfield 37, 3) := by decide +kernel
theorem dX4_no_5 : decode cX4_no 5 = .ok (.iconst 0, 1) := by decide +kernel
theorem dX4_no_6 : decode cX4_no 6 = .ok (.ireturn, 1) := by decide +kernel
theorem dX4_yes_0 : decode cX4_yes 0 = .ok (.aload_n 0, 1) := by decide +kernel
theorem dX4_yes_1 : decode cX4_yes 1 = .ok (.iconst 0, 1) := by decide +kernel
theorem dX4_yes_2 : decode cX4_yes 2 = .ok (.putfield 37, 3) := by decide +kernel
theorem dX4_yes_5 : decode cX4_yes 5 = .ok (.iload_n 1, 1) := by decide +kernel
theorem dX4_yes_6 : decode cX4_yes 6 = .ok (.ireturn, 1) := by decide +kernel
theorem dX4_kindOf_0 : decode cX4_kindOf 0 = .ok (.aload_n 0, 1) := by decide +kernel
theorem dX4_kindOf_1 : decode cX4_kindOf 1 = .ok (.getfield 7, 3) := by decide +kernel
theorem dX4_kindOf_4 : decode cX4_kindOf 4 = .ok (.iload_n 1, 1) := by decide +kernel
theorem dX4_kindOf_5 : decode cX4_kindOf 5 = .ok (.iaload, 1) := by decide +kernel
theorem dX4_kindOf_6 : decode cX4_kindOf 6 = .ok (.istore_n 2, 1) := by decide +kernel
theorem dX4_kindOf_7 : decode cX4_kindOf 7 = .ok (.iload_n 2, 1) := by decide +kernel
theorem dX4_kindOf_8 : decode cX4_kindOf 8 = .ok (.iconst (-1), 1) := by decide +kernel
theorem dX4_kindOf_9 : decode cX4_kindOf 9 = .ok (.if_icmp .ne 7, 3) := by decide +kernel
theorem dX4_kindOf_12 : decode cX4_kindOf 12 = .ok (.iconst (-1), 1) := by decide +kernel
theorem dX4_kindOf_13 : decode cX4_kindOf 13 = .ok (.goto 19, 3) := by decide +kernel
theorem dX4_kindOf_16 : decode cX4_kindOf 16 = .ok (.iload_n 2, 1) := by decide +kernel
theorem dX4_kindOf_17 : decode cX4_kindOf 17 = .ok (.iconst (-1), 1) := by decide +kernel
theorem dX4_kindOf_18 : decode cX4_kindOf 18 = .ok (.if_icmp .ge 8, 3) := by decide +kernel
theorem dX4_kindOf_21 : decode cX4_kindOf 21 = .ok (.bipush 6, 2) := by decide +kernel
theorem dX4_kindOf_23 : decode cX4_kindOf 23 = .ok (.goto 9, 3) := by decide +kernel
theorem dX4_kindOf_26 : decode cX4_kindOf 26 = .ok (.aload_n 0, 1) := by decide +kernel
theorem dX4_kindOf_27 : decode cX4_kindOf 27 = .ok (.getfield 13, 3) := by decide +kernel
theorem dX4_kindOf_30 : decode cX4_kindOf 30 = .ok (.iload_n 2, 1) := by decide +kernel
theorem dX4_kindOf_31 : decode cX4_kindOf 31 = .ok (.iaload, 1) := by decide +kernel
theorem dX4_kindOf_32 : decode cX4_kindOf 32 = .ok (.ireturn, 1) := by decide +kernel
theorem dX4_isRow_0 : decode cX4_isRow 0 = .ok (.aload_n 0, 1) := by decide +kernel
theorem dX4_isRow_1 : decode cX4_isRow 1 = .ok (.getfield 7, 3) := by decide +kernel
theorem dX4_isRow_4 : decode cX4_isRow 4 = .ok (.iload_n 1, 1) := by decide +kernel
theorem dX4_isRow_5 : decode cX4_isRow 5 = .ok (.iaload, 1) := by decide +kernel
theorem dX4_isRow_6 : decode cX4_isRow 6 = .ok (.ifCond .lt 7, 3) := by decide +kernel
theorem dX4_isRow_9 : decode cX4_isRow 9 = .ok (.iconst 1, 1) := by decide +kernel
theorem dX4_isRow_10 : decode cX4_isRow 10 = .ok (.goto 4, 3) := by decide +kernel
theorem dX4_isRow_13 : decode cX4_isRow 13 = .ok (.iconst 0, 1) := by decide +kernel
theorem dX4_isRow_14 : decode cX4_isRow 14 = .ok (.ireturn, 1) := by decide +kernel
theorem dX4_wantsRow_0 : decode cX4_wantsRow 0 = .ok (.aload_n 0, 1) := by decide +kernel
theorem dX4_wantsRow_1 : decode cX4_wantsRow 1 = .ok (.getfield 7, 3) := by decide +kernel
theorem dX4_wantsRow_4 : decode cX4_wantsRow 4 = .ok (.iload_n 1, 1) := by decide +kernel
theorem dX4_wantsRow_5 : decode cX4_wantsRow 5 = .ok (.iaload, 1) := by decide +kernel
theorem dX4_wantsRow_6 : decode cX4_wantsRow 6 = .ok (.iconst (-1), 1) := by decide +kernel
theorem dX4_wantsRow_7 : decode cX4_wantsRow 7 = .ok (.if_icmp .ne 7, 3) := by decide +kernel
theorem dX4_wantsRow_10 : decode cX4_wantsRow 10 = .ok (.iconst 1, 1) := by decide +kernel
theorem dX4_wantsRow_11 : decode cX4_wantsRow 11 = .ok (.goto 18, 3) := by decide +kernel
theorem dX4_wantsRow_14 : decode cX4_wantsRow 14 = .ok (.aload_n 0, 1) := by decide +kernel
theorem dX4_wantsRow_15 : decode cX4_wantsRow 15 = .ok (.getfield 7, 3) := by decide +kernel
theorem dX4_wantsRow_18 : decode cX4_wantsRow 18 = .ok (.iload_n 1, 1) := by decide +kernel
theorem dX4_wantsRow_19 : decode cX4_wantsRow 19 = .ok (.iaload, 1) := by decide +kernel
theorem dX4_wantsRow_20 : decode cX4_wantsRow 20 = .ok (.iconst (-1), 1) := by decide +kernel
theorem dX4_wantsRow_21 : decode cX4_wantsRow 21 = .ok (.if_icmp .ge 7, 3) := by decide +kernel
theorem dX4_wantsRow_24 : decode cX4_wantsRow 24 = .ok (.iconst 5, 1) := by decide +kernel
theorem dX4_wantsRow_25 : decode cX4_wantsRow 25 = .ok (.goto 4, 3) := by decide +kernel
theorem dX4_wantsRow_28 : decode cX4_wantsRow 28 = .ok (.iconst 0, 1) := by decide +kernel
theorem dX4_wantsRow_29 : decode cX4_wantsRow 29 = .ok (.ireturn, 1) := by decide +kernel
theorem dX4_lengthOf_0 : decode cX4_lengthOf 0 = .ok (.aload_n 0, 1) := by decide +kernel
theorem dX4_lengthOf_1 : decode cX4_lengthOf 1 = .ok (.getfield 16, 3) := by decide +kernel
theorem dX4_lengthOf_4 : decode cX4_lengthOf 4 = .ok (.aload_n 0, 1) := by decide +kernel
theorem dX4_lengthOf_5 : decode cX4_lengthOf 5 = .ok (.getfield 7, 3) := by decide +kernel
theorem dX4_lengthOf_8 : decode cX4_lengthOf 8 = .ok (.iload_n 1, 1) := by decide +kernel
theorem dX4_lengthOf_9 : decode cX4_lengthOf 9 = .ok (.iaload, 1) := by decide +kernel
theorem dX4_lengthOf_10 : decode cX4_lengthOf 10 = .ok (.iaload, 1) := by decide +kernel
theorem dX4_lengthOf_11 : decode cX4_lengthOf 11 = .ok (.ireturn, 1) := by decide +kernel
theorem dX4_get_0 : decode cX4_get 0 = .ok (.aload_n 0, 1) := by decide +kernel
theorem dX4_get_1 : decode cX4_get 1 = .ok (.getfield 19, 3) := by decide +kernel
theorem dX4_get_4 : decode cX4_get 4 = .ok (.bipush 40, 2) := by decide +kernel
theorem dX4_get_6 : decode cX4_get 6 = .ok (.iload_n 1, 1) := by decide +kernel
theorem dX4_get_7 : decode cX4_get 7 = .ok (.imul, 1) := by decide +kernel
theorem dX4_get_8 : decode cX4_get 8 = .ok (.iload_n 2, 1) := by decide +kernel
theorem dX4_get_9 : decode cX4_get 9 = .ok (.iadd, 1) := by decide +kernel
theorem dX4_get_10 : decode cX4_get 10 = .ok (.iaload, 1) := by decide +kernel
theorem dX4_get_11 : decode cX4_get 11 = .ok (.ireturn, 1) := by decide +kernel
theorem dX4_put_0 : decode cX4_put 0 = .ok (.aload_n 0, 1) := by decide +kernel
theorem dX4_put_1 : decode cX4_put 1 = .ok (.getfield 19, 3) := by decide +kernel
theorem dX4_put_4 : decode cX4_put 4 = .ok (.bipush 40, 2) := by decide +kernel
theorem dX4_put_6 : decode cX4_put 6 = .ok (.iload_n 1, 1) := by decide +kernel
theorem dX4_put_7 : decode cX4_put 7 = .ok (.imul, 1) := by decide +kernel
theorem dX4_put_8 : decode cX4_put 8 = .ok (.iload_n 2, 1) := by decide +kernel
theorem dX4_put_9 : decode cX4_put 9 = .ok (.iadd, 1) := by decide +kernel
theorem dX4_put_10 : decode cX4_put 10 = .ok (.iload_n 3, 1) := by decide +kernel
theorem dX4_put_11 : decode cX4_put 11 = .ok (.iastore, 1) := by decide +kernel
theorem dX4_put_12 : decode cX4_put 12 = .ok (.return_, 1) := by decide +kernel
set_option maxRecDepth 20000 in
theorem ggX4_newRow_X4_put : GoodIn wsX4_newRow wsX4_put := goodIn_r _ [8, 9, 10, 11, 12, 13, 14, 15, 16, 17, 18, 19, 20] (by decide +kernel) (by decide +kernel)
set_option maxRecDepth 20000 in
theorem gX4_newRow_X4_put : GoodIn wsX4_newRow (wsV RX4 44 RX4 yX4_put wsX4_put) := goodIn_app (goodIn_of _ (by decide +kernel)) ggX4_newRow_X4_put
theorem dX4_newRow_0 : decode cX4_newRow 0 = .ok (.aload_n 0, 1) := by decide +kernel
theorem dX4_newRow_1 : decode cX4_newRow 1 = .ok (.getfield 13, 3) := by decide +kernel
theorem dX4_newRow_4 : decode cX4_newRow 4 = .ok (.aload_n 0, 1) := by decide +kernel
theorem dX4_newRow_5 : decode cX4_newRow 5 = .ok (.getfield 41, 3) := by decide +kernel
theorem dX4_newRow_8 : decode cX4_newRow 8 = .ok (.iload_n 1, 1) := by decide +kernel
theorem dX4_newRow_9 : decode cX4_newRow 9 = .ok (.iastore, 1) := by decide +kernel
theorem dX4_newRow_10 : decode cX4_newRow 10 = .ok (.aload_n 0, 1) := by decide +kernel
theorem dX4_newRow_11 : decode cX4_newRow 11 = .ok (.getfield 16, 3) := by decide +kernel
theorem dX4_newRow_14 : decode cX4_newRow 14 = .ok (.aload_n 0, 1) := by decide +kernel
theorem dX4_newRow_15 : decode cX4_newRow 15 = .ok (.getfield 41, 3) := by decide +kernel
theorem dX4_newRow_18 : decode cX4_newRow 18 = .ok (.iload_n 2, 1) := by decide +kernel
theorem dX4_newRow_19 : decode cX4_newRow 19 = .ok (.iastore, 1) := by decide +kernel
theorem dX4_newRow_20 : decode cX4_newRow 20 = .ok (.iconst 0, 1) := by decide +kernel
theorem dX4_newRow_21 : decode cX4_newRow 21 = .ok (.istore_n 3, 1) := by decide +kernel
theorem dX4_newRow_22 : decode cX4_newRow 22 = .ok (.iload_n 3, 1) := by decide +kernel
theorem dX4_newRow_23 : decode cX4_newRow 23 = .ok (.bipush 40, 2) := by decide +kernel
theorem dX4_newRow_25 : decode cX4_newRow 25 = .ok (.if_icmp .ge 28, 3) := by decide +kernel
theorem dX4_newRow_28 : decode cX4_newRow 28 = .ok (.aload_n 0, 1) := by decide +kernel
theorem dX4_newRow_29 : decode cX4_newRow 29 = .ok (.aload_n 0, 1) := by decide +kernel
theorem dX4_newRow_30 : decode cX4_newRow 30 = .ok (.getfield 41, 3) := by decide +kernel
theorem dX4_newRow_33 : decode cX4_newRow 33 = .ok (.iload_n 3, 1) := by decide +kernel
theorem dX4_newRow_34 : decode cX4_newRow 34 = .ok (.iload_n 1, 1) := by decide +kernel
theorem dX4_newRow_35 : decode cX4_newRow 35 = .ok (.iconst 2, 1) := by decide +kernel
theorem dX4_newRow_36 : decode cX4_newRow 36 = .ok (.if_icmp .ge 7, 3) := by decide +kernel
theorem dX4_newRow_39 : decode cX4_newRow 39 = .ok (.iconst 0, 1) := by decide +kernel
theorem dX4_newRow_40 : decode cX4_newRow 40 = .ok (.goto 4, 3) := by decide +kernel
theorem dX4_newRow_43 : decode cX4_newRow 43 = .ok (.iconst (-1), 1) := by decide +kernel
theorem dX4_newRow_44 : decode cX4_newRow 44 = .ok (.invokevirtual 44, 3) := by decide +kernel
theorem dX4_newRow_47 : decode cX4_newRow 47 = .ok (.iinc 3 1, 3) := by decide +kernel
theorem dX4_newRow_50 : decode cX4_newRow 50 = .ok (.goto (-28), 3) := by decide +kernel
theorem dX4_newRow_53 : decode cX4_newRow 53 = .ok (.aload_n 0, 1) := by decide +kernel
theorem dX4_newRow_54 : decode cX4_newRow 54 = .ok (.dup, 1) := by decide +kernel
theorem dX4_newRow_55 : decode cX4_newRow 55 = .ok (.getfield 41, 3) := by decide +kernel
theorem dX4_newRow_58 : decode cX4_newRow 58 = .ok (.iconst 1, 1) := by decide +kernel
theorem dX4_newRow_59 : decode cX4_newRow 59 = .ok (.iadd, 1) := by decide +kernel
theorem dX4_newRow_60 : decode cX4_newRow 60 = .ok (.putfield 41, 3) := by decide +kernel
theorem dX4_newRow_63 : decode cX4_newRow 63 = .ok (.aload_n 0, 1) := by decide +kernel
theorem dX4_newRow_64 : decode cX4_newRow 64 = .ok (.getfield 41, 3) := by decide +kernel
theorem dX4_newRow_67 : decode cX4_newRow 67 = .ok (.iconst 1, 1) := by decide +kernel
theorem dX4_newRow_68 : decode cX4_newRow 68 = .ok (.isub, 1) := by decide +kernel
theorem dX4_newRow_69 : decode cX4_newRow 69 = .ok (.ireturn, 1) := by decide +kernel
set_option maxRecDepth 20000 in
theorem ggX4_make_X4_isPlace : GoodIn wsX4_make wsX4_isPlace := goodIn_r _ [7, 8, 9, 10, 6, 11] (by decide +kernel) (by decide +kernel)
set_option maxRecDepth 20000 in
theorem gX4_make_X4_isPlace : GoodIn wsX4_make (va_wsS RX4 48 yX4_isPlace wsX4_isPlace) := goodIn_app (goodIn_of _ (by decide +kernel)) ggX4_make_X4_isPlace
set_option maxRecDepth 20000 in
theorem ggX4_make_X4_within : GoodIn wsX4_make wsX4_within := goodIn_r _ [11] (by decide +kernel) (by decide +kernel)
set_option maxRecDepth 20000 in
theorem gX4_make_X4_within : GoodIn wsX4_make (va_wsS RX4 33 yX4_within wsX4_within) := goodIn_app (goodIn_of _ (by decide +kernel)) ggX4_make_X4_within
set_option maxRecDepth 20000 in
theorem ggX4_make_X4_no : GoodIn wsX4_make wsX4_no := goodIn_r _ [15, 16, 33, 34, 35, 36, 37, 38, 39, 40, 41, 42, 43] (by decide +kernel) (by decide +kernel)
set_option maxRecDepth 20000 in
theorem gX4_make_X4_no : GoodIn wsX4_make (wsV RX4 55 RX4 yX4_no wsX4_no) := goodIn_app (goodIn_of _ (by decide +kernel)) ggX4_make_X4_no
set_option maxRecDepth 20000 in
theorem ggX4_make_X4_newRow : GoodIn wsX4_make wsX4_newRow := goodIn_r _ [20, 21, 22, 23, 24, 25, 26, 6, 27, 28, 33, 34, 35, 36, 37, 38, 39, 40, 41, 42, 43] (by decide +kernel) (by decide +kernel)
set_option maxRecDepth 20000 in
theorem gX4_make_X4_newRow : GoodIn wsX4_make (wsV RX4 59 RX4 yX4_newRow wsX4_newRow) := goodIn_app (goodIn_of _ (by decide +kernel)) ggX4_make_X4_newRow
set_option maxRecDepth 20000 in
theorem ggX4_make_X4_yes : GoodIn wsX4_make wsX4_yes := goodIn_r _ [32, 16, 33, 34, 35, 36, 37, 38, 39, 40, 41, 42, 43] (by decide +kernel) (by decide +kernel)
set_option maxRecDepth 20000 in
theorem gX4_make_X4_yes : GoodIn wsX4_make (wsV RX4 63 RX4 yX4_yes wsX4_yes) := goodIn_app (goodIn_of _ (by decide +kernel)) ggX4_make_X4_yes
theorem dX4_make_0 : decode cX4_make 0 = .ok (.iload_n 1, 1) := by decide +kernel
theorem dX4_make_1 : decode cX4_make 1 = .ok (.invokestatic 48, 3) := by decide +kernel
theorem dX4_make_4 : decode cX4_make 4 = .ok (.ifCond .eq 21, 3) := by decide +kernel
theorem dX4_make_7 : decode cX4_make 7 = .ok (.iload_n 2, 1) := by decide +kernel
theorem dX4_make_8 : decode cX4_make 8 = .ok (.i2l, 1) := by decide +kernel
theorem dX4_make_9 : decode cX4_make 9 = .ok (.lconst 0, 1) := by decide +kernel
theorem dX4_make_10 : decode cX4_make 10 = .ok (.ldc2_w 52, 3) := by decide +kernel
theorem dX4_make_13 : decode cX4_make 13 = .ok (.invokestatic 33, 3) := by decide +kernel
theorem dX4_make_16 : decode cX4_make 16 = .ok (.ifCond .eq 9, 3) := by decide +kernel
theorem dX4_make_19 : decode cX4_make 19 = .ok (.iload_n 3, 1) := by decide +kernel
theorem dX4_make_20 : decode cX4_make 20 = .ok (.bipush 40, 2) := by decide +kernel
theorem dX4_make_22 : decode cX4_make 22 = .ok (.if_icmp .le 6, 3) := by decide +kernel
theorem dX4_make_25 : decode cX4_make 25 = .ok (.ldc 54, 2) := by decide +kernel
theorem dX4_make_27 : decode cX4_make 27 = .ok (.ireturn, 1) := by decide +kernel
theorem dX4_make_28 : decode cX4_make 28 = .ok (.iload_n 3, 1) := by decide +kernel
theorem dX4_make_29 : decode cX4_make 29 = .ok (.ifCond .ge 9, 3) := by decide +kernel
theorem dX4_make_32 : decode cX4_make 32 = .ok (.aload_n 0, 1) := by decide +kernel
theorem dX4_make_33 : decode cX4_make 33 = .ok (.iconst 4, 1) := by decide +kernel
theorem dX4_make_34 : decode cX4_make 34 = .ok (.invokevirtual 55, 3) := by decide +kernel
theorem dX4_make_37 : decode cX4_make 37 = .ok (.ireturn, 1) := by decide +kernel
theorem dX4_make_38 : decode cX4_make 38 = .ok (.aload_n 0, 1) := by decide +kernel
theorem dX4_make_39 : decode cX4_make 39 = .ok (.getfield 7, 3) := by decide +kernel
theorem dX4_make_42 : decode cX4_make 42 = .ok (.iload_n 1, 1) := by decide +kernel
theorem dX4_make_43 : decode cX4_make 43 = .ok (.aload_n 0, 1) := by decide +kernel
theorem dX4_make_44 : decode cX4_make 44 = .ok (.iload_n 2, 1) := by decide +kernel
theorem dX4_make_45 : decode cX4_make 45 = .ok (.iload_n 3, 1) := by decide +kernel
theorem dX4_make_46 : decode cX4_make 46 = .ok (.invokevirtual 59, 3) := by decide +kernel
theorem dX4_make_49 : decode cX4_make 49 = .ok (.iastore, 1) := by decide +kernel
theorem dX4_make_50 : decode cX4_make 50 = .ok (.aload_n 0, 1) := by decide +kernel
theorem dX4_make_51 : decode cX4_make 51 = .ok (.iload_n 3, 1) := by decide +kernel
theorem dX4_make_52 : decode cX4_make 52 = .ok (.invokevirtual 63, 3) := by decide +kernel
theorem dX4_make_55 : decode cX4_make 55 = .ok (.ireturn, 1) := by decide +kernel
set_option maxRecDepth 20000 in
theorem ggX4_share_X4_isPlace : GoodIn wsX4_share wsX4_isPlace := goodIn_r _ [6, 7, 8, 9, 5, 10] (by decide +kernel) (by decide +kernel)
set_option maxRecDepth 20000 in
theorem gX4_share_X4_isPlace : GoodIn wsX4_share (va_wsS RX4 48 yX4_isPlace wsX4_isPlace) := goodIn_app (goodIn_of _ (by decide +kernel)) ggX4_share_X4_isPlace
set_option maxRecDepth 20000 in
theorem ggX4_share_X4_kindOf : GoodIn wsX4_share wsX4_kindOf := goodIn_r _ [14, 2, 15, 16, 17, 18, 19, 20, 21, 22, 23, 24, 25, 26] (by decide +kernel) (by decide +kernel)
set_option maxRecDepth 20000 in
theorem gX4_share_X4_kindOf : GoodIn wsX4_share (wsV RX4 66 RX4 yX4_kindOf wsX4_kindOf) := goodIn_app (goodIn_of _ (by decide +kernel)) ggX4_share_X4_kindOf
theorem dX4_share_0 : decode cX4_share 0 = .ok (.iload_n 1, 1) := by decide +kernel
theorem dX4_share_1 : decode cX4_share 1 = .ok (.invokestatic 48, 3) := by decide +kernel
theorem dX4_share_4 : decode cX4_share 4 = .ok (.ifCond .eq 10, 3) := by decide +kernel
theorem dX4_share_7 : decode cX4_share 7 = .ok (.iload_n 2, 1) := by decide +kernel
theorem dX4_share_8 : decode cX4_share 8 = .ok (.invokestatic 48, 3) := by decide +kernel
theorem dX4_share_11 : decode cX4_share 11 = .ok (.ifCond .ne 6, 3) := by decide +kernel
theorem dX4_share_14 : decode cX4_share 14 = .ok (.ldc 54, 2) := by decide +kernel
theorem dX4_share_16 : decode cX4_share 16 = .ok (.ireturn, 1) := by decide +kernel
theorem dX4_share_17 : decode cX4_share 17 = .ok (.aload_n 0, 1) := by decide +kernel
theorem dX4_share_18 : decode cX4_share 18 = .ok (.getfield 7, 3) := by decide +kernel
theorem dX4_share_21 : decode cX4_share 21 = .ok (.iload_n 1, 1) := by decide +kernel
theorem dX4_share_22 : decode cX4_share 22 = .ok (.aload_n 0, 1) := by decide +kernel
theorem dX4_share_23 : decode cX4_share 23 = .ok (.getfield 7, 3) := by decide +kernel
theorem dX4_share_26 : decode cX4_share 26 = .ok (.iload_n 2, 1) := by decide +kernel
theorem dX4_share_27 : decode cX4_share 27 = .ok (.iaload, 1) := by decide +kernel
theorem dX4_share_28 : decode cX4_share 28 = .ok (.iastore, 1) := by decide +kernel
theorem dX4_share_29 : decode cX4_share 29 = .ok (.aload_n 0, 1) := by decide +kernel
theorem dX4_share_30 : decode cX4_share 30 = .ok (.iload_n 1, 1) := by decide +kernel
theorem dX4_share_31 : decode cX4_share 31 = .ok (.invokevirtual 66, 3) := by decide +kernel
theorem dX4_share_34 : decode cX4_share 34 = .ok (.ireturn, 1) := by decide +kernel
set_option maxRecDepth 20000 in
theorem ggX4_nothing_X4_isPlace : GoodIn wsX4_nothing wsX4_isPlace := goodIn_r _ [6, 7, 8, 9, 5, 10] (by decide +kernel) (by decide +kernel)
set_option maxRecDepth 20000 in
theorem gX4_nothing_X4_isPlace : GoodIn wsX4_nothing (va_wsS RX4 48 yX4_isPlace wsX4_isPlace) := goodIn_app (goodIn_of _ (by decide +kernel)) ggX4_nothing_X4_isPlace
set_option maxRecDepth 20000 in
theorem ggX4_nothing_X4_kindOf : GoodIn wsX4_nothing wsX4_kindOf := goodIn_r _ [14, 2, 15, 16, 17, 18, 19, 20, 21, 22, 23, 24, 25, 26] (by decide +kernel) (by decide +kernel)
set_option maxRecDepth 20000 in
theorem gX4_nothing_X4_kindOf : GoodIn wsX4_nothing (wsV RX4 66 RX4 yX4_kindOf wsX4_kindOf) := goodIn_app (goodIn_of _ (by decide +kernel)) ggX4_nothing_X4_kindOf
theorem dX4_nothing_0 : decode cX4_nothing 0 = .ok (.iload_n 1, 1) := by decide +kernel
theorem dX4_nothing_1 : decode cX4_nothing 1 = .ok (.invokestatic 48, 3) := by decide +kernel
theorem dX4_nothing_4 : decode cX4_nothing 4 = .ok (.ifCond .ne 6, 3) := by decide +kernel
theorem dX4_nothing_7 : decode cX4_nothing 7 = .ok (.ldc 54, 2) := by decide +kernel
theorem dX4_nothing_9 : decode cX4_nothing 9 = .ok (.ireturn, 1) := by decide +kernel
theorem dX4_nothing_10 : decode cX4_nothing 10 = .ok (.aload_n 0, 1) := by decide +kernel
theorem dX4_nothing_11 : decode cX4_nothing 11 = .ok (.iload_n 1, 1) := by decide +kernel
theorem dX4_nothing_12 : decode cX4_nothing 12 = .ok (.invokevirtual 66, 3) := by decide +kernel
theorem dX4_nothing_15 : decode cX4_nothing 15 = .ok (.istore_n 2, 1) := by decide +kernel
theorem dX4_nothing_16 : decode cX4_nothing 16 = .ok (.aload_n 0, 1) := by decide +kernel
theorem dX4_nothing_17 : decode cX4_nothing 17 = .ok (.getfield 7, 3) := by decide +kernel
theorem dX4_nothing_20 : decode cX4_nothing 20 = .ok (.iload_n 1, 1) := by decide +kernel
theorem dX4_nothing_21 : decode cX4_nothing 21 = .ok (.iconst (-1), 1) := by decide +kernel
theorem dX4_nothing_22 : decode cX4_nothing 22 = .ok (.iastore, 1) := by decide +kernel
theorem dX4_nothing_23 : decode cX4_nothing 23 = .ok (.iload_n 2, 1) := by decide +kernel
theorem dX4_nothing_24 : decode cX4_nothing 24 = .ok (.ireturn, 1) := by decide +kernel
set_option maxRecDepth 20000 in
theorem ggX4_lump_X4_isPlace : GoodIn wsX4_lump wsX4_isPlace := goodIn_r _ [7, 8, 9, 10, 6, 11] (by decide +kernel) (by decide +kernel)
set_option maxRecDepth 20000 in
theorem gX4_lump_X4_isPlace : GoodIn wsX4_lump (va_wsS RX4 48 yX4_isPlace wsX4_isPlace) := goodIn_app (goodIn_of _ (by decide +kernel)) ggX4_lump_X4_isPlace
theorem dX4_lump_0 : decode cX4_lump 0 = .ok (.iload_n 1, 1) := by decide +kernel
theorem dX4_lump_1 : decode cX4_lump 1 = .ok (.invokestatic 48, 3) := by decide +kernel
theorem dX4_lump_4 : decode cX4_lump 4 = .ok (.ifCond .ne 6, 3) := by decide +kernel
theorem dX4_lump_7 : decode cX4_lump 7 = .ok (.ldc 54, 2) := by decide +kernel
theorem dX4_lump_9 : decode cX4_lump 9 = .ok (.ireturn, 1) := by decide +kernel
theorem dX4_lump_10 : decode cX4_lump 10 = .ok (.aload_n 0, 1) := by decide +kernel
theorem dX4_lump_11 : decode cX4_lump 11 = .ok (.dup, 1) := by decide +kernel
theorem dX4_lump_12 : decode cX4_lump 12 = .ok (.getfield 69, 3) := by decide +kernel
theorem dX4_lump_15 : decode cX4_lump 15 = .ok (.iconst 1, 1) := by decide +kernel
theorem dX4_lump_16 : decode cX4_lump 16 = .ok (.iadd, 1) := by decide +kernel
theorem dX4_lump_17 : decode cX4_lump 17 = .ok (.putfield 69, 3) := by decide +kernel
theorem dX4_lump_20 : decode cX4_lump 20 = .ok (.aload_n 0, 1) := by decide +kernel
theorem dX4_lump_21 : decode cX4_lump 21 = .ok (.getfield 7, 3) := by decide +kernel
theorem dX4_lump_24 : decode cX4_lump 24 = .ok (.iload_n 1, 1) := by decide +kernel
theorem dX4_lump_25 : decode cX4_lump 25 = .ok (.iconst (-1), 1) := by decide +kernel
theorem dX4_lump_26 : decode cX4_lump 26 = .ok (.aload_n 0, 1) := by decide +kernel
theorem dX4_lump_27 : decode cX4_lump 27 = .ok (.getfield 69, 3) := by decide +kernel
theorem dX4_lump_30 : decode cX4_lump 30 = .ok (.isub, 1) := by decide +kernel
theorem dX4_lump_31 : decode cX4_lump 31 = .ok (.iastore, 1) := by decide +kernel
theorem dX4_lump_32 : decode cX4_lump 32 = .ok (.iconst 1, 1) := by decide +kernel
theorem dX4_lump_33 : decode cX4_lump 33 = .ok (.ireturn, 1) := by decide +kernel
set_option maxRecDepth 20000 in
theorem ggX4_kind_X4_isPlace : GoodIn wsX4_kind wsX4_isPlace := goodIn_r _ [5, 6, 7, 8, 4, 9] (by decide +kernel) (by decide +kernel)
set_option maxRecDepth 20000 in
theorem gX4_kind_X4_isPlace : GoodIn wsX4_kind (va_wsS RX4 48 yX4_isPlace wsX4_isPlace) := goodIn_app (goodIn_of _ (by decide +kernel)) ggX4_kind_X4_isPlace
set_option maxRecDepth 20000 in
theorem ggX4_kind_X4_kindOf : GoodIn wsX4_kind wsX4_kindOf := goodIn_r _ [13, 14, 15, 16, 17, 18, 19, 20, 21, 22, 23, 24, 25, 26] (by decide +kernel) (by decide +kernel)
set_option maxRecDepth 20000 in
theorem gX4_kind_X4_kindOf : GoodIn wsX4_kind (wsV RX4 66 RX4 yX4_kindOf wsX4_kindOf) := goodIn_app (goodIn_of _ (by decide +kernel)) ggX4_kind_X4_kindOf
theorem dX4_kind_0 : decode cX4_kind 0 = .ok (.iload_n 1, 1) := by decide +kernel
theorem dX4_kind_1 : decode cX4_kind 1 = .ok (.invokestatic 48, 3) := by decide +kernel
theorem dX4_kind_4 : decode cX4_kind 4 = .ok (.ifCond .eq 11, 3) := by decide +kernel
theorem dX4_kind_7 : decode cX4_kind 7 = .ok (.aload_n 0, 1) := by decide +kernel
theorem dX4_kind_8 : decode cX4_kind 8 = .ok (.iload_n 1, 1) := by decide +kernel
theorem dX4_kind_9 : decode cX4_kind 9 = .ok (.invokevirtual 66, 3) := by decide +kernel
theorem dX4_kind_12 : decode cX4_kind 12 = .ok (.goto 5, 3) := by decide +kernel
theorem dX4_kind_15 : decode cX4_kind 15 = .ok (.ldc 54, 2) := by decide +kernel
theorem dX4_kind_17 : decode cX4_kind 17 = .ok (.ireturn, 1) := by decide +kernel
set_option maxRecDepth 20000 in
theorem ggX4_length_X4_isPlace : GoodIn wsX4_length wsX4_isPlace := goodIn_r _ [5, 6, 7, 8, 4, 9] (by decide +kernel) (by decide +kernel)
set_option maxRecDepth 20000 in
theorem gX4_length_X4_isPlace : GoodIn wsX4_length (va_wsS RX4 48 yX4_isPlace wsX4_isPlace) := goodIn_app (goodIn_of _ (by decide +kernel)) ggX4_length_X4_isPlace
set_option maxRecDepth 20000 in
theorem ggX4_length_X4_wantsRow : GoodIn wsX4_length wsX4_wantsRow := goodIn_r _ [13, 14, 29, 30, 31, 32, 33, 34, 35, 36, 37, 38, 39] (by decide +kernel) (by decide +kernel)
set_option maxRecDepth 20000 in
theorem gX4_length_X4_wantsRow : GoodIn wsX4_length (wsV RX4 72 RX4 yX4_wantsRow wsX4_wantsRow) := goodIn_app (goodIn_of _ (by decide +kernel)) ggX4_length_X4_wantsRow
set_option maxRecDepth 20000 in
theorem ggX4_length_X4_no : GoodIn wsX4_length wsX4_no := goodIn_r _ [18, 19, 29, 30, 31, 32, 33, 34, 35, 36, 37, 38, 39] (by decide +kernel) (by decide +kernel)
set_option maxRecDepth 20000 in
theorem gX4_length_X4_no : GoodIn wsX4_length (wsV RX4 55 RX4 yX4_no wsX4_no) := goodIn_app (goodIn_of _ (by decide +kernel)) ggX4_length_X4_no
set_option maxRecDepth 20000 in
theorem ggX4_length_X4_lengthOf : GoodIn wsX4_length wsX4_lengthOf := goodIn_r _ [23, 24, 14, 29, 30, 31, 32, 33, 34, 35, 36, 37, 38, 39] (by decide +kernel) (by decide +kernel)
set_option maxRecDepth 20000 in
theorem gX4_length_X4_lengthOf : GoodIn wsX4_length (wsV RX4 75 RX4 yX4_lengthOf wsX4_lengthOf) := goodIn_app (goodIn_of _ (by decide +kernel)) ggX4_length_X4_lengthOf
set_option maxRecDepth 20000 in
theorem ggX4_length_X4_yes : GoodIn wsX4_length wsX4_yes := goodIn_r _ [28, 19, 29, 30, 31, 32, 33, 34, 35, 36, 37, 38, 39] (by decide +kernel) (by decide +kernel)
set_option maxRecDepth 20000 in
theorem gX4_length_X4_yes : GoodIn wsX4_length (wsV RX4 63 RX4 yX4_yes wsX4_yes) := goodIn_app (goodIn_of _ (by decide +kernel)) ggX4_length_X4_yes
theorem dX4_length_0 : decode cX4_length 0 = .ok (.iload_n 1, 1) := by decide +kernel
theorem dX4_length_1 : decode cX4_length 1 = .ok (.invokestatic 48, 3) := by decide +kernel
theorem dX4_length_4 : decode cX4_length 4 = .ok (.ifCond .ne 6, 3) := by decide +kernel
theorem dX4_length_7 : decode cX4_length 7 = .ok (.ldc 54, 2) := by decide +kernel
theorem dX4_length_9 : decode cX4_length 9 = .ok (.ireturn, 1) := by decide +kernel
theorem dX4_length_10 : decode cX4_length 10 = .ok (.aload_n 0, 1) := by decide +kernel
theorem dX4_length_11 : decode cX4_length 11 = .ok (.iload_n 1, 1) := by decide +kernel
theorem dX4_length_12 : decode cX4_length 12 = .ok (.invokevirtual 72, 3) := by decide +kernel
theorem dX4_length_15 : decode cX4_length 15 = .ok (.istore_n 2, 1) := by decide +kernel
theorem dX4_length_16 : decode cX4_length 16 = .ok (.iload_n 2, 1) := by decide +kernel
theorem dX4_length_17 : decode cX4_length 17 = .ok (.ifCond .eq 11, 3) := by decide +kernel
theorem dX4_length_20 : decode cX4_length 20 = .ok (.aload_n 0, 1) := by decide +kernel
theorem dX4_length_21 : decode cX4_length 21 = .ok (.iload_n 2, 1) := by decide +kernel
theorem dX4_length_22 : decode cX4_length 22 = .ok (.invokevirtual 55, 3) := by decide +kernel
theorem dX4_length_25 : decode cX4_length 25 = .ok (.goto 12, 3) := by decide +kernel
theorem dX4_length_28 : decode cX4_length 28 = .ok (.aload_n 0, 1) := by decide +kernel
theorem dX4_length_29 : decode cX4_length 29 = .ok (.aload_n 0, 1) := by decide +kernel
theorem dX4_length_30 : decode cX4_length 30 = .ok (.iload_n 1, 1) := by decide +kernel
theorem dX4_length_31 : decode cX4_length 31 = .ok (.invokevirtual 75, 3) := by decide +kernel
theorem dX4_length_34 : decode cX4_length 34 = .ok (.invokevirtual 63, 3) := by decide +kernel
theorem dX4_length_37 : decode cX4_length 37 = .ok (.ireturn, 1) := by decide +kernel
set_option maxRecDepth 20000 in
theorem ggX4_wantsItem_X4_wantsRow : GoodIn wsX4_wantsItem wsX4_wantsRow := goodIn_r _ [5, 6, 20, 21, 22, 23, 24, 25, 26, 27, 28, 29, 30] (by decide +kernel) (by decide +kernel)
set_option maxRecDepth 20000 in
theorem gX4_wantsItem_X4_wantsRow : GoodIn wsX4_wantsItem (wsV RX4 72 RX4 yX4_wantsRow wsX4_wantsRow) := goodIn_app (goodIn_of _ (by decide +kernel)) ggX4_wantsItem_X4_wantsRow
set_option maxRecDepth 20000 in
theorem ggX4_wantsItem_X4_kindOf : GoodIn wsX4_wantsItem wsX4_kindOf := goodIn_r _ [10, 6, 11, 20, 21, 22, 23, 24, 25, 26, 27, 28, 29, 30] (by decide +kernel) (by decide +kernel)
set_option maxRecDepth 20000 in
theorem gX4_wantsItem_X4_kindOf : GoodIn wsX4_wantsItem (wsV RX4 66 RX4 yX4_kindOf wsX4_kindOf) := goodIn_app (goodIn_of _ (by decide +kernel)) ggX4_wantsItem_X4_kindOf
set_option maxRecDepth 20000 in
theorem ggX4_wantsItem_X4_within : GoodIn wsX4_wantsItem wsX4_within := goodIn_r _ [14] (by decide +kernel) (by decide +kernel)
set_option maxRecDepth 20000 in
theorem gX4_wantsItem_X4_within : GoodIn wsX4_wantsItem (va_wsS RX4 33 yX4_within wsX4_within) := goodIn_app (goodIn_of _ (by decide +kernel)) ggX4_wantsItem_X4_within
set_option maxRecDepth 20000 in
theorem ggX4_wantsItem_X4_lengthOf : GoodIn wsX4_wantsItem wsX4_lengthOf := goodIn_r _ [18, 19, 6, 20, 21, 22, 23, 24, 25, 26, 27, 28, 29, 30] (by decide +kernel) (by decide +kernel)
set_option maxRecDepth 20000 in
theorem gX4_wantsItem_X4_lengthOf : GoodIn wsX4_wantsItem (wsV RX4 75 RX4 yX4_lengthOf wsX4_lengthOf) := goodIn_app (goodIn_of _ (by decide +kernel)) ggX4_wantsItem_X4_lengthOf
theorem dX4_wantsItem_0 : decode cX4_wantsItem 0 = .ok (.aload_n 0, 1) := by decide +kernel
theorem dX4_wantsItem_1 : decode cX4_wantsItem 1 = .ok (.iload_n 1, 1) := by decide +kernel
theorem dX4_wantsItem_2 : decode cX4_wantsItem 2 = .ok (.invokevirtual 72, 3) := by decide +kernel
theorem dX4_wantsItem_5 : decode cX4_wantsItem 5 = .ok (.istore 5, 2) := by decide +kernel
theorem dX4_wantsItem_7 : decode cX4_wantsItem 7 = .ok (.iload 5, 2) := by decide +kernel
theorem dX4_wantsItem_9 : decode cX4_wantsItem 9 = .ok (.ifCond .ne 22, 3) := by decide +kernel
theorem dX4_wantsItem_12 : decode cX4_wantsItem 12 = .ok (.aload_n 0, 1) := by decide +kernel
theorem dX4_wantsItem_13 : decode cX4_wantsItem 13 = .ok (.iload_n 1, 1) := by decide +kernel
theorem dX4_wantsItem_14 : decode cX4_wantsItem 14 = .ok (.invokevirtual 66, 3) := by decide +kernel
theorem dX4_wantsItem_17 : decode cX4_wantsItem 17 = .ok (.i2l, 1) := by decide +kernel
theorem dX4_wantsItem_18 : decode cX4_wantsItem 18 = .ok (.iload_n 2, 1) := by decide +kernel
theorem dX4_wantsItem_19 : decode cX4_wantsItem 19 = .ok (.i2l, 1) := by decide +kernel
theorem dX4_wantsItem_20 : decode cX4_wantsItem 20 = .ok (.iload_n 3, 1) := by decide +kernel
theorem dX4_wantsItem_21 : decode cX4_wantsItem 21 = .ok (.i2l, 1) := by decide +kernel
theorem dX4_wantsItem_22 : decode cX4_wantsItem 22 = .ok (.invokestatic 33, 3) := by decide +kernel
theorem dX4_wantsItem_25 : decode cX4_wantsItem 25 = .ok (.ifCond .ne 6, 3) := by decide +kernel
theorem dX4_wantsItem_28 : decode cX4_wantsItem 28 = .ok (.iconst 5, 1) := by decide +kernel
theorem dX4_wantsItem_29 : decode cX4_wantsItem 29 = .ok (.istore 5, 2) := by decide +kernel
theorem dX4_wantsItem_31 : decode cX4_wantsItem 31 = .ok (.iload 5, 2) := by decide +kernel
theorem dX4_wantsItem_33 : decode cX4_wantsItem 33 = .ok (.ifCond .ne 25, 3) := by decide +kernel
theorem dX4_wantsItem_36 : decode cX4_wantsItem 36 = .ok (.iload 4, 2) := by decide +kernel
theorem dX4_wantsItem_38 : decode cX4_wantsItem 38 = .ok (.i2l, 1) := by decide +kernel
theorem dX4_wantsItem_39 : decode cX4_wantsItem 39 = .ok (.lconst 0, 1) := by decide +kernel
theorem dX4_wantsItem_40 : decode cX4_wantsItem 40 = .ok (.aload_n 0, 1) := by decide +kernel
theorem dX4_wantsItem_41 : decode cX4_wantsItem 41 = .ok (.iload_n 1, 1) := by decide +kernel
theorem dX4_wantsItem_42 : decode cX4_wantsItem 42 = .ok (.invokevirtual 75, 3) := by decide +kernel
theorem dX4_wantsItem_45 : decode cX4_wantsItem 45 = .ok (.iconst 1, 1) := by decide +kernel
theorem dX4_wantsItem_46 : decode cX4_wantsItem 46 = .ok (.isub, 1) := by decide +kernel
theorem dX4_wantsItem_47 : decode cX4_wantsItem 47 = .ok (.i2l, 1) := by decide +kernel
theorem dX4_wantsItem_48 : decode cX4_wantsItem 48 = .ok (.invokestatic 33, 3) := by decide +kernel
theorem dX4_wantsItem_51 : decode cX4_wantsItem 51 = .ok (.ifCond .ne 7, 3) := by decide +kernel
theorem dX4_wantsItem_54 : decode cX4_wantsItem 54 = .ok (.iconst 3, 1) := by decide +kernel
theorem dX4_wantsItem_55 : decode cX4_wantsItem 55 = .ok (.goto 5, 3) := by decide +kernel
theorem dX4_wantsItem_58 : decode cX4_wantsItem 58 = .ok (.iload 5, 2) := by decide +kernel
theorem dX4_wantsItem_60 : decode cX4_wantsItem 60 = .ok (.ireturn, 1) := by decide +kernel
theorem dX4_low8_0 : decode cX4_low8 0 = .ok (.iload_n 0, 1) := by decide +kernel
theorem dX4_low8_1 : decode cX4_low8 1 = .ok (.sipush 255, 3) := by decide +kernel
theorem dX4_low8_4 : decode cX4_low8 4 = .ok (.iand, 1) := by decide +kernel
theorem dX4_low8_5 : decode cX4_low8 5 = .ok (.istore_n 1, 1) := by decide +kernel
theorem dX4_low8_6 : decode cX4_low8 6 = .ok (.iload_n 1, 1) := by decide +kernel
theorem dX4_low8_7 : decode cX4_low8 7 = .ok (.bipush 127, 2) := by decide +kernel
theorem dX4_low8_9 : decode cX4_low8 9 = .ok (.if_icmp .le 11, 3) := by decide +kernel
theorem dX4_low8_12 : decode cX4_low8 12 = .ok (.iload_n 1, 1) := by decide +kernel
theorem dX4_low8_13 : decode cX4_low8 13 = .ok (.sipush 256, 3) := by decide +kernel
theorem dX4_low8_16 : decode cX4_low8 16 = .ok (.isub, 1) := by decide +kernel
theorem dX4_low8_17 : decode cX4_low8 17 = .ok (.goto 4, 3) := by decide +kernel
theorem dX4_low8_20 : decode cX4_low8 20 = .ok (.iload_n 1, 1) := by decide +kernel
theorem dX4_low8_21 : decode cX4_low8 21 = .ok (.ireturn, 1) := by decide +kernel
set_option maxRecDepth 20000 in
theorem ggX4_set_X4_isPlace : GoodIn wsX4_set wsX4_isPlace := goodIn_r _ [7, 8, 9, 10, 6, 11] (by decide +kernel) (by decide +kernel)
set_option maxRecDepth 20000 in
theorem gX4_set_X4_isPlace : GoodIn wsX4_set (va_wsS RX4 48 yX4_isPlace wsX4_isPlace) := goodIn_app (goodIn_of _ (by decide +kernel)) ggX4_set_X4_isPlace
set_option maxRecDepth 20000 in
theorem ggX4_set_X4_wantsItem : GoodIn wsX4_set wsX4_wantsItem := goodIn_r _ [15, 16, 17, 18, 6, 19, 2, 20, 21, 22, 23, 3, 9, 10, 11, 24, 25, 26, 27, 28, 50, 51, 52, 53, 54, 55, 56, 57, 58, 59, 60] (by decide +kernel) (by decide +kernel)
set_option maxRecDepth 20000 in
theorem gX4_set_X4_wantsItem : GoodIn wsX4_set (wsV RX4 78 RX4 yX4_wantsItem wsX4_wantsItem) := goodIn_app (goodIn_of _ (by decide +kernel)) ggX4_set_X4_wantsItem
set_option maxRecDepth 20000 in
theorem ggX4_set_X4_no : GoodIn wsX4_set wsX4_no := goodIn_r _ [32, 33, 50, 51, 52, 53, 54, 55, 56, 57, 58, 59, 60] (by decide +kernel) (by decide +kernel)
set_option maxRecDepth 20000 in
theorem gX4_set_X4_no : GoodIn wsX4_set (wsV RX4 55 RX4 yX4_no wsX4_no) := goodIn_app (goodIn_of _ (by decide +kernel)) ggX4_set_X4_no
set_option maxRecDepth 20000 in
theorem ggX4_set_X4_get : GoodIn wsX4_set wsX4_get := goodIn_r _ [37, 38, 50, 51, 52, 53, 54, 55, 56, 57, 58, 59, 60] (by decide +kernel) (by decide +kernel)
set_option maxRecDepth 20000 in
theorem gX4_set_X4_get : GoodIn wsX4_set (wsV RX4 82 RX4 yX4_get wsX4_get) := goodIn_app (goodIn_of _ (by decide +kernel)) ggX4_set_X4_get
set_option maxRecDepth 20000 in
theorem ggX4_set_X4_low8 : GoodIn wsX4_set wsX4_low8 := goodIn_r _ [41] (by decide +kernel) (by decide +kernel)
set_option maxRecDepth 20000 in
theorem gX4_set_X4_low8 : GoodIn wsX4_set (va_wsS RX4 85 yX4_low8 wsX4_low8) := goodIn_app (goodIn_of _ (by decide +kernel)) ggX4_set_X4_low8
set_option maxRecDepth 20000 in
theorem ggX4_set_X4_put : GoodIn wsX4_set wsX4_put := goodIn_r _ [45, 38, 50, 51, 52, 53, 54, 55, 56, 57, 58, 59, 60] (by decide +kernel) (by decide +kernel)
set_option maxRecDepth 20000 in
theorem gX4_set_X4_put : GoodIn wsX4_set (wsV RX4 44 RX4 yX4_put wsX4_put) := goodIn_app (goodIn_of _ (by decide +kernel)) ggX4_set_X4_put
set_option maxRecDepth 20000 in
theorem ggX4_set_X4_yes : GoodIn wsX4_set wsX4_yes := goodIn_r _ [49, 33, 50, 51, 52, 53, 54, 55, 56, 57, 58, 59, 60] (by decide +kernel) (by decide +kernel)
set_option maxRecDepth 20000 in
theorem gX4_set_X4_yes : GoodIn wsX4_set (wsV RX4 63 RX4 yX4_yes wsX4_yes) := goodIn_app (goodIn_of _ (by decide +kernel)) ggX4_set_X4_yes
theorem dX4_set_0 : decode cX4_set 0 = .ok (.iload_n 1, 1) := by decide +kernel
theorem dX4_set_1 : decode cX4_set 1 = .ok (.invokestatic 48, 3) := by decide +kernel
theorem dX4_set_4 : decode cX4_set 4 = .ok (.ifCond .ne 6, 3) := by decide +kernel
theorem dX4_set_7 : decode cX4_set 7 = .ok (.ldc 54, 2) := by decide +kernel
theorem dX4_set_9 : decode cX4_set 9 = .ok (.ireturn, 1) := by decide +kernel
theorem dX4_set_10 : decode cX4_set 10 = .ok (.aload_n 0, 1) := by decide +kernel
theorem dX4_set_11 : decode cX4_set 11 = .ok (.iload_n 1, 1) := by decide +kernel
theorem dX4_set_12 : decode cX4_set 12 = .ok (.iconst 0, 1) := by decide +kernel
theorem dX4_set_13 : decode cX4_set 13 = .ok (.iconst 1, 1) := by decide +kernel
theorem dX4_set_14 : decode cX4_set 14 = .ok (.iload_n 2, 1) := by decide +kernel
theorem dX4_set_15 : decode cX4_set 15 = .ok (.invokevirtual 78, 3) := by decide +kernel
theorem dX4_set_18 : decode cX4_set 18 = .ok (.istore 4, 2) := by decide +kernel
theorem dX4_set_20 : decode cX4_set 20 = .ok (.iload 4, 2) := by decide +kernel
theorem dX4_set_22 : decode cX4_set 22 = .ok (.ifCond .eq 10, 3) := by decide +kernel
theorem dX4_set_25 : decode cX4_set 25 = .ok (.aload_n 0, 1) := by decide +kernel
theorem dX4_set_26 : decode cX4_set 26 = .ok (.iload 4, 2) := by decide +kernel
theorem dX4_set_28 : decode cX4_set 28 = .ok (.invokevirtual 55, 3) := by decide +kernel
theorem dX4_set_31 : decode cX4_set 31 = .ok (.ireturn, 1) := by decide +kernel
theorem dX4_set_32 : decode cX4_set 32 = .ok (.aload_n 0, 1) := by decide +kernel
theorem dX4_set_33 : decode cX4_set 33 = .ok (.getfield 7, 3) := by decide +kernel
theorem dX4_set_36 : decode cX4_set 36 = .ok (.iload_n 1, 1) := by decide +kernel
theorem dX4_set_37 : decode cX4_set 37 = .ok (.iaload, 1) := by decide +kernel
theorem dX4_set_38 : decode cX4_set 38 = .ok (.istore 5, 2) := by decide +kernel
theorem dX4_set_40 : decode cX4_set 40 = .ok (.aload_n 0, 1) := by decide +kernel
theorem dX4_set_41 : decode cX4_set 41 = .ok (.iload 5, 2) := by decide +kernel
theorem dX4_set_43 : decode cX4_set 43 = .ok (.iload_n 2, 1) := by decide +kernel
theorem dX4_set_44 : decode cX4_set 44 = .ok (.invokevirtual 82, 3) := by decide +kernel
theorem dX4_set_47 : decode cX4_set 47 = .ok (.istore 6, 2) := by decide +kernel
theorem dX4_set_49 : decode cX4_set 49 = .ok (.aload_n 0, 1) := by decide +kernel
theorem dX4_set_50 : decode cX4_set 50 = .ok (.iload 5, 2) := by decide +kernel
theorem dX4_set_52 : decode cX4_set 52 = .ok (.iload_n 2, 1) := by decide +kernel
theorem dX4_set_53 : decode cX4_set 53 = .ok (.aload_n 0, 1) := by decide +kernel
theorem dX4_set_54 : decode cX4_set 54 = .ok (.getfield 13, 3) := by decide +kernel
theorem dX4_set_57 : decode cX4_set 57 = .ok (.iload 5, 2) := by decide +kernel
theorem dX4_set_59 : decode cX4_set 59 = .ok (.iaload, 1) := by decide +kernel
theorem dX4_set_60 : decode cX4_set 60 = .ok (.ifCond .ne 10, 3) := by decide +kernel
theorem dX4_set_63 : decode cX4_set 63 = .ok (.iload_n 3, 1) := by decide +kernel
theorem dX4_set_64 : decode cX4_set 64 = .ok (.invokestatic 85, 3) := by decide +kernel
theorem dX4_set_67 : decode cX4_set 67 = .ok (.goto 4, 3) := by decide +kernel
theorem dX4_set_70 : decode cX4_set 70 = .ok (.iload_n 3, 1) := by decide +kernel
theorem dX4_set_71 : decode cX4_set 71 = .ok (.invokevirtual 44, 3) := by decide +kernel
theorem dX4_set_74 : decode cX4_set 74 = .ok (.aload_n 0, 1) := by decide +kernel
theorem dX4_set_75 : decode cX4_set 75 = .ok (.iload 6, 2) := by decide +kernel
theorem dX4_set_77 : decode cX4_set 77 = .ok (.invokevirtual 63, 3) := by decide +kernel
theorem dX4_set_80 : decode cX4_set 80 = .ok (.ireturn, 1) := by decide +kernel
theorem dX4_fitsClass_0 : decode cX4_fitsClass 0 = .ok (.iload_n 0, 1) := by decide +kernel
theorem dX4_fitsClass_1 : decode cX4_fitsClass 1 = .ok (.iconst (-1), 1) := by decide +kernel
theorem dX4_fitsClass_2 : decode cX4_fitsClass 2 = .ok (.if_icmp .eq 28, 3) := by decide +kernel
theorem dX4_fitsClass_5 : decode cX4_fitsClass 5 = .ok (.iload_n 1, 1) := by decide +kernel
theorem dX4_fitsClass_6 : decode cX4_fitsClass 6 = .ok (.iconst 3, 1) := by decide +kernel
theorem dX4_fitsClass_7 : decode cX4_fitsClass 7 = .ok (.if_icmp .eq 23, 3) := by decide +kernel
theorem dX4_fitsClass_10 : decode cX4_fitsClass 10 = .ok (.iload_n 0, 1) := by decide +kernel
theorem dX4_fitsClass_11 : decode cX4_fitsClass 11 = .ok (.iconst 1, 1) := by decide +kernel
theorem dX4_fitsClass_12 : decode cX4_fitsClass 12 = .ok (.if_icmp .ne 8, 3) := by decide +kernel
theorem dX4_fitsClass_15 : decode cX4_fitsClass 15 = .ok (.iload_n 1, 1) := by decide +kernel
theorem dX4_fitsClass_16 : decode cX4_fitsClass 16 = .ok (.iconst 4, 1) := by decide +kernel
theorem dX4_fitsClass_17 : decode cX4_fitsClass 17 = .ok (.if_icmp .eq 13, 3) := by decide +kernel
theorem dX4_fitsClass_20 : decode cX4_fitsClass 20 = .ok (.iload_n 0, 1) := by decide +kernel
theorem dX4_fitsClass_21 : decode cX4_fitsClass 21 = .ok (.iconst 2, 1) := by decide +kernel
theorem dX4_fitsClass_22 : decode cX4_fitsClass 22 = .ok (.if_icmp .ne 12, 3) := by decide +kernel
theorem dX4_fitsClass_25 : decode cX4_fitsClass 25 = .ok (.iload_n 1, 1) := by decide +kernel
theorem dX4_fitsClass_26 : decode cX4_fitsClass 26 = .ok (.iconst 5, 1) := by decide +kernel
theorem dX4_fitsClass_27 : decode cX4_fitsClass 27 = .ok (.if_icmp .ne 7, 3) := by decide +kernel
theorem dX4_fitsClass_30 : decode cX4_fitsClass 30 = .ok (.iconst 1, 1) := by decide +kernel
theorem dX4_fitsClass_31 : decode cX4_fitsClass 31 = .ok (.goto 4, 3) := by decide +kernel
theorem dX4_fitsClass_34 : decode cX4_fitsClass 34 = .ok (.iconst 0, 1) := by decide +kernel
theorem dX4_fitsClass_35 : decode cX4_fitsClass 35 = .ok (.ireturn, 1) := by decide +kernel
set_option maxRecDepth 20000 in
theorem ggX4_thing_X4_isPlace : GoodIn wsX4_thing wsX4_isPlace := goodIn_r _ [11, 12, 13, 14, 10, 15] (by decide +kernel) (by decide +kernel)
set_option maxRecDepth 20000 in
theorem gX4_thing_X4_isPlace : GoodIn wsX4_thing (va_wsS RX4 48 yX4_isPlace wsX4_isPlace) := goodIn_app (goodIn_of _ (by decide +kernel)) ggX4_thing_X4_isPlace
set_option maxRecDepth 20000 in
theorem ggX4_thing_X4_within : GoodIn wsX4_thing wsX4_within := goodIn_r _ [15] (by decide +kernel) (by decide +kernel)
set_option maxRecDepth 20000 in
theorem gX4_thing_X4_within : GoodIn wsX4_thing (va_wsS RX4 33 yX4_within wsX4_within) := goodIn_app (goodIn_of _ (by decide +kernel)) ggX4_thing_X4_within
set_option maxRecDepth 20000 in
theorem ggX4_thing_X4_wantsItem : GoodIn wsX4_thing wsX4_wantsItem := goodIn_r _ [19, 20, 21, 22, 10, 23, 4, 24, 25, 26, 27, 28, 13, 14, 15, 29, 30, 31, 32, 33, 51, 52, 53, 54, 55, 56, 57, 58, 59, 60, 61] (by decide +kernel) (by decide +kernel)
set_option maxRecDepth 20000 in
theorem gX4_thing_X4_wantsItem : GoodIn wsX4_thing (wsV RX4 78 RX4 yX4_wantsItem wsX4_wantsItem) := goodIn_app (goodIn_of _ (by decide +kernel)) ggX4_thing_X4_wantsItem
set_option maxRecDepth 20000 in
theorem ggX4_thing_X4_kindOf : GoodIn wsX4_thing wsX4_kindOf := goodIn_r _ [27, 4, 28, 51, 52, 53, 54, 55, 56, 57, 58, 59, 60, 61] (by decide +kernel) (by decide +kernel)
set_option maxRecDepth 20000 in
theorem gX4_thing_X4_kindOf : GoodIn wsX4_thing (wsV RX4 66 RX4 yX4_kindOf wsX4_kindOf) := goodIn_app (goodIn_of _ (by decide +kernel)) ggX4_thing_X4_kindOf
set_option maxRecDepth 20000 in
theorem ggX4_thing_X4_fitsClass : GoodIn wsX4_thing wsX4_fitsClass := goodIn_r _ [36] (by decide +kernel) (by decide +kernel)
set_option maxRecDepth 20000 in
theorem gX4_thing_X4_fitsClass : GoodIn wsX4_thing (va_wsS RX4 92 yX4_fitsClass wsX4_fitsClass) := goodIn_app (goodIn_of _ (by decide +kernel)) ggX4_thing_X4_fitsClass
set_option maxRecDepth 20000 in
theorem ggX4_thing_X4_no : GoodIn wsX4_thing wsX4_no := goodIn_r _ [40, 41, 51, 52, 53, 54, 55, 56, 57, 58, 59, 60, 61] (by decide +kernel) (by decide +kernel)
set_option maxRecDepth 20000 in
theorem gX4_thing_X4_no : GoodIn wsX4_thing (wsV RX4 55 RX4 yX4_no wsX4_no) := goodIn_app (goodIn_of _ (by decide +kernel)) ggX4_thing_X4_no
set_option maxRecDepth 20000 in
theorem ggX4_thing_X4_put : GoodIn wsX4_thing wsX4_put := goodIn_r _ [45, 46, 51, 52, 53, 54, 55, 56, 57, 58, 59, 60, 61] (by decide +kernel) (by decide +kernel)
set_option maxRecDepth 20000 in
theorem gX4_thing_X4_put : GoodIn wsX4_thing (wsV RX4 44 RX4 yX4_put wsX4_put) := goodIn_app (goodIn_of _ (by decide +kernel)) ggX4_thing_X4_put
set_option maxRecDepth 20000 in
theorem ggX4_thing_X4_yes : GoodIn wsX4_thing wsX4_yes := goodIn_r _ [50, 41, 51, 52, 53, 54, 55, 56, 57, 58, 59, 60, 61] (by decide +kernel) (by decide +kernel)
set_option maxRecDepth 20000 in
theorem gX4_thing_X4_yes : GoodIn wsX4_thing (wsV RX4 63 RX4 yX4_yes wsX4_yes) := goodIn_app (goodIn_of _ (by decide +kernel)) ggX4_thing_X4_yes
theorem dX4_thing_0 : decode cX4_thing 0 = .ok (.iload_n 1, 1) := by decide +kernel
theorem dX4_thing_1 : decode cX4_thing 1 = .ok (.invokestatic 48, 3) := by decide +kernel
theorem dX4_thing_4 : decode cX4_thing 4 = .ok (.ifCond .eq 17, 3) := by decide +kernel
theorem dX4_thing_7 : decode cX4_thing 7 = .ok (.iload_n 3, 1) := by decide +kernel
theorem dX4_thing_8 : decode cX4_thing 8 = .ok (.i2l, 1) := by decide +kernel
theorem dX4_thing_9 : decode cX4_thing 9 = .ok (.ldc2_w 88, 3) := by decide +kernel
theorem dX4_thing_12 : decode cX4_thing 12 = .ok (.ldc2_w 90, 3) := by decide +kernel
theorem dX4_thing_15 : decode cX4_thing 15 = .ok (.invokestatic 33, 3) := by decide +kernel
theorem dX4_thing_18 : decode cX4_thing 18 = .ok (.ifCond .ne 6, 3) := by decide +kernel
theorem dX4_thing_21 : decode cX4_thing 21 = .ok (.ldc 54, 2) := by decide +kernel
theorem dX4_thing_23 : decode cX4_thing 23 = .ok (.ireturn, 1) := by decide +kernel
theorem dX4_thing_24 : decode cX4_thing 24 = .ok (.aload_n 0, 1) := by decide +kernel
theorem dX4_thing_25 : decode cX4_thing 25 = .ok (.iload_n 1, 1) := by decide +kernel
theorem dX4_thing_26 : decode cX4_thing 26 = .ok (.iconst 3, 1) := by decide +kernel
theorem dX4_thing_27 : decode cX4_thing 27 = .ok (.iconst 5, 1) := by decide +kernel
theorem dX4_thing_28 : decode cX4_thing 28 = .ok (.iload_n 2, 1) := by decide +kernel
theorem dX4_thing_29 : decode cX4_thing 29 = .ok (.invokevirtual 78, 3) := by decide +kernel
theorem dX4_thing_32 : decode cX4_thing 32 = .ok (.istore 5, 2) := by decide +kernel
theorem dX4_thing_34 : decode cX4_thing 34 = .ok (.iload 5, 2) := by decide +kernel
theorem dX4_thing_36 : decode cX4_thing 36 = .ok (.ifCond .ne 18, 3) := by decide +kernel
theorem dX4_thing_39 : decode cX4_thing 39 = .ok (.iload_n 3, 1) := by decide +kernel
theorem dX4_thing_40 : decode cX4_thing 40 = .ok (.aload_n 0, 1) := by decide +kernel
theorem dX4_thing_41 : decode cX4_thing 41 = .ok (.iload_n 1, 1) := by decide +kernel
theorem dX4_thing_42 : decode cX4_thing 42 = .ok (.invokevirtual 66, 3) := by decide +kernel
theorem dX4_thing_45 : decode cX4_thing 45 = .ok (.invokestatic 92, 3) := by decide +kernel
theorem dX4_thing_48 : decode cX4_thing 48 = .ok (.ifCond .ne 6, 3) := by decide +kernel
theorem dX4_thing_51 : decode cX4_thing 51 = .ok (.iconst 2, 1) := by decide +kernel
theorem dX4_thing_52 : decode cX4_thing 52 = .ok (.istore 5, 2) := by decide +kernel
theorem dX4_thing_54 : decode cX4_thing 54 = .ok (.iload 5, 2) := by decide +kernel
theorem dX4_thing_56 : decode cX4_thing 56 = .ok (.ifCond .eq 10, 3) := by decide +kernel
theorem dX4_thing_59 : decode cX4_thing 59 = .ok (.aload_n 0, 1) := by decide +kernel
theorem dX4_thing_60 : decode cX4_thing 60 = .ok (.iload 5, 2) := by decide +kernel
theorem dX4_thing_62 : decode cX4_thing 62 = .ok (.invokevirtual 55, 3) := by decide +kernel
theorem dX4_thing_65 : decode cX4_thing 65 = .ok (.ireturn, 1) := by decide +kernel
theorem dX4_thing_66 : decode cX4_thing 66 = .ok (.iload_n 3, 1) := by decide +kernel
theorem dX4_thing_67 : decode cX4_thing 67 = .ok (.iconst (-1), 1) := by decide +kernel
theorem dX4_thing_68 : decode cX4_thing 68 = .ok (.if_icmp .ne 21, 3) := by decide +kernel
theorem dX4_thing_71 : decode cX4_thing 71 = .ok (.aload_n 0, 1) := by decide +kernel
theorem dX4_thing_72 : decode cX4_thing 72 = .ok (.aload_n 0, 1) := by decide +kernel
theorem dX4_thing_73 : decode cX4_thing 73 = .ok (.getfield 7, 3) := by decide +kernel
theorem dX4_thing_76 : decode cX4_thing 76 = .ok (.iload_n 1, 1) := by decide +kernel
theorem dX4_thing_77 : decode cX4_thing 77 = .ok (.iaload, 1) := by decide +kernel
theorem dX4_thing_78 : decode cX4_thing 78 = .ok (.iload_n 2, 1) := by decide +kernel
theorem dX4_thing_79 : decode cX4_thing 79 = .ok (.iconst (-1), 1) := by decide +kernel
theorem dX4_thing_80 : decode cX4_thing 80 = .ok (.invokevirtual 44, 3) := by decide +kernel
theorem dX4_thing_83 : decode cX4_thing 83 = .ok (.aload_n 0, 1) := by decide +kernel
theorem dX4_thing_84 : decode cX4_thing 84 = .ok (.iconst 1, 1) := by decide +kernel
theorem dX4_thing_85 : decode cX4_thing 85 = .ok (.invokevirtual 63, 3) := by decide +kernel
theorem dX4_thing_88 : decode cX4_thing 88 = .ok (.ireturn, 1) := by decide +kernel
theorem dX4_thing_89 : decode cX4_thing 89 = .ok (.aload_n 0, 1) := by decide +kernel
theorem dX4_thing_90 : decode cX4_thing 90 = .ok (.getfield 22, 3) := by decide +kernel
theorem dX4_thing_93 : decode cX4_thing 93 = .ok (.aload_n 0, 1) := by decide +kernel
theorem dX4_thing_94 : decode cX4_thing 94 = .ok (.getfield 96, 3) := by decide +kernel
theorem dX4_thing_97 : decode cX4_thing 97 = .ok (.iload_n 3, 1) := by decide +kernel
theorem dX4_thing_98 : decode cX4_thing 98 = .ok (.iastore, 1) := by decide +kernel
theorem dX4_thing_99 : decode cX4_thing 99 = .ok (.aload_n 0, 1) := by decide +kernel
theorem dX4_thing_100 : decode cX4_thing 100 = .ok (.getfield 25, 3) := by decide +kernel
theorem dX4_thing_103 : decode cX4_thing 103 = .ok (.aload_n 0, 1) := by decide +kernel
theorem dX4_thing_104 : decode cX4_thing 104 = .ok (.getfield 96, 3) := by decide +kernel
theorem dX4_thing_107 : decode cX4_thing 107 = .ok (.iload 4, 2) := by decide +kernel
theorem dX4_thing_109 : decode cX4_thing 109 = .ok (.iastore, 1) := by decide +kernel
theorem dX4_thing_110 : decode cX4_thing 110 = .ok (.aload_n 0, 1) := by decide +kernel
theorem dX4_thing_111 : decode cX4_thing 111 = .ok (.aload_n 0, 1) := by decide +kernel
theorem dX4_thing_112 : decode cX4_thing 112 = .ok (.getfield 7, 3) := by decide +kernel
theorem dX4_thing_115 : decode cX4_thing 115 = .ok (.iload_n 1, 1) := by decide +kernel
theorem dX4_thing_116 : decode cX4_thing 116 = .ok (.iaload, 1) := by decide +kernel
theorem dX4_thing_117 : decode cX4_thing 117 = .ok (.iload_n 2, 1) := by decide +kernel
theorem dX4_thing_118 : decode cX4_thing 118 = .ok (.aload_n 0, 1) := by decide +kernel
theorem dX4_thing_119 : decode cX4_thing 119 = .ok (.getfield 96, 3) := by decide +kernel
theorem dX4_thing_122 : decode cX4_thing 122 = .ok (.invokevirtual 44, 3) := by decide +kernel
theorem dX4_thing_125 : decode cX4_thing 125 = .ok (.aload_n 0, 1) := by decide +kernel
theorem dX4_thing_126 : decode cX4_thing 126 = .ok (.dup, 1) := by decide +kernel
theorem dX4_thing_127 : decode cX4_thing 127 = .ok (.getfield 96, 3) := by decide +kernel
theorem dX4_thing_130 : decode cX4_thing 130 = .ok (.iconst 1, 1) := by decide +kernel
theorem dX4_thing_131 : decode cX4_thing 131 = .ok (.iadd, 1) := by decide +kernel
theorem dX4_thing_132 : decode cX4_thing 132 = .ok (.putfield 96, 3) := by decide +kernel
theorem dX4_thing_135 : decode cX4_thing 135 = .ok (.aload_n 0, 1) := by decide +kernel
theorem dX4_thing_136 : decode cX4_thing 136 = .ok (.iconst 1, 1) := by decide +kernel
theorem dX4_thing_137 : decode cX4_thing 137 = .ok (.invokevirtual 63, 3) := by decide +kernel
theorem dX4_thing_140 : decode cX4_thing 140 = .ok (.ireturn, 1) := by decide +kernel
set_option maxRecDepth 20000 in
theorem ggX4_hang_X4_isPlace : GoodIn wsX4_hang wsX4_isPlace := goodIn_r _ [6, 7, 8, 9, 5, 10] (by decide +kernel) (by decide +kernel)
set_option maxRecDepth 20000 in
theorem gX4_hang_X4_isPlace : GoodIn wsX4_hang (va_wsS RX4 48 yX4_isPlace wsX4_isPlace) := goodIn_app (goodIn_of _ (by decide +kernel)) ggX4_hang_X4_isPlace
set_option maxRecDepth 20000 in
theorem ggX4_hang_X4_wantsRow : GoodIn wsX4_hang wsX4_wantsRow := goodIn_r _ [14, 2, 39, 40, 41, 42, 43, 44, 45, 46, 47, 48, 49] (by decide +kernel) (by decide +kernel)
set_option maxRecDepth 20000 in
theorem gX4_hang_X4_wantsRow : GoodIn wsX4_hang (wsV RX4 72 RX4 yX4_wantsRow wsX4_wantsRow) := goodIn_app (goodIn_of _ (by decide +kernel)) ggX4_hang_X4_wantsRow
set_option maxRecDepth 20000 in
theorem ggX4_hang_X4_kindOf : GoodIn wsX4_hang wsX4_kindOf := goodIn_r _ [18, 2, 19, 39, 40, 41, 42, 43, 44, 45, 46, 47, 48, 49] (by decide +kernel) (by decide +kernel)
set_option maxRecDepth 20000 in
theorem gX4_hang_X4_kindOf : GoodIn wsX4_hang (wsV RX4 66 RX4 yX4_kindOf wsX4_kindOf) := goodIn_app (goodIn_of _ (by decide +kernel)) ggX4_hang_X4_kindOf
set_option maxRecDepth 20000 in
theorem ggX4_hang_X4_lengthOf : GoodIn wsX4_hang wsX4_lengthOf := goodIn_r _ [23, 24, 2, 39, 40, 41, 42, 43, 44, 45, 46, 47, 48, 49] (by decide +kernel) (by decide +kernel)
set_option maxRecDepth 20000 in
theorem gX4_hang_X4_lengthOf : GoodIn wsX4_hang (wsV RX4 75 RX4 yX4_lengthOf wsX4_lengthOf) := goodIn_app (goodIn_of _ (by decide +kernel)) ggX4_hang_X4_lengthOf
set_option maxRecDepth 20000 in
theorem ggX4_hang_X4_within : GoodIn wsX4_hang wsX4_within := goodIn_r _ [10] (by decide +kernel) (by decide +kernel)
set_option maxRecDepth 20000 in
theorem gX4_hang_X4_within : GoodIn wsX4_hang (va_wsS RX4 33 yX4_within wsX4_within) := goodIn_app (goodIn_of _ (by decide +kernel)) ggX4_hang_X4_within
set_option maxRecDepth 20000 in
theorem ggX4_hang_X4_no : GoodIn wsX4_hang wsX4_no := goodIn_r _ [28, 29, 39, 40, 41, 42, 43, 44, 45, 46, 47, 48, 49] (by decide +kernel) (by decide +kernel)
set_option maxRecDepth 20000 in
theorem gX4_hang_X4_no : GoodIn wsX4_hang (wsV RX4 55 RX4 yX4_no wsX4_no) := goodIn_app (goodIn_of _ (by decide +kernel)) ggX4_hang_X4_no
set_option maxRecDepth 20000 in
theorem ggX4_hang_X4_put : GoodIn wsX4_hang wsX4_put := goodIn_r _ [33, 34, 39, 40, 41, 42, 43, 44, 45, 46, 47, 48, 49] (by decide +kernel) (by decide +kernel)
set_option maxRecDepth 20000 in
theorem gX4_hang_X4_put : GoodIn wsX4_hang (wsV RX4 44 RX4 yX4_put wsX4_put) := goodIn_app (goodIn_of _ (by decide +kernel)) ggX4_hang_X4_put
set_option maxRecDepth 20000 in
theorem ggX4_hang_X4_yes : GoodIn wsX4_hang wsX4_yes := goodIn_r _ [38, 29, 39, 40, 41, 42, 43, 44, 45, 46, 47, 48, 49] (by decide +kernel) (by decide +kernel)
set_option maxRecDepth 20000 in
theorem gX4_hang_X4_yes : GoodIn wsX4_hang (wsV RX4 63 RX4 yX4_yes wsX4_yes) := goodIn_app (goodIn_of _ (by decide +kernel)) ggX4_hang_X4_yes
theorem dX4_hang_0 : decode cX4_hang 0 = .ok (.iload_n 1, 1) := by decide +kernel
theorem dX4_hang_1 : decode cX4_hang 1 = .ok (.invokestatic 48, 3) := by decide +kernel
theorem dX4_hang_4 : decode cX4_hang 4 = .ok (.ifCond .eq 10, 3) := by decide +kernel
theorem dX4_hang_7 : decode cX4_hang 7 = .ok (.iload_n 3, 1) := by decide +kernel
theorem dX4_hang_8 : decode cX4_hang 8 = .ok (.invokestatic 48, 3) := by decide +kernel
theorem dX4_hang_11 : decode cX4_hang 11 = .ok (.ifCond .ne 6, 3) := by decide +kernel
theorem dX4_hang_14 : decode cX4_hang 14 = .ok (.ldc 54, 2) := by decide +kernel
theorem dX4_hang_16 : decode cX4_hang 16 = .ok (.ireturn, 1) := by decide +kernel
theorem dX4_hang_17 : decode cX4_hang 17 = .ok (.aload_n 0, 1) := by decide +kernel
theorem dX4_hang_18 : decode cX4_hang 18 = .ok (.iload_n 1, 1) := by decide +kernel
theorem dX4_hang_19 : decode cX4_hang 19 = .ok (.invokevirtual 72, 3) := by decide +kernel
theorem dX4_hang_22 : decode cX4_hang 22 = .ok (.istore 4, 2) := by decide +kernel
theorem dX4_hang_24 : decode cX4_hang 24 = .ok (.iload 4, 2) := by decide +kernel
theorem dX4_hang_26 : decode cX4_hang 26 = .ok (.ifCond .ne 33, 3) := by decide +kernel
theorem dX4_hang_29 : decode cX4_hang 29 = .ok (.aload_n 0, 1) := by decide +kernel
theorem dX4_hang_30 : decode cX4_hang 30 = .ok (.iload_n 1, 1) := by decide +kernel
theorem dX4_hang_31 : decode cX4_hang 31 = .ok (.invokevirtual 66, 3) := by decide +kernel
theorem dX4_hang_34 : decode cX4_hang 34 = .ok (.iconst 2, 1) := by decide +kernel
theorem dX4_hang_35 : decode cX4_hang 35 = .ok (.if_icmp .ne 21, 3) := by decide +kernel
theorem dX4_hang_38 : decode cX4_hang 38 = .ok (.aload_n 0, 1) := by decide +kernel
theorem dX4_hang_39 : decode cX4_hang 39 = .ok (.iload_n 3, 1) := by decide +kernel
theorem dX4_hang_40 : decode cX4_hang 40 = .ok (.invokevirtual 66, 3) := by decide +kernel
theorem dX4_hang_43 : decode cX4_hang 43 = .ok (.iconst (-1), 1) := by decide +kernel
theorem dX4_hang_44 : decode cX4_hang 44 = .ok (.if_icmp .eq 15, 3) := by decide +kernel
theorem dX4_hang_47 : decode cX4_hang 47 = .ok (.aload_n 0, 1) := by decide +kernel
theorem dX4_hang_48 : decode cX4_hang 48 = .ok (.iload_n 3, 1) := by decide +kernel
theorem dX4_hang_49 : decode cX4_hang 49 = .ok (.invokevirtual 66, 3) := by decide +kernel
theorem dX4_hang_52 : decode cX4_hang 52 = .ok (.iconst 1, 1) := by decide +kernel
theorem dX4_hang_53 : decode cX4_hang 53 = .ok (.if_icmp .eq 6, 3) := by decide +kernel
theorem dX4_hang_56 : decode cX4_hang 56 = .ok (.iconst 5, 1) := by decide +kernel
theorem dX4_hang_57 : decode cX4_hang 57 = .ok (.istore 4, 2) := by decide +kernel
theorem dX4_hang_59 : decode cX4_hang 59 = .ok (.iload 4, 2) := by decide +kernel
theorem dX4_hang_61 : decode cX4_hang 61 = .ok (.ifCond .ne 23, 3) := by decide +kernel
theorem dX4_hang_64 : decode cX4_hang 64 = .ok (.iload_n 2, 1) := by decide +kernel
theorem dX4_hang_65 : decode cX4_hang 65 = .ok (.i2l, 1) := by decide +kernel
theorem dX4_hang_66 : decode cX4_hang 66 = .ok (.lconst 0, 1) := by decide +kernel
theorem dX4_hang_67 : decode cX4_hang 67 = .ok (.aload_n 0, 1) := by decide +kernel
theorem dX4_hang_68 : decode cX4_hang 68 = .ok (.iload_n 1, 1) := by decide +kernel
theorem dX4_hang_69 : decode cX4_hang 69 = .ok (.invokevirtual 75, 3) := by decide +kernel
theorem dX4_hang_72 : decode cX4_hang 72 = .ok (.iconst 1, 1) := by decide +kernel
theorem dX4_hang_73 : decode cX4_hang 73 = .ok (.isub, 1) := by decide +kernel
theorem dX4_hang_74 : decode cX4_hang 74 = .ok (.i2l, 1) := by decide +kernel
theorem dX4_hang_75 : decode cX4_hang 75 = .ok (.invokestatic 33, 3) := by decide +kernel
theorem dX4_hang_78 : decode cX4_hang 78 = .ok (.ifCond .ne 6, 3) := by decide +kernel
theorem dX4_hang_81 : decode cX4_hang 81 = .ok (.iconst 3, 1) := by decide +kernel
theorem dX4_hang_82 : decode cX4_hang 82 = .ok (.istore 4, 2) := by decide +kernel
theorem dX4_hang_84 : decode cX4_hang 84 = .ok (.iload 4, 2) := by decide +kernel
theorem dX4_hang_86 : decode cX4_hang 86 = .ok (.ifCond .eq 10, 3) := by decide +kernel
theorem dX4_hang_89 : decode cX4_hang 89 = .ok (.aload_n 0, 1) := by decide +kernel
theorem dX4_hang_90 : decode cX4_hang 90 = .ok (.iload 4, 2) := by decide +kernel
theorem dX4_hang_92 : decode cX4_hang 92 = .ok (.invokevirtual 55, 3) := by decide +kernel
theorem dX4_hang_95 : decode cX4_hang 95 = .ok (.ireturn, 1) := by decide +kernel
theorem dX4_hang_96 : decode cX4_hang 96 = .ok (.aload_n 0, 1) := by decide +kernel
theorem dX4_hang_97 : decode cX4_hang 97 = .ok (.aload_n 0, 1) := by decide +kernel
theorem dX4_hang_98 : decode cX4_hang 98 = .ok (.getfield 7, 3) := by decide +kernel
theorem dX4_hang_101 : decode cX4_hang 101 = .ok (.iload_n 1, 1) := by decide +kernel
theorem dX4_hang_102 : decode cX4_hang 102 = .ok (.iaload, 1) := by decide +kernel
theorem dX4_hang_103 : decode cX4_hang 103 = .ok (.iload_n 2, 1) := by decide +kernel
theorem dX4_hang_104 : decode cX4_hang 104 = .ok (.aload_n 0, 1) := by decide +kernel
theorem dX4_hang_105 : decode cX4_hang 105 = .ok (.getfield 7, 3) := by decide +kernel
theorem dX4_hang_108 : decode cX4_hang 108 = .ok (.iload_n 3, 1) := by decide +kernel
theorem dX4_hang_109 : decode cX4_hang 109 = .ok (.iaload, 1) := by decide +kernel
theorem dX4_hang_110 : decode cX4_hang 110 = .ok (.invokevirtual 44, 3) := by decide +kernel
theorem dX4_hang_113 : decode cX4_hang 113 = .ok (.aload_n 0, 1) := by decide +kernel
theorem dX4_hang_114 : decode cX4_hang 114 = .ok (.iconst 1, 1) := by decide +kernel
theorem dX4_hang_115 : decode cX4_hang 115 = .ok (.invokevirtual 63, 3) := by decide +kernel
theorem dX4_hang_118 : decode cX4_hang 118 = .ok (.ireturn, 1) := by decide +kernel
set_option maxRecDepth 20000 in
theorem ggX4_item_X4_isPlace : GoodIn wsX4_item wsX4_isPlace := goodIn_r _ [8, 9, 10, 11, 7, 12] (by decide +kernel) (by decide +kernel)
set_option maxRecDepth 20000 in
theorem gX4_item_X4_isPlace : GoodIn wsX4_item (va_wsS RX4 48 yX4_isPlace wsX4_isPlace) := goodIn_app (goodIn_of _ (by decide +kernel)) ggX4_item_X4_isPlace
set_option maxRecDepth 20000 in
theorem ggX4_item_X4_wantsItem : GoodIn wsX4_item wsX4_wantsItem := goodIn_r _ [16, 17, 18, 19, 7, 20, 2, 21, 22, 23, 24, 25, 10, 11, 12, 26, 27, 28, 29, 3, 44, 45, 46, 47, 48, 49, 50, 51, 52, 53, 54] (by decide +kernel) (by decide +kernel)
set_option maxRecDepth 20000 in
theorem gX4_item_X4_wantsItem : GoodIn wsX4_item (wsV RX4 78 RX4 yX4_wantsItem wsX4_wantsItem) := goodIn_app (goodIn_of _ (by decide +kernel)) ggX4_item_X4_wantsItem
set_option maxRecDepth 20000 in
theorem ggX4_item_X4_no : GoodIn wsX4_item wsX4_no := goodIn_r _ [33, 34, 44, 45, 46, 47, 48, 49, 50, 51, 52, 53, 54] (by decide +kernel) (by decide +kernel)
set_option maxRecDepth 20000 in
theorem gX4_item_X4_no : GoodIn wsX4_item (wsV RX4 55 RX4 yX4_no wsX4_no) := goodIn_app (goodIn_of _ (by decide +kernel)) ggX4_item_X4_no
set_option maxRecDepth 20000 in
theorem ggX4_item_X4_get : GoodIn wsX4_item wsX4_get := goodIn_r _ [38, 39, 44, 45, 46, 47, 48, 49, 50, 51, 52, 53, 54] (by decide +kernel) (by decide +kernel)
set_option maxRecDepth 20000 in
theorem gX4_item_X4_get : GoodIn wsX4_item (wsV RX4 82 RX4 yX4_get wsX4_get) := goodIn_app (goodIn_of _ (by decide +kernel)) ggX4_item_X4_get
set_option maxRecDepth 20000 in
theorem ggX4_item_X4_kindOf : GoodIn wsX4_item wsX4_kindOf := goodIn_r _ [24, 2, 25, 44, 45, 46, 47, 48, 49, 50, 51, 52, 53, 54] (by decide +kernel) (by decide +kernel)
set_option maxRecDepth 20000 in
theorem gX4_item_X4_kindOf : GoodIn wsX4_item (wsV RX4 66 RX4 yX4_kindOf wsX4_kindOf) := goodIn_app (goodIn_of _ (by decide +kernel)) ggX4_item_X4_kindOf
set_option maxRecDepth 20000 in
theorem ggX4_item_X4_yes : GoodIn wsX4_item wsX4_yes := goodIn_r _ [43, 34, 44, 45, 46, 47, 48, 49, 50, 51, 52, 53, 54] (by decide +kernel) (by decide +kernel)
set_option maxRecDepth 20000 in
theorem gX4_item_X4_yes : GoodIn wsX4_item (wsV RX4 63 RX4 yX4_yes wsX4_yes) := goodIn_app (goodIn_of _ (by decide +kernel)) ggX4_item_X4_yes
theorem dX4_item_0 : decode cX4_item 0 = .ok (.iload_n 1, 1) := by decide +kernel
theorem dX4_item_1 : decode cX4_item 1 = .ok (.invokestatic 48, 3) := by decide +kernel
theorem dX4_item_4 : decode cX4_item 4 = .ok (.ifCond .ne 6, 3) := by decide +kernel
theorem dX4_item_7 : decode cX4_item 7 = .ok (.ldc 54, 2) := by decide +kernel
theorem dX4_item_9 : decode cX4_item 9 = .ok (.ireturn, 1) := by decide +kernel
theorem dX4_item_10 : decode cX4_item 10 = .ok (.aload_n 0, 1) := by decide +kernel
theorem dX4_item_11 : decode cX4_item 11 = .ok (.iload_n 1, 1) := by decide +kernel
theorem dX4_item_12 : decode cX4_item 12 = .ok (.iconst 0, 1) := by decide +kernel
theorem dX4_item_13 : decode cX4_item 13 = .ok (.iconst 5, 1) := by decide +kernel
theorem dX4_item_14 : decode cX4_item 14 = .ok (.iload_n 2, 1) := by decide +kernel
theorem dX4_item_15 : decode cX4_item 15 = .ok (.invokevirtual 78, 3) := by decide +kernel
theorem dX4_item_18 : decode cX4_item 18 = .ok (.istore_n 3, 1) := by decide +kernel
theorem dX4_item_19 : decode cX4_item 19 = .ok (.iload_n 3, 1) := by decide +kernel
theorem dX4_item_20 : decode cX4_item 20 = .ok (.ifCond .eq 9, 3) := by decide +kernel
theorem dX4_item_23 : decode cX4_item 23 = .ok (.aload_n 0, 1) := by decide +kernel
theorem dX4_item_24 : decode cX4_item 24 = .ok (.iload_n 3, 1) := by decide +kernel
theorem dX4_item_25 : decode cX4_item 25 = .ok (.invokevirtual 55, 3) := by decide +kernel
theorem dX4_item_28 : decode cX4_item 28 = .ok (.ireturn, 1) := by decide +kernel
theorem dX4_item_29 : decode cX4_item 29 = .ok (.aload_n 0, 1) := by decide +kernel
theorem dX4_item_30 : decode cX4_item 30 = .ok (.aload_n 0, 1) := by decide +kernel
theorem dX4_item_31 : decode cX4_item 31 = .ok (.getfield 7, 3) := by decide +kernel
theorem dX4_item_34 : decode cX4_item 34 = .ok (.iload_n 1, 1) := by decide +kernel
theorem dX4_item_35 : decode cX4_item 35 = .ok (.iaload, 1) := by decide +kernel
theorem dX4_item_36 : decode cX4_item 36 = .ok (.iload_n 2, 1) := by decide +kernel
theorem dX4_item_37 : decode cX4_item 37 = .ok (.invokevirtual 82, 3) := by decide +kernel
theorem dX4_item_40 : decode cX4_item 40 = .ok (.istore 4, 2) := by decide +kernel
theorem dX4_item_42 : decode cX4_item 42 = .ok (.aload_n 0, 1) := by decide +kernel
theorem dX4_item_43 : decode cX4_item 43 = .ok (.iload_n 1, 1) := by decide +kernel
theorem dX4_item_44 : decode cX4_item 44 = .ok (.invokevirtual 66, 3) := by decide +kernel
theorem dX4_item_47 : decode cX4_item 47 = .ok (.istore 5, 2) := by decide +kernel
theorem dX4_item_49 : decode cX4_item 49 = .ok (.iload 5, 2) := by decide +kernel
theorem dX4_item_51 : decode cX4_item 51 = .ok (.iconst 2, 1) := by decide +kernel
theorem dX4_item_52 : decode cX4_item 52 = .ok (.if_icmp .ge 10, 3) := by decide +kernel
theorem dX4_item_55 : decode cX4_item 55 = .ok (.aload_n 0, 1) := by decide +kernel
theorem dX4_item_56 : decode cX4_item 56 = .ok (.iload 4, 2) := by decide +kernel
theorem dX4_item_58 : decode cX4_item 58 = .ok (.invokevirtual 63, 3) := by decide +kernel
theorem dX4_item_61 : decode cX4_item 61 = .ok (.ireturn, 1) := by decide +kernel
theorem dX4_item_62 : decode cX4_item 62 = .ok (.iload 4, 2) := by decide +kernel
theorem dX4_item_64 : decode cX4_item 64 = .ok (.iconst (-1), 1) := by decide +kernel
theorem dX4_item_65 : decode cX4_item 65 = .ok (.if_icmp .ne 9, 3) := by decide +kernel
theorem dX4_item_68 : decode cX4_item 68 = .ok (.aload_n 0, 1) := by decide +kernel
theorem dX4_item_69 : decode cX4_item 69 = .ok (.iconst 1, 1) := by decide +kernel
theorem dX4_item_70 : decode cX4_item 70 = .ok (.invokevirtual 55, 3) := by decide +kernel
theorem dX4_item_73 : decode cX4_item 73 = .ok (.ireturn, 1) := by decide +kernel
theorem dX4_item_74 : decode cX4_item 74 = .ok (.aload_n 0, 1) := by decide +kernel
theorem dX4_item_75 : decode cX4_item 75 = .ok (.iload 5, 2) := by decide +kernel
theorem dX4_item_77 : decode cX4_item 77 = .ok (.iconst 2, 1) := by decide +kernel
theorem dX4_item_78 : decode cX4_item 78 = .ok (.if_icmp .ne 13, 3) := by decide +kernel
theorem dX4_item_81 : decode cX4_item 81 = .ok (.aload_n 0, 1) := by decide +kernel
theorem dX4_item_82 : decode cX4_item 82 = .ok (.getfield 16, 3) := by decide +kernel
theorem dX4_item_85 : decode cX4_item 85 = .ok (.iload 4, 2) := by decide +kernel
theorem dX4_item_87 : decode cX4_item 87 = .ok (.iaload, 1) := by decide +kernel
theorem dX4_item_88 : decode cX4_item 88 = .ok (.goto 10, 3) := by decide +kernel
theorem dX4_item_91 : decode cX4_item 91 = .ok (.aload_n 0, 1) := by decide +kernel
theorem dX4_item_92 : decode cX4_item 92 = .ok (.getfield 25, 3) := by decide +kernel
theorem dX4_item_95 : decode cX4_item 95 = .ok (.iload 4, 2) := by decide +kernel
theorem dX4_item_97 : decode cX4_item 97 = .ok (.iaload, 1) := by decide +kernel
theorem dX4_item_98 : decode cX4_item 98 = .ok (.invokevirtual 63, 3) := by decide +kernel
theorem dX4_item_101 : decode cX4_item 101 = .ok (.ireturn, 1) := by decide +kernel
set_option maxRecDepth 20000 in
theorem ggX4_classOf_X4_isPlace : GoodIn wsX4_classOf wsX4_isPlace := goodIn_r _ [7, 8, 9, 10, 6, 11] (by decide +kernel) (by decide +kernel)
set_option maxRecDepth 20000 in
theorem gX4_classOf_X4_isPlace : GoodIn wsX4_classOf (va_wsS RX4 48 yX4_isPlace wsX4_isPlace) := goodIn_app (goodIn_of _ (by decide +kernel)) ggX4_classOf_X4_isPlace
set_option maxRecDepth 20000 in
theorem ggX4_classOf_X4_wantsItem : GoodIn wsX4_classOf wsX4_wantsItem := goodIn_r _ [15, 16, 17, 18, 6, 19, 2, 20, 21, 22, 23, 24, 9, 10, 11, 25, 26, 27, 28, 29, 44, 45, 46, 47, 48, 49, 50, 51, 52, 53, 54] (by decide +kernel) (by decide +kernel)
set_option maxRecDepth 20000 in
theorem gX4_classOf_X4_wantsItem : GoodIn wsX4_classOf (wsV RX4 78 RX4 yX4_wantsItem wsX4_wantsItem) := goodIn_app (goodIn_of _ (by decide +kernel)) ggX4_classOf_X4_wantsItem
set_option maxRecDepth 20000 in
theorem ggX4_classOf_X4_no : GoodIn wsX4_classOf wsX4_no := goodIn_r _ [33, 34, 44, 45, 46, 47, 48, 49, 50, 51, 52, 53, 54] (by decide +kernel) (by decide +kernel)
set_option maxRecDepth 20000 in
theorem gX4_classOf_X4_no : GoodIn wsX4_classOf (wsV RX4 55 RX4 yX4_no wsX4_no) := goodIn_app (goodIn_of _ (by decide +kernel)) ggX4_classOf_X4_no
set_option maxRecDepth 20000 in
theorem ggX4_classOf_X4_get : GoodIn wsX4_classOf wsX4_get := goodIn_r _ [38, 39, 44, 45, 46, 47, 48, 49, 50, 51, 52, 53, 54] (by decide +kernel) (by decide +kernel)
set_option maxRecDepth 20000 in
theorem gX4_classOf_X4_get : GoodIn wsX4_classOf (wsV RX4 82 RX4 yX4_get wsX4_get) := goodIn_app (goodIn_of _ (by decide +kernel)) ggX4_classOf_X4_get
set_option maxRecDepth 20000 in
theorem ggX4_classOf_X4_yes : GoodIn wsX4_classOf wsX4_yes := goodIn_r _ [43, 34, 44, 45, 46, 47, 48, 49, 50, 51, 52, 53, 54] (by decide +kernel) (by decide +kernel)
set_option maxRecDepth 20000 in
theorem gX4_classOf_X4_yes : GoodIn wsX4_classOf (wsV RX4 63 RX4 yX4_yes wsX4_yes) := goodIn_app (goodIn_of _ (by decide +kernel)) ggX4_classOf_X4_yes
theorem dX4_classOf_0 : decode cX4_classOf 0 = .ok (.iload_n 1, 1) := by decide +kernel
theorem dX4_classOf_1 : decode cX4_classOf 1 = .ok (.invokestatic 48, 3) := by decide +kernel
theorem dX4_classOf_4 : decode cX4_classOf 4 = .ok (.ifCond .ne 6, 3) := by decide +kernel
theorem dX4_classOf_7 : decode cX4_classOf 7 = .ok (.ldc 54, 2) := by decide +kernel
theorem dX4_classOf_9 : decode cX4_classOf 9 = .ok (.ireturn, 1) := by decide +kernel
theorem dX4_classOf_10 : decode cX4_classOf 10 = .ok (.aload_n 0, 1) := by decide +kernel
theorem dX4_classOf_11 : decode cX4_classOf 11 = .ok (.iload_n 1, 1) := by decide +kernel
theorem dX4_classOf_12 : decode cX4_classOf 12 = .ok (.iconst 3, 1) := by decide +kernel
theorem dX4_classOf_13 : decode cX4_classOf 13 = .ok (.iconst 5, 1) := by decide +kernel
theorem dX4_classOf_14 : decode cX4_classOf 14 = .ok (.iload_n 2, 1) := by decide +kernel
theorem dX4_classOf_15 : decode cX4_classOf 15 = .ok (.invokevirtual 78, 3) := by decide +kernel
theorem dX4_classOf_18 : decode cX4_classOf 18 = .ok (.istore_n 3, 1) := by decide +kernel
theorem dX4_classOf_19 : decode cX4_classOf 19 = .ok (.iload_n 3, 1) := by decide +kernel
theorem dX4_classOf_20 : decode cX4_classOf 20 = .ok (.ifCond .eq 9, 3) := by decide +kernel
theorem dX4_classOf_23 : decode cX4_classOf 23 = .ok (.aload_n 0, 1) := by decide +kernel
theorem dX4_classOf_24 : decode cX4_classOf 24 = .ok (.iload_n 3, 1) := by decide +kernel
theorem dX4_classOf_25 : decode cX4_classOf 25 = .ok (.invokevirtual 55, 3) := by decide +kernel
theorem dX4_classOf_28 : decode cX4_classOf 28 = .ok (.ireturn, 1) := by decide +kernel
theorem dX4_classOf_29 : decode cX4_classOf 29 = .ok (.aload_n 0, 1) := by decide +kernel
theorem dX4_classOf_30 : decode cX4_classOf 30 = .ok (.aload_n 0, 1) := by decide +kernel
theorem dX4_classOf_31 : decode cX4_classOf 31 = .ok (.getfield 7, 3) := by decide +kernel
theorem dX4_classOf_34 : decode cX4_classOf 34 = .ok (.iload_n 1, 1) := by decide +kernel
theorem dX4_classOf_35 : decode cX4_classOf 35 = .ok (.iaload, 1) := by decide +kernel
theorem dX4_classOf_36 : decode cX4_classOf 36 = .ok (.iload_n 2, 1) := by decide +kernel
theorem dX4_classOf_37 : decode cX4_classOf 37 = .ok (.invokevirtual 82, 3) := by decide +kernel
theorem dX4_classOf_40 : decode cX4_classOf 40 = .ok (.istore 4, 2) := by decide +kernel
theorem dX4_classOf_42 : decode cX4_classOf 42 = .ok (.aload_n 0, 1) := by decide +kernel
theorem dX4_classOf_43 : decode cX4_classOf 43 = .ok (.iload 4, 2) := by decide +kernel
theorem dX4_classOf_45 : decode cX4_classOf 45 = .ok (.iconst (-1), 1) := by decide +kernel
theorem dX4_classOf_46 : decode cX4_classOf 46 = .ok (.if_icmp .ne 7, 3) := by decide +kernel
theorem dX4_classOf_49 : decode cX4_classOf 49 = .ok (.iconst (-1), 1) := by decide +kernel
theorem dX4_classOf_50 : decode cX4_classOf 50 = .ok (.goto 10, 3) := by decide +kernel
theorem dX4_classOf_53 : decode cX4_classOf 53 = .ok (.aload_n 0, 1) := by decide +kernel
theorem dX4_classOf_54 : decode cX4_classOf 54 = .ok (.getfield 22, 3) := by decide +kernel
theorem dX4_classOf_57 : decode cX4_classOf 57 = .ok (.iload 4, 2) := by decide +kernel
theorem dX4_classOf_59 : decode cX4_classOf 59 = .ok (.iaload, 1) := by decide +kernel
theorem dX4_classOf_60 : decode cX4_classOf 60 = .ok (.invokevirtual 63, 3) := by decide +kernel
theorem dX4_classOf_63 : decode cX4_classOf 63 = .ok (.ireturn, 1) := by decide +kernel
set_option maxRecDepth 20000 in
theorem ggX4_fits_X4_fitsClass : GoodIn wsX4_fits wsX4_fitsClass := goodIn_r _ [5] (by decide +kernel) (by decide +kernel)
set_option maxRecDepth 20000 in
theorem gX4_fits_X4_fitsClass : GoodIn wsX4_fits (va_wsS RX4 92 yX4_fitsClass wsX4_fitsClass) := goodIn_app (goodIn_of _ (by decide +kernel)) ggX4_fits_X4_fitsClass
theorem dX4_fits_0 : decode cX4_fits 0 = .ok (.iload_n 2, 1) := by decide +kernel
theorem dX4_fits_1 : decode cX4_fits 1 = .ok (.iconst (-1), 1) := by decide +kernel
theorem dX4_fits_2 : decode cX4_fits 2 = .ok (.if_icmp .ne 5, 3) := by decide +kernel
theorem dX4_fits_5 : decode cX4_fits 5 = .ok (.iconst 1, 1) := by decide +kernel
theorem dX4_fits_6 : decode cX4_fits 6 = .ok (.ireturn, 1) := by decide +kernel
theorem dX4_fits_7 : decode cX4_fits 7 = .ok (.iload_n 1, 1) := by decide +kernel
theorem dX4_fits_8 : decode cX4_fits 8 = .ok (.iconst 2, 1) := by decide +kernel
theorem dX4_fits_9 : decode cX4_fits 9 = .ok (.if_icmp .eq 8, 3) := by decide +kernel
theorem dX4_fits_12 : decode cX4_fits 12 = .ok (.iload_n 3, 1) := by decide +kernel
theorem dX4_fits_13 : decode cX4_fits 13 = .ok (.iconst 2, 1) := by decide +kernel
theorem dX4_fits_14 : decode cX4_fits 14 = .ok (.if_icmp .ne 14, 3) := by decide +kernel
theorem dX4_fits_17 : decode cX4_fits 17 = .ok (.iload_n 1, 1) := by decide +kernel
theorem dX4_fits_18 : decode cX4_fits 18 = .ok (.iload_n 3, 1) := by decide +kernel
theorem dX4_fits_19 : decode cX4_fits 19 = .ok (.if_icmp .ne 7, 3) := by decide +kernel
theorem dX4_fits_22 : decode cX4_fits 22 = .ok (.iconst 1, 1) := by decide +kernel
theorem dX4_fits_23 : decode cX4_fits 23 = .ok (.goto 4, 3) := by decide +kernel
theorem dX4_fits_26 : decode cX4_fits 26 = .ok (.iconst 0, 1) := by decide +kernel
theorem dX4_fits_27 : decode cX4_fits 27 = .ok (.ireturn, 1) := by decide +kernel
theorem dX4_fits_28 : decode cX4_fits 28 = .ok (.aload_n 0, 1) := by decide +kernel
theorem dX4_fits_29 : decode cX4_fits 29 = .ok (.getfield 22, 3) := by decide +kernel
theorem dX4_fits_32 : decode cX4_fits 32 = .ok (.iload_n 2, 1) := by decide +kernel
theorem dX4_fits_33 : decode cX4_fits 33 = .ok (.iaload, 1) := by decide +kernel
theorem dX4_fits_34 : decode cX4_fits 34 = .ok (.iload_n 3, 1) := by decide +kernel
theorem dX4_fits_35 : decode cX4_fits 35 = .ok (.invokestatic 92, 3) := by decide +kernel
theorem dX4_fits_38 : decode cX4_fits 38 = .ok (.ireturn, 1) := by decide +kernel
set_option maxRecDepth 20000 in
theorem ggX4_unlike_X4_kindOf : GoodIn wsX4_unlike wsX4_kindOf := goodIn_r _ [6, 1, 7, 8, 9, 10, 11, 12, 13, 14, 15, 16, 17, 18] (by decide +kernel) (by decide +kernel)
set_option maxRecDepth 20000 in
theorem gX4_unlike_X4_kindOf : GoodIn wsX4_unlike (wsV RX4 66 RX4 yX4_kindOf wsX4_kindOf) := goodIn_app (goodIn_of _ (by decide +kernel)) ggX4_unlike_X4_kindOf
theorem dX4_unlike_0 : decode cX4_unlike 0 = .ok (.aload_n 0, 1) := by decide +kernel
theorem dX4_unlike_1 : decode cX4_unlike 1 = .ok (.getfield 7, 3) := by decide +kernel
theorem dX4_unlike_4 : decode cX4_unlike 4 = .ok (.iload_n 1, 1) := by decide +kernel
theorem dX4_unlike_5 : decode cX4_unlike 5 = .ok (.iaload, 1) := by decide +kernel
theorem dX4_unlike_6 : decode cX4_unlike 6 = .ok (.iconst (-1), 1) := by decide +kernel
theorem dX4_unlike_7 : decode cX4_unlike 7 = .ok (.if_icmp .eq 13, 3) := by decide +kernel
theorem dX4_unlike_10 : decode cX4_unlike 10 = .ok (.aload_n 0, 1) := by decide +kernel
theorem dX4_unlike_11 : decode cX4_unlike 11 = .ok (.getfield 7, 3) := by decide +kernel
theorem dX4_unlike_14 : decode cX4_unlike 14 = .ok (.iload_n 2, 1) := by decide +kernel
theorem dX4_unlike_15 : decode cX4_unlike 15 = .ok (.iaload, 1) := by decide +kernel
theorem dX4_unlike_16 : decode cX4_unlike 16 = .ok (.iconst (-1), 1) := by decide +kernel
theorem dX4_unlike_17 : decode cX4_unlike 17 = .ok (.if_icmp .ne 5, 3) := by decide +kernel
theorem dX4_unlike_20 : decode cX4_unlike 20 = .ok (.iconst 1, 1) := by decide +kernel
theorem dX4_unlike_21 : decode cX4_unlike 21 = .ok (.ireturn, 1) := by decide +kernel
theorem dX4_unlike_22 : decode cX4_unlike 22 = .ok (.aload_n 0, 1) := by decide +kernel
theorem dX4_unlike_23 : decode cX4_unlike 23 = .ok (.iload_n 1, 1) := by decide +kernel
theorem dX4_unlike_24 : decode cX4_unlike 24 = .ok (.invokevirtual 66, 3) := by decide +kernel
theorem dX4_unlike_27 : decode cX4_unlike 27 = .ok (.istore_n 3, 1) := by decide +kernel
theorem dX4_unlike_28 : decode cX4_unlike 28 = .ok (.aload_n 0, 1) := by decide +kernel
theorem dX4_unlike_29 : decode cX4_unlike 29 = .ok (.iload_n 2, 1) := by decide +kernel
theorem dX4_unlike_30 : decode cX4_unlike 30 = .ok (.invokevirtual 66, 3) := by decide +kernel
theorem dX4_unlike_33 : decode cX4_unlike 33 = .ok (.istore 4, 2) := by decide +kernel
theorem dX4_unlike_35 : decode cX4_unlike 35 = .ok (.iload_n 3, 1) := by decide +kernel
theorem dX4_unlike_36 : decode cX4_unlike 36 = .ok (.bipush 6, 2) := by decide +kernel
theorem dX4_unlike_38 : decode cX4_unlike 38 = .ok (.if_icmp .eq 27, 3) := by decide +kernel
theorem dX4_unlike_41 : decode cX4_unlike 41 = .ok (.iload 4, 2) := by decide +kernel
theorem dX4_unlike_43 : decode cX4_unlike 43 = .ok (.bipush 6, 2) := by decide +kernel
theorem dX4_unlike_45 : decode cX4_unlike 45 = .ok (.if_icmp .eq 20, 3) := by decide +kernel
theorem dX4_unlike_48 : decode cX4_unlike 48 = .ok (.iload_n 3, 1) := by decide +kernel
theorem dX4_unlike_49 : decode cX4_unlike 49 = .ok (.iconst 2, 1) := by decide +kernel
theorem dX4_unlike_50 : decode cX4_unlike 50 = .ok (.if_icmp .lt 9, 3) := by decide +kernel
theorem dX4_unlike_53 : decode cX4_unlike 53 = .ok (.iload 4, 2) := by decide +kernel
theorem dX4_unlike_55 : decode cX4_unlike 55 = .ok (.iconst 2, 1) := by decide +kernel
theorem dX4_unlike_56 : decode cX4_unlike 56 = .ok (.if_icmp .ge 13, 3) := by decide +kernel
theorem dX4_unlike_59 : decode cX4_unlike 59 = .ok (.iload_n 3, 1) := by decide +kernel
theorem dX4_unlike_60 : decode cX4_unlike 60 = .ok (.iload 4, 2) := by decide +kernel
theorem dX4_unlike_62 : decode cX4_unlike 62 = .ok (.if_icmp .eq 7, 3) := by decide +kernel
theorem dX4_unlike_65 : decode cX4_unlike 65 = .ok (.iconst 2, 1) := by decide +kernel
theorem dX4_unlike_66 : decode cX4_unlike 66 = .ok (.goto 4, 3) := by decide +kernel
theorem dX4_unlike_69 : decode cX4_unlike 69 = .ok (.iconst 0, 1) := by decide +kernel
theorem dX4_unlike_70 : decode cX4_unlike 70 = .ok (.ireturn, 1) := by decide +kernel
set_option maxRecDepth 20000 in
theorem ggX4_move_X4_isPlace : GoodIn wsX4_move wsX4_isPlace := goodIn_r _ [9, 10, 11, 12, 8, 13] (by decide +kernel) (by decide +kernel)
set_option maxRecDepth 20000 in
theorem gX4_move_X4_isPlace : GoodIn wsX4_move (va_wsS RX4 48 yX4_isPlace wsX4_isPlace) := goodIn_app (goodIn_of _ (by decide +kernel)) ggX4_move_X4_isPlace
set_option maxRecDepth 20000 in
theorem ggX4_move_X4_unlike : GoodIn wsX4_move wsX4_unlike := goodIn_r _ [17, 2, 18, 19, 20, 8, 21, 4, 52, 53, 54, 55, 56, 57, 58, 59, 60, 61, 62] (by decide +kernel) (by decide +kernel)
set_option maxRecDepth 20000 in
theorem gX4_move_X4_unlike : GoodIn wsX4_move (wsV RX4 99 RX4 yX4_unlike wsX4_unlike) := goodIn_app (goodIn_of _ (by decide +kernel)) ggX4_move_X4_unlike
set_option maxRecDepth 20000 in
theorem ggX4_move_X4_lengthOf : GoodIn wsX4_move wsX4_lengthOf := goodIn_r _ [25, 26, 2, 52, 53, 54, 55, 56, 57, 58, 59, 60, 61, 62] (by decide +kernel) (by decide +kernel)
set_option maxRecDepth 20000 in
theorem gX4_move_X4_lengthOf : GoodIn wsX4_move (wsV RX4 75 RX4 yX4_lengthOf wsX4_lengthOf) := goodIn_app (goodIn_of _ (by decide +kernel)) ggX4_move_X4_lengthOf
set_option maxRecDepth 20000 in
theorem ggX4_move_X4_no : GoodIn wsX4_move wsX4_no := goodIn_r _ [30, 5, 52, 53, 54, 55, 56, 57, 58, 59, 60, 61, 62] (by decide +kernel) (by decide +kernel)
set_option maxRecDepth 20000 in
theorem gX4_move_X4_no : GoodIn wsX4_move (wsV RX4 55 RX4 yX4_no wsX4_no) := goodIn_app (goodIn_of _ (by decide +kernel)) ggX4_move_X4_no
set_option maxRecDepth 20000 in
theorem ggX4_move_X4_get : GoodIn wsX4_move wsX4_get := goodIn_r _ [34, 35, 52, 53, 54, 55, 56, 57, 58, 59, 60, 61, 62] (by decide +kernel) (by decide +kernel)
set_option maxRecDepth 20000 in
theorem gX4_move_X4_get : GoodIn wsX4_move (wsV RX4 82 RX4 yX4_get wsX4_get) := goodIn_app (goodIn_of _ (by decide +kernel)) ggX4_move_X4_get
set_option maxRecDepth 20000 in
theorem ggX4_move_X4_fits : GoodIn wsX4_move wsX4_fits := goodIn_r _ [39, 40, 41, 42, 8, 43, 52, 53, 54, 55, 56, 57, 58, 59, 60, 61, 62] (by decide +kernel) (by decide +kernel)
set_option maxRecDepth 20000 in
theorem gX4_move_X4_fits : GoodIn wsX4_move (wsV RX4 102 RX4 yX4_fits wsX4_fits) := goodIn_app (goodIn_of _ (by decide +kernel)) ggX4_move_X4_fits
set_option maxRecDepth 20000 in
theorem ggX4_move_X4_put : GoodIn wsX4_move wsX4_put := goodIn_r _ [47, 35, 52, 53, 54, 55, 56, 57, 58, 59, 60, 61, 62] (by decide +kernel) (by decide +kernel)
set_option maxRecDepth 20000 in
theorem gX4_move_X4_put : GoodIn wsX4_move (wsV RX4 44 RX4 yX4_put wsX4_put) := goodIn_app (goodIn_of _ (by decide +kernel)) ggX4_move_X4_put
set_option maxRecDepth 20000 in
theorem ggX4_move_X4_yes : GoodIn wsX4_move wsX4_yes := goodIn_r _ [51, 5, 52, 53, 54, 55, 56, 57, 58, 59, 60, 61, 62] (by decide +kernel) (by decide +kernel)
set_option maxRecDepth 20000 in
theorem gX4_move_X4_yes : GoodIn wsX4_move (wsV RX4 63 RX4 yX4_yes wsX4_yes) := goodIn_app (goodIn_of _ (by decide +kernel)) ggX4_move_X4_yes
theorem dX4_move_0 : decode cX4_move 0 = .ok (.iload_n 1, 1) := by decide +kernel
theorem dX4_move_1 : decode cX4_move 1 = .ok (.invokestatic 48, 3) := by decide +kernel
theorem dX4_move_4 : decode cX4_move 4 = .ok (.ifCond .eq 10, 3) := by decide +kernel
theorem dX4_move_7 : decode cX4_move 7 = .ok (.iload_n 3, 1) := by decide +kernel
theorem dX4_move_8 : decode cX4_move 8 = .ok (.invokestatic 48, 3) := by decide +kernel
theorem dX4_move_11 : decode cX4_move 11 = .ok (.ifCond .ne 6, 3) := by decide +kernel
theorem dX4_move_14 : decode cX4_move 14 = .ok (.ldc 54, 2) := by decide +kernel
theorem dX4_move_16 : decode cX4_move 16 = .ok (.ireturn, 1) := by decide +kernel
theorem dX4_move_17 : decode cX4_move 17 = .ok (.aload_n 0, 1) := by decide +kernel
theorem dX4_move_18 : decode cX4_move 18 = .ok (.iload_n 1, 1) := by decide +kernel
theorem dX4_move_19 : decode cX4_move 19 = .ok (.iload_n 3, 1) := by decide +kernel
theorem dX4_move_20 : decode cX4_move 20 = .ok (.invokevirtual 99, 3) := by decide +kernel
theorem dX4_move_23 : decode cX4_move 23 = .ok (.istore 6, 2) := by decide +kernel
theorem dX4_move_25 : decode cX4_move 25 = .ok (.iload 6, 2) := by decide +kernel
theorem dX4_move_27 : decode cX4_move 27 = .ok (.ifCond .ne 53, 3) := by decide +kernel
theorem dX4_move_30 : decode cX4_move 30 = .ok (.iload_n 2, 1) := by decide +kernel
theorem dX4_move_31 : decode cX4_move 31 = .ok (.ifCond .lt 46, 3) := by decide +kernel
theorem dX4_move_34 : decode cX4_move 34 = .ok (.iload 4, 2) := by decide +kernel
theorem dX4_move_36 : decode cX4_move 36 = .ok (.ifCond .lt 41, 3) := by decide +kernel
theorem dX4_move_39 : decode cX4_move 39 = .ok (.iload 5, 2) := by decide +kernel
theorem dX4_move_41 : decode cX4_move 41 = .ok (.ifCond .lt 36, 3) := by decide +kernel
theorem dX4_move_44 : decode cX4_move 44 = .ok (.iload_n 2, 1) := by decide +kernel
theorem dX4_move_45 : decode cX4_move 45 = .ok (.i2l, 1) := by decide +kernel
theorem dX4_move_46 : decode cX4_move 46 = .ok (.iload 5, 2) := by decide +kernel
theorem dX4_move_48 : decode cX4_move 48 = .ok (.i2l, 1) := by decide +kernel
theorem dX4_move_49 : decode cX4_move 49 = .ok (.ladd, 1) := by decide +kernel
theorem dX4_move_50 : decode cX4_move 50 = .ok (.aload_n 0, 1) := by decide +kernel
theorem dX4_move_51 : decode cX4_move 51 = .ok (.iload_n 1, 1) := by decide +kernel
theorem dX4_move_52 : decode cX4_move 52 = .ok (.invokevirtual 75, 3) := by decide +kernel
theorem dX4_move_55 : decode cX4_move 55 = .ok (.i2l, 1) := by decide +kernel
theorem dX4_move_56 : decode cX4_move 56 = .ok (.lcmp, 1) := by decide +kernel
theorem dX4_move_57 : decode cX4_move 57 = .ok (.ifCond .gt 20, 3) := by decide +kernel
theorem dX4_move_60 : decode cX4_move 60 = .ok (.iload 4, 2) := by decide +kernel
theorem dX4_move_62 : decode cX4_move 62 = .ok (.i2l, 1) := by decide +kernel
theorem dX4_move_63 : decode cX4_move 63 = .ok (.iload 5, 2) := by decide +kernel
theorem dX4_move_65 : decode cX4_move 65 = .ok (.i2l, 1) := by decide +kernel
theorem dX4_move_66 : decode cX4_move 66 = .ok (.ladd, 1) := by decide +kernel
theorem dX4_move_67 : decode cX4_move 67 = .ok (.aload_n 0, 1) := by decide +kernel
theorem dX4_move_68 : decode cX4_move 68 = .ok (.iload_n 3, 1) := by decide +kernel
theorem dX4_move_69 : decode cX4_move 69 = .ok (.invokevirtual 75, 3) := by decide +kernel
theorem dX4_move_72 : decode cX4_move 72 = .ok (.i2l, 1) := by decide +kernel
theorem dX4_move_73 : decode cX4_move 73 = .ok (.lcmp, 1) := by decide +kernel
theorem dX4_move_74 : decode cX4_move 74 = .ok (.ifCond .le 6, 3) := by decide +kernel
theorem dX4_move_77 : decode cX4_move 77 = .ok (.iconst 3, 1) := by decide +kernel
theorem dX4_move_78 : decode cX4_move 78 = .ok (.istore 6, 2) := by decide +kernel
theorem dX4_move_80 : decode cX4_move 80 = .ok (.iload 6, 2) := by decide +kernel
theorem dX4_move_82 : decode cX4_move 82 = .ok (.ifCond .eq 10, 3) := by decide +kernel
theorem dX4_move_85 : decode cX4_move 85 = .ok (.aload_n 0, 1) := by decide +kernel
theorem dX4_move_86 : decode cX4_move 86 = .ok (.iload 6, 2) := by decide +kernel
theorem dX4_move_88 : decode cX4_move 88 = .ok (.invokevirtual 55, 3) := by decide +kernel
theorem dX4_move_91 : decode cX4_move 91 = .ok (.ireturn, 1) := by decide +kernel
theorem dX4_move_92 : decode cX4_move 92 = .ok (.aload_n 0, 1) := by decide +kernel
theorem dX4_move_93 : decode cX4_move 93 = .ok (.getfield 7, 3) := by decide +kernel
theorem dX4_move_96 : decode cX4_move 96 = .ok (.iload_n 1, 1) := by decide +kernel
theorem dX4_move_97 : decode cX4_move 97 = .ok (.iaload, 1) := by decide +kernel
theorem dX4_move_98 : decode cX4_move 98 = .ok (.istore 7, 2) := by decide +kernel
theorem dX4_move_100 : decode cX4_move 100 = .ok (.aload_n 0, 1) := by decide +kernel
theorem dX4_move_101 : decode cX4_move 101 = .ok (.getfield 7, 3) := by decide +kernel
theorem dX4_move_104 : decode cX4_move 104 = .ok (.iload_n 3, 1) := by decide +kernel
theorem dX4_move_105 : decode cX4_move 105 = .ok (.iaload, 1) := by decide +kernel
theorem dX4_move_106 : decode cX4_move 106 = .ok (.istore 8, 2) := by decide +kernel
theorem dX4_move_108 : decode cX4_move 108 = .ok (.iconst 0, 1) := by decide +kernel
theorem dX4_move_109 : decode cX4_move 109 = .ok (.istore 9, 2) := by decide +kernel
theorem dX4_move_111 : decode cX4_move 111 = .ok (.iload 9, 2) := by decide +kernel
theorem dX4_move_113 : decode cX4_move 113 = .ok (.iload 5, 2) := by decide +kernel
theorem dX4_move_115 : decode cX4_move 115 = .ok (.if_icmp .ge 26, 3) := by decide +kernel
theorem dX4_move_118 : decode cX4_move 118 = .ok (.aload_n 0, 1) := by decide +kernel
theorem dX4_move_119 : decode cX4_move 119 = .ok (.getfield 28, 3) := by decide +kernel
theorem dX4_move_122 : decode cX4_move 122 = .ok (.iload 9, 2) := by decide +kernel
theorem dX4_move_124 : decode cX4_move 124 = .ok (.aload_n 0, 1) := by decide +kernel
theorem dX4_move_125 : decode cX4_move 125 = .ok (.iload 7, 2) := by decide +kernel
theorem dX4_move_127 : decode cX4_move 127 = .ok (.iload_n 2, 1) := by decide +kernel
theorem dX4_move_128 : decode cX4_move 128 = .ok (.iload 9, 2) := by decide +kernel
theorem dX4_move_130 : decode cX4_move 130 = .ok (.iadd, 1) := by decide +kernel
theorem dX4_move_131 : decode cX4_move 131 = .ok (.invokevirtual 82, 3) := by decide +kernel
theorem dX4_move_134 : decode cX4_move 134 = .ok (.iastore, 1) := by decide +kernel
theorem dX4_move_135 : decode cX4_move 135 = .ok (.iinc 9 1, 3) := by decide +kernel
theorem dX4_move_138 : decode cX4_move 138 = .ok (.goto (-27), 3) := by decide +kernel
theorem dX4_move_141 : decode cX4_move 141 = .ok (.iconst 0, 1) := by decide +kernel
theorem dX4_move_142 : decode cX4_move 142 = .ok (.istore 9, 2) := by decide +kernel
theorem dX4_move_144 : decode cX4_move 144 = .ok (.iload 9, 2) := by decide +kernel
theorem dX4_move_146 : decode cX4_move 146 = .ok (.iload 5, 2) := by decide +kernel
theorem dX4_move_148 : decode cX4_move 148 = .ok (.if_icmp .ge 74, 3) := by decide +kernel
theorem dX4_move_151 : decode cX4_move 151 = .ok (.aload_n 0, 1) := by decide +kernel
theorem dX4_move_152 : decode cX4_move 152 = .ok (.getfield 13, 3) := by decide +kernel
theorem dX4_move_155 : decode cX4_move 155 = .ok (.iload 7, 2) := by decide +kernel
theorem dX4_move_157 : decode cX4_move 157 = .ok (.iaload, 1) := by decide +kernel
theorem dX4_move_158 : decode cX4_move 158 = .ok (.iconst 2, 1) := by decide +kernel
theorem dX4_move_159 : decode cX4_move 159 = .ok (.if_icmp .lt 39, 3) := by decide +kernel
theorem dX4_move_162 : decode cX4_move 162 = .ok (.aload_n 0, 1) := by decide +kernel
theorem dX4_move_163 : decode cX4_move 163 = .ok (.aload_n 0, 1) := by decide +kernel
theorem dX4_move_164 : decode cX4_move 164 = .ok (.getfield 13, 3) := by decide +kernel
theorem dX4_move_167 : decode cX4_move 167 = .ok (.iload 7, 2) := by decide +kernel
theorem dX4_move_169 : decode cX4_move 169 = .ok (.iaload, 1) := by decide +kernel
theorem dX4_move_170 : decode cX4_move 170 = .ok (.aload_n 0, 1) := by decide +kernel
theorem dX4_move_171 : decode cX4_move 171 = .ok (.getfield 28, 3) := by decide +kernel
theorem dX4_move_174 : decode cX4_move 174 = .ok (.iload 9, 2) := by decide +kernel
theorem dX4_move_176 : decode cX4_move 176 = .ok (.iaload, 1) := by decide +kernel
theorem dX4_move_177 : decode cX4_move 177 = .ok (.aload_n 0, 1) := by decide +kernel
theorem dX4_move_178 : decode cX4_move 178 = .ok (.getfield 13, 3) := by decide +kernel
theorem dX4_move_181 : decode cX4_move 181 = .ok (.iload 8, 2) := by decide +kernel
theorem dX4_move_183 : decode cX4_move 183 = .ok (.iaload, 1) := by decide +kernel
theorem dX4_move_184 : decode cX4_move 184 = .ok (.invokevirtual 102, 3) := by decide +kernel
theorem dX4_move_187 : decode cX4_move 187 = .ok (.ifCond .ne 11, 3) := by decide +kernel
theorem dX4_move_190 : decode cX4_move 190 = .ok (.aload_n 0, 1) := by decide +kernel
theorem dX4_move_191 : decode cX4_move 191 = .ok (.iconst 2, 1) := by decide +kernel
theorem dX4_move_192 : decode cX4_move 192 = .ok (.putfield 37, 3) := by decide +kernel
theorem dX4_move_195 : decode cX4_move 195 = .ok (.iload 9, 2) := by decide +kernel
theorem dX4_move_197 : decode cX4_move 197 = .ok (.ireturn, 1) := by decide +kernel
theorem dX4_move_198 : decode cX4_move 198 = .ok (.aload_n 0, 1) := by decide +kernel
theorem dX4_move_199 : decode cX4_move 199 = .ok (.iload 8, 2) := by decide +kernel
theorem dX4_move_201 : decode cX4_move 201 = .ok (.iload 4, 2) := by decide +kernel
theorem dX4_move_203 : decode cX4_move 203 = .ok (.iload 9, 2) := by decide +kernel
theorem dX4_move_205 : decode cX4_move 205 = .ok (.iadd, 1) := by decide +kernel
theorem dX4_move_206 : decode cX4_move 206 = .ok (.aload_n 0, 1) := by decide +kernel
theorem dX4_move_207 : decode cX4_move 207 = .ok (.getfield 28, 3) := by decide +kernel
theorem dX4_move_210 : decode cX4_move 210 = .ok (.iload 9, 2) := by decide +kernel
theorem dX4_move_212 : decode cX4_move 212 = .ok (.iaload, 1) := by decide +kernel
theorem dX4_move_213 : decode cX4_move 213 = .ok (.invokevirtual 44, 3) := by decide +kernel
theorem dX4_move_216 : decode cX4_move 216 = .ok (.iinc 9 1, 3) := by decide +kernel
theorem dX4_move_219 : decode cX4_move 219 = .ok (.goto (-75), 3) := by decide +kernel
theorem dX4_move_222 : decode cX4_move 222 = .ok (.aload_n 0, 1) := by decide +kernel
theorem dX4_move_223 : decode cX4_move 223 = .ok (.iload 5, 2) := by decide +kernel
theorem dX4_move_225 : decode cX4_move 225 = .ok (.invokevirtual 63, 3) := by decide +kernel
theorem dX4_move_228 : decode cX4_move 228 = .ok (.ireturn, 1) := by decide +kernel
set_option maxRecDepth 20000 in
theorem ggX4_loop_X4_isPlace : GoodIn wsX4_loop wsX4_isPlace := goodIn_r _ [9, 10, 11, 12, 8, 13] (by decide +kernel) (by decide +kernel)
set_option maxRecDepth 20000 in
theorem gX4_loop_X4_isPlace : GoodIn wsX4_loop (va_wsS RX4 48 yX4_isPlace wsX4_isPlace) := goodIn_app (goodIn_of _ (by decide +kernel)) ggX4_loop_X4_isPlace
set_option maxRecDepth 20000 in
theorem ggX4_loop_X4_unlike : GoodIn wsX4_loop wsX4_unlike := goodIn_r _ [17, 2, 18, 19, 20, 8, 21, 5, 47, 48, 49, 50, 51, 52, 53, 54, 55, 56, 57] (by decide +kernel) (by decide +kernel)
set_option maxRecDepth 20000 in
theorem gX4_loop_X4_unlike : GoodIn wsX4_loop (wsV RX4 99 RX4 yX4_unlike wsX4_unlike) := goodIn_app (goodIn_of _ (by decide +kernel)) ggX4_loop_X4_unlike
set_option maxRecDepth 20000 in
theorem ggX4_loop_X4_no : GoodIn wsX4_loop wsX4_no := goodIn_r _ [25, 4, 47, 48, 49, 50, 51, 52, 53, 54, 55, 56, 57] (by decide +kernel) (by decide +kernel)
set_option maxRecDepth 20000 in
theorem gX4_loop_X4_no : GoodIn wsX4_loop (wsV RX4 55 RX4 yX4_no wsX4_no) := goodIn_app (goodIn_of _ (by decide +kernel)) ggX4_loop_X4_no
set_option maxRecDepth 20000 in
theorem ggX4_loop_X4_within : GoodIn wsX4_loop wsX4_within := goodIn_r _ [13] (by decide +kernel) (by decide +kernel)
set_option maxRecDepth 20000 in
theorem gX4_loop_X4_within : GoodIn wsX4_loop (va_wsS RX4 33 yX4_within wsX4_within) := goodIn_app (goodIn_of _ (by decide +kernel)) ggX4_loop_X4_within
set_option maxRecDepth 20000 in
theorem ggX4_loop_X4_get : GoodIn wsX4_loop wsX4_get := goodIn_r _ [29, 30, 47, 48, 49, 50, 51, 52, 53, 54, 55, 56, 57] (by decide +kernel) (by decide +kernel)
set_option maxRecDepth 20000 in
theorem gX4_loop_X4_get : GoodIn wsX4_loop (wsV RX4 82 RX4 yX4_get wsX4_get) := goodIn_app (goodIn_of _ (by decide +kernel)) ggX4_loop_X4_get
set_option maxRecDepth 20000 in
theorem ggX4_loop_X4_fits : GoodIn wsX4_loop wsX4_fits := goodIn_r _ [34, 35, 36, 37, 8, 38, 47, 48, 49, 50, 51, 52, 53, 54, 55, 56, 57] (by decide +kernel) (by decide +kernel)
set_option maxRecDepth 20000 in
theorem gX4_loop_X4_fits : GoodIn wsX4_loop (wsV RX4 102 RX4 yX4_fits wsX4_fits) := goodIn_app (goodIn_of _ (by decide +kernel)) ggX4_loop_X4_fits
set_option maxRecDepth 20000 in
theorem ggX4_loop_X4_put : GoodIn wsX4_loop wsX4_put := goodIn_r _ [42, 30, 47, 48, 49, 50, 51, 52, 53, 54, 55, 56, 57] (by decide +kernel) (by decide +kernel)
set_option maxRecDepth 20000 in
theorem gX4_loop_X4_put : GoodIn wsX4_loop (wsV RX4 44 RX4 yX4_put wsX4_put) := goodIn_app (goodIn_of _ (by decide +kernel)) ggX4_loop_X4_put
set_option maxRecDepth 20000 in
theorem ggX4_loop_X4_yes : GoodIn wsX4_loop wsX4_yes := goodIn_r _ [46, 4, 47, 48, 49, 50, 51, 52, 53, 54, 55, 56, 57] (by decide +kernel) (by decide +kernel)
set_option maxRecDepth 20000 in
theorem gX4_loop_X4_yes : GoodIn wsX4_loop (wsV RX4 63 RX4 yX4_yes wsX4_yes) := goodIn_app (goodIn_of _ (by decide +kernel)) ggX4_loop_X4_yes
theorem dX4_loop_0 : decode cX4_loop 0 = .ok (.iload_n 1, 1) := by decide +kernel
theorem dX4_loop_1 : decode cX4_loop 1 = .ok (.invokestatic 48, 3) := by decide +kernel
theorem dX4_loop_4 : decode cX4_loop 4 = .ok (.ifCond .eq 10, 3) := by decide +kernel
theorem dX4_loop_7 : decode cX4_loop 7 = .ok (.iload_n 3, 1) := by decide +kernel
theorem dX4_loop_8 : decode cX4_loop 8 = .ok (.invokestatic 48, 3) := by decide +kernel
theorem dX4_loop_11 : decode cX4_loop 11 = .ok (.ifCond .ne 6, 3) := by decide +kernel
theorem dX4_loop_14 : decode cX4_loop 14 = .ok (.ldc 54, 2) := by decide +kernel
theorem dX4_loop_16 : decode cX4_loop 16 = .ok (.ireturn, 1) := by decide +kernel
theorem dX4_loop_17 : decode cX4_loop 17 = .ok (.aload_n 0, 1) := by decide +kernel
theorem dX4_loop_18 : decode cX4_loop 18 = .ok (.iload_n 1, 1) := by decide +kernel
theorem dX4_loop_19 : decode cX4_loop 19 = .ok (.iload_n 3, 1) := by decide +kernel
theorem dX4_loop_20 : decode cX4_loop 20 = .ok (.invokevirtual 99, 3) := by decide +kernel
theorem dX4_loop_23 : decode cX4_loop 23 = .ok (.istore 6, 2) := by decide +kernel
theorem dX4_loop_25 : decode cX4_loop 25 = .ok (.iload 6, 2) := by decide +kernel
theorem dX4_loop_27 : decode cX4_loop 27 = .ok (.ifCond .eq 10, 3) := by decide +kernel
theorem dX4_loop_30 : decode cX4_loop 30 = .ok (.aload_n 0, 1) := by decide +kernel
theorem dX4_loop_31 : decode cX4_loop 31 = .ok (.iload 6, 2) := by decide +kernel
theorem dX4_loop_33 : decode cX4_loop 33 = .ok (.invokevirtual 55, 3) := by decide +kernel
theorem dX4_loop_36 : decode cX4_loop 36 = .ok (.ireturn, 1) := by decide +kernel
theorem dX4_loop_37 : decode cX4_loop 37 = .ok (.aload_n 0, 1) := by decide +kernel
theorem dX4_loop_38 : decode cX4_loop 38 = .ok (.getfield 7, 3) := by decide +kernel
theorem dX4_loop_41 : decode cX4_loop 41 = .ok (.iload_n 1, 1) := by decide +kernel
theorem dX4_loop_42 : decode cX4_loop 42 = .ok (.iaload, 1) := by decide +kernel
theorem dX4_loop_43 : decode cX4_loop 43 = .ok (.istore 7, 2) := by decide +kernel
theorem dX4_loop_45 : decode cX4_loop 45 = .ok (.aload_n 0, 1) := by decide +kernel
theorem dX4_loop_46 : decode cX4_loop 46 = .ok (.getfield 7, 3) := by decide +kernel
theorem dX4_loop_49 : decode cX4_loop 49 = .ok (.iload_n 3, 1) := by decide +kernel
theorem dX4_loop_50 : decode cX4_loop 50 = .ok (.iaload, 1) := by decide +kernel
theorem dX4_loop_51 : decode cX4_loop 51 = .ok (.istore 8, 2) := by decide +kernel
theorem dX4_loop_53 : decode cX4_loop 53 = .ok (.iconst 0, 1) := by decide +kernel
theorem dX4_loop_54 : decode cX4_loop 54 = .ok (.istore 9, 2) := by decide +kernel
theorem dX4_loop_56 : decode cX4_loop 56 = .ok (.iload 9, 2) := by decide +kernel
theorem dX4_loop_58 : decode cX4_loop 58 = .ok (.iload 5, 2) := by decide +kernel
theorem dX4_loop_60 : decode cX4_loop 60 = .ok (.if_icmp .ge 131, 3) := by decide +kernel
theorem dX4_loop_63 : decode cX4_loop 63 = .ok (.iload_n 2, 1) := by decide +kernel
theorem dX4_loop_64 : decode cX4_loop 64 = .ok (.i2l, 1) := by decide +kernel
theorem dX4_loop_65 : decode cX4_loop 65 = .ok (.iload 9, 2) := by decide +kernel
theorem dX4_loop_67 : decode cX4_loop 67 = .ok (.i2l, 1) := by decide +kernel
theorem dX4_loop_68 : decode cX4_loop 68 = .ok (.ladd, 1) := by decide +kernel
theorem dX4_loop_69 : decode cX4_loop 69 = .ok (.lconst 0, 1) := by decide +kernel
theorem dX4_loop_70 : decode cX4_loop 70 = .ok (.aload_n 0, 1) := by decide +kernel
theorem dX4_loop_71 : decode cX4_loop 71 = .ok (.getfield 16, 3) := by decide +kernel
theorem dX4_loop_74 : decode cX4_loop 74 = .ok (.iload 7, 2) := by decide +kernel
theorem dX4_loop_76 : decode cX4_loop 76 = .ok (.iaload, 1) := by decide +kernel
theorem dX4_loop_77 : decode cX4_loop 77 = .ok (.iconst 1, 1) := by decide +kernel
theorem dX4_loop_78 : decode cX4_loop 78 = .ok (.isub, 1) := by decide +kernel
theorem dX4_loop_79 : decode cX4_loop 79 = .ok (.i2l, 1) := by decide +kernel
theorem dX4_loop_80 : decode cX4_loop 80 = .ok (.invokestatic 33, 3) := by decide +kernel
theorem dX4_loop_83 : decode cX4_loop 83 = .ok (.ifCond .eq 27, 3) := by decide +kernel
theorem dX4_loop_86 : decode cX4_loop 86 = .ok (.iload 4, 2) := by decide +kernel
theorem dX4_loop_88 : decode cX4_loop 88 = .ok (.i2l, 1) := by decide +kernel
theorem dX4_loop_89 : decode cX4_loop 89 = .ok (.iload 9, 2) := by decide +kernel
theorem dX4_loop_91 : decode cX4_loop 91 = .ok (.i2l, 1) := by decide +kernel
theorem dX4_loop_92 : decode cX4_loop 92 = .ok (.ladd, 1) := by decide +kernel
theorem dX4_loop_93 : decode cX4_loop 93 = .ok (.lconst 0, 1) := by decide +kernel
theorem dX4_loop_94 : decode cX4_loop 94 = .ok (.aload_n 0, 1) := by decide +kernel
theorem dX4_loop_95 : decode cX4_loop 95 = .ok (.getfield 16, 3) := by decide +kernel
theorem dX4_loop_98 : decode cX4_loop 98 = .ok (.iload 8, 2) := by decide +kernel
theorem dX4_loop_100 : decode cX4_loop 100 = .ok (.iaload, 1) := by decide +kernel
theorem dX4_loop_101 : decode cX4_loop 101 = .ok (.iconst 1, 1) := by decide +kernel
theorem dX4_loop_102 : decode cX4_loop 102 = .ok (.isub, 1) := by decide +kernel
theorem dX4_loop_103 : decode cX4_loop 103 = .ok (.i2l, 1) := by decide +kernel
theorem dX4_loop_104 : decode cX4_loop 104 = .ok (.invokestatic 33, 3) := by decide +kernel
theorem dX4_loop_107 : decode cX4_loop 107 = .ok (.ifCond .ne 11, 3) := by decide +kernel
theorem dX4_loop_110 : decode cX4_loop 110 = .ok (.aload_n 0, 1) := by decide +kernel
theorem dX4_loop_111 : decode cX4_loop 111 = .ok (.iconst 3, 1) := by decide +kernel
theorem dX4_loop_112 : decode cX4_loop 112 = .ok (.putfield 37, 3) := by decide +kernel
theorem dX4_loop_115 : decode cX4_loop 115 = .ok (.iload 9, 2) := by decide +kernel
theorem dX4_loop_117 : decode cX4_loop 117 = .ok (.ireturn, 1) := by decide +kernel
theorem dX4_loop_118 : decode cX4_loop 118 = .ok (.aload_n 0, 1) := by decide +kernel
theorem dX4_loop_119 : decode cX4_loop 119 = .ok (.iload 7, 2) := by decide +kernel
theorem dX4_loop_121 : decode cX4_loop 121 = .ok (.iload_n 2, 1) := by decide +kernel
theorem dX4_loop_122 : decode cX4_loop 122 = .ok (.iload 9, 2) := by decide +kernel
theorem dX4_loop_124 : decode cX4_loop 124 = .ok (.iadd, 1) := by decide +kernel
theorem dX4_loop_125 : decode cX4_loop 125 = .ok (.invokevirtual 82, 3) := by decide +kernel
theorem dX4_loop_128 : decode cX4_loop 128 = .ok (.istore 10, 2) := by decide +kernel
theorem dX4_loop_130 : decode cX4_loop 130 = .ok (.aload_n 0, 1) := by decide +kernel
theorem dX4_loop_131 : decode cX4_loop 131 = .ok (.getfield 13, 3) := by decide +kernel
theorem dX4_loop_134 : decode cX4_loop 134 = .ok (.iload 7, 2) := by decide +kernel
theorem dX4_loop_136 : decode cX4_loop 136 = .ok (.iaload, 1) := by decide +kernel
theorem dX4_loop_137 : decode cX4_loop 137 = .ok (.iconst 2, 1) := by decide +kernel
theorem dX4_loop_138 : decode cX4_loop 138 = .ok (.if_icmp .lt 34, 3) := by decide +kernel
theorem dX4_loop_141 : decode cX4_loop 141 = .ok (.aload_n 0, 1) := by decide +kernel
theorem dX4_loop_142 : decode cX4_loop 142 = .ok (.aload_n 0, 1) := by decide +kernel
theorem dX4_loop_143 : decode cX4_loop 143 = .ok (.getfield 13, 3) := by decide +kernel
theorem dX4_loop_146 : decode cX4_loop 146 = .ok (.iload 7, 2) := by decide +kernel
theorem dX4_loop_148 : decode cX4_loop 148 = .ok (.iaload, 1) := by decide +kernel
theorem dX4_loop_149 : decode cX4_loop 149 = .ok (.iload 10, 2) := by decide +kernel
theorem dX4_loop_151 : decode cX4_loop 151 = .ok (.aload_n 0, 1) := by decide +kernel
theorem dX4_loop_152 : decode cX4_loop 152 = .ok (.getfield 13, 3) := by decide +kernel
theorem dX4_loop_155 : decode cX4_loop 155 = .ok (.iload 8, 2) := by decide +kernel
theorem dX4_loop_157 : decode cX4_loop 157 = .ok (.iaload, 1) := by decide +kernel
theorem dX4_loop_158 : decode cX4_loop 158 = .ok (.invokevirtual 102, 3) := by decide +kernel
theorem dX4_loop_161 : decode cX4_loop 161 = .ok (.ifCond .ne 11, 3) := by decide +kernel
theorem dX4_loop_164 : decode cX4_loop 164 = .ok (.aload_n 0, 1) := by decide +kernel
theorem dX4_loop_165 : decode cX4_loop 165 = .ok (.iconst 2, 1) := by decide +kernel
theorem dX4_loop_166 : decode cX4_loop 166 = .ok (.putfield 37, 3) := by decide +kernel
theorem dX4_loop_169 : decode cX4_loop 169 = .ok (.iload 9, 2) := by decide +kernel
theorem dX4_loop_171 : decode cX4_loop 171 = .ok (.ireturn, 1) := by decide +kernel
theorem dX4_loop_172 : decode cX4_loop 172 = .ok (.aload_n 0, 1) := by decide +kernel
theorem dX4_loop_173 : decode cX4_loop 173 = .ok (.iload 8, 2) := by decide +kernel
theorem dX4_loop_175 : decode cX4_loop 175 = .ok (.iload 4, 2) := by decide +kernel
theorem dX4_loop_177 : decode cX4_loop 177 = .ok (.iload 9, 2) := by decide +kernel
end
section
theorem dX4_loop_179 : decode cX4_loop 179 = .ok (.iadd, 1) := by decide +kernel
theorem dX4_loop_180 : decode cX4_loop 180 = .ok (.iload 10, 2) := by decide +kernel
theorem dX4_loop_182 : decode cX4_loop 182 = .ok (.invokevirtual 44, 3) := by decide +kernel
theorem dX4_loop_185 : decode cX4_loop 185 = .ok (.iinc 9 1, 3) := by decide +kernel
theorem dX4_loop_188 : decode cX4_loop 188 = .ok (.goto (-132), 3) := by decide +kernel
theorem dX4_loop_191 : decode cX4_loop 191 = .ok (.aload_n 0, 1) := by decide +kernel
theorem dX4_loop_192 : decode cX4_loop 192 = .ok (.iload 5, 2) := by decide +kernel
theorem dX4_loop_194 : decode cX4_loop 194 = .ok (.ifCond .ge 7, 3) := by decide +kernel
theorem dX4_loop_197 : decode cX4_loop 197 = .ok (.iconst 0, 1) := by decide +kernel
theorem dX4_loop_198 : decode cX4_loop 198 = .ok (.goto 5, 3) := by decide +kernel
theorem dX4_loop_201 : decode cX4_loop 201 = .ok (.iload 5, 2) := by decide +kernel
theorem dX4_loop_203 : decode cX4_loop 203 = .ok (.invokevirtual 63, 3) := by decide +kernel
theorem dX4_loop_206 : decode cX4_loop 206 = .ok (.ireturn, 1) := by decide +kernel
set_option maxRecDepth 20000 in
theorem ggX4_copy_X4_isPlace : GoodIn wsX4_copy wsX4_isPlace := goodIn_r _ [5, 6, 7, 8, 4, 9] (by decide +kernel) (by decide +kernel)
set_option maxRecDepth 20000 in
theorem gX4_copy_X4_isPlace : GoodIn wsX4_copy (va_wsS RX4 48 yX4_isPlace wsX4_isPlace) := goodIn_app (goodIn_of _ (by decide +kernel)) ggX4_copy_X4_isPlace
set_option maxRecDepth 20000 in
theorem ggX4_copy_X4_wantsRow : GoodIn wsX4_copy wsX4_wantsRow := goodIn_r _ [13, 14, 48, 49, 50, 51, 52, 53, 54, 55, 56, 57, 58] (by decide +kernel) (by decide +kernel)
set_option maxRecDepth 20000 in
theorem gX4_copy_X4_wantsRow : GoodIn wsX4_copy (wsV RX4 72 RX4 yX4_wantsRow wsX4_wantsRow) := goodIn_app (goodIn_of _ (by decide +kernel)) ggX4_copy_X4_wantsRow
set_option maxRecDepth 20000 in
theorem ggX4_copy_X4_no : GoodIn wsX4_copy wsX4_no := goodIn_r _ [18, 19, 48, 49, 50, 51, 52, 53, 54, 55, 56, 57, 58] (by decide +kernel) (by decide +kernel)
set_option maxRecDepth 20000 in
theorem gX4_copy_X4_no : GoodIn wsX4_copy (wsV RX4 55 RX4 yX4_no wsX4_no) := goodIn_app (goodIn_of _ (by decide +kernel)) ggX4_copy_X4_no
set_option maxRecDepth 20000 in
theorem ggX4_copy_X4_lengthOf : GoodIn wsX4_copy wsX4_lengthOf := goodIn_r _ [23, 24, 14, 48, 49, 50, 51, 52, 53, 54, 55, 56, 57, 58] (by decide +kernel) (by decide +kernel)
set_option maxRecDepth 20000 in
theorem gX4_copy_X4_lengthOf : GoodIn wsX4_copy (wsV RX4 75 RX4 yX4_lengthOf wsX4_lengthOf) := goodIn_app (goodIn_of _ (by decide +kernel)) ggX4_copy_X4_lengthOf
set_option maxRecDepth 20000 in
theorem ggX4_copy_X4_sliced : GoodIn wsX4_copy wsX4_sliced := goodIn_r _ [28, 14, 29, 30, 31, 32, 4, 33, 34, 24, 35, 36, 37, 38, 39, 40, 41, 42, 43, 44, 45, 46, 47, 19, 48, 49, 50, 51, 52, 53, 54, 55, 56, 57, 58] (by decide +kernel) (by decide +kernel)
set_option maxRecDepth 20000 in
theorem gX4_copy_X4_sliced : GoodIn wsX4_copy (wsV RX4 106 RX4 yX4_sliced wsX4_sliced) := goodIn_app (goodIn_of _ (by decide +kernel)) ggX4_copy_X4_sliced
theorem dX4_copy_0 : decode cX4_copy 0 = .ok (.iload_n 1, 1) := by decide +kernel
theorem dX4_copy_1 : decode cX4_copy 1 = .ok (.invokestatic 48, 3) := by decide +kernel
theorem dX4_copy_4 : decode cX4_copy 4 = .ok (.ifCond .eq 10, 3) := by decide +kernel
theorem dX4_copy_7 : decode cX4_copy 7 = .ok (.iload_n 2, 1) := by decide +kernel
theorem dX4_copy_8 : decode cX4_copy 8 = .ok (.invokestatic 48, 3) := by decide +kernel
theorem dX4_copy_11 : decode cX4_copy 11 = .ok (.ifCond .ne 6, 3) := by decide +kernel
theorem dX4_copy_14 : decode cX4_copy 14 = .ok (.ldc 54, 2) := by decide +kernel
theorem dX4_copy_16 : decode cX4_copy 16 = .ok (.ireturn, 1) := by decide +kernel
theorem dX4_copy_17 : decode cX4_copy 17 = .ok (.aload_n 0, 1) := by decide +kernel
theorem dX4_copy_18 : decode cX4_copy 18 = .ok (.iload_n 2, 1) := by decide +kernel
theorem dX4_copy_19 : decode cX4_copy 19 = .ok (.invokevirtual 72, 3) := by decide +kernel
theorem dX4_copy_22 : decode cX4_copy 22 = .ok (.istore_n 3, 1) := by decide +kernel
theorem dX4_copy_23 : decode cX4_copy 23 = .ok (.iload_n 3, 1) := by decide +kernel
theorem dX4_copy_24 : decode cX4_copy 24 = .ok (.ifCond .eq 11, 3) := by decide +kernel
theorem dX4_copy_27 : decode cX4_copy 27 = .ok (.aload_n 0, 1) := by decide +kernel
theorem dX4_copy_28 : decode cX4_copy 28 = .ok (.iload_n 3, 1) := by decide +kernel
theorem dX4_copy_29 : decode cX4_copy 29 = .ok (.invokevirtual 55, 3) := by decide +kernel
theorem dX4_copy_32 : decode cX4_copy 32 = .ok (.goto 15, 3) := by decide +kernel
theorem dX4_copy_35 : decode cX4_copy 35 = .ok (.aload_n 0, 1) := by decide +kernel
theorem dX4_copy_36 : decode cX4_copy 36 = .ok (.iload_n 1, 1) := by decide +kernel
theorem dX4_copy_37 : decode cX4_copy 37 = .ok (.iload_n 2, 1) := by decide +kernel
theorem dX4_copy_38 : decode cX4_copy 38 = .ok (.iconst 0, 1) := by decide +kernel
theorem dX4_copy_39 : decode cX4_copy 39 = .ok (.aload_n 0, 1) := by decide +kernel
theorem dX4_copy_40 : decode cX4_copy 40 = .ok (.iload_n 2, 1) := by decide +kernel
theorem dX4_copy_41 : decode cX4_copy 41 = .ok (.invokevirtual 75, 3) := by decide +kernel
theorem dX4_copy_44 : decode cX4_copy 44 = .ok (.invokevirtual 106, 3) := by decide +kernel
theorem dX4_copy_47 : decode cX4_copy 47 = .ok (.ireturn, 1) := by decide +kernel
set_option maxRecDepth 20000 in
theorem ggX4_sliced_X4_newRow : GoodIn wsX4_sliced wsX4_newRow := goodIn_r _ [7, 2, 8, 9, 10, 11, 12, 6, 13, 14, 24, 25, 26, 27, 28, 29, 30, 31, 32, 33, 34] (by decide +kernel) (by decide +kernel)
set_option maxRecDepth 20000 in
theorem gX4_sliced_X4_newRow : GoodIn wsX4_sliced (wsV RX4 59 RX4 yX4_newRow wsX4_newRow) := goodIn_app (goodIn_of _ (by decide +kernel)) ggX4_sliced_X4_newRow
set_option maxRecDepth 20000 in
theorem ggX4_sliced_X4_get : GoodIn wsX4_sliced wsX4_get := goodIn_r _ [18, 14, 24, 25, 26, 27, 28, 29, 30, 31, 32, 33, 34] (by decide +kernel) (by decide +kernel)
set_option maxRecDepth 20000 in
theorem gX4_sliced_X4_get : GoodIn wsX4_sliced (wsV RX4 82 RX4 yX4_get wsX4_get) := goodIn_app (goodIn_of _ (by decide +kernel)) ggX4_sliced_X4_get
set_option maxRecDepth 20000 in
theorem ggX4_sliced_X4_put : GoodIn wsX4_sliced wsX4_put := goodIn_r _ [13, 14, 24, 25, 26, 27, 28, 29, 30, 31, 32, 33, 34] (by decide +kernel) (by decide +kernel)
set_option maxRecDepth 20000 in
theorem gX4_sliced_X4_put : GoodIn wsX4_sliced (wsV RX4 44 RX4 yX4_put wsX4_put) := goodIn_app (goodIn_of _ (by decide +kernel)) ggX4_sliced_X4_put
set_option maxRecDepth 20000 in
theorem ggX4_sliced_X4_yes : GoodIn wsX4_sliced wsX4_yes := goodIn_r _ [22, 23, 24, 25, 26, 27, 28, 29, 30, 31, 32, 33, 34] (by decide +kernel) (by decide +kernel)
set_option maxRecDepth 20000 in
theorem gX4_sliced_X4_yes : GoodIn wsX4_sliced (wsV RX4 63 RX4 yX4_yes wsX4_yes) := goodIn_app (goodIn_of _ (by decide +kernel)) ggX4_sliced_X4_yes
theorem dX4_sliced_0 : decode cX4_sliced 0 = .ok (.aload_n 0, 1) := by decide +kernel
theorem dX4_sliced_1 : decode cX4_sliced 1 = .ok (.getfield 7, 3) := by decide +kernel
theorem dX4_sliced_4 : decode cX4_sliced 4 = .ok (.iload_n 2, 1) := by decide +kernel
theorem dX4_sliced_5 : decode cX4_sliced 5 = .ok (.iaload, 1) := by decide +kernel
theorem dX4_sliced_6 : decode cX4_sliced 6 = .ok (.istore 5, 2) := by decide +kernel
theorem dX4_sliced_8 : decode cX4_sliced 8 = .ok (.aload_n 0, 1) := by decide +kernel
theorem dX4_sliced_9 : decode cX4_sliced 9 = .ok (.aload_n 0, 1) := by decide +kernel
theorem dX4_sliced_10 : decode cX4_sliced 10 = .ok (.getfield 13, 3) := by decide +kernel
theorem dX4_sliced_13 : decode cX4_sliced 13 = .ok (.iload 5, 2) := by decide +kernel
theorem dX4_sliced_15 : decode cX4_sliced 15 = .ok (.iaload, 1) := by decide +kernel
theorem dX4_sliced_16 : decode cX4_sliced 16 = .ok (.iload 4, 2) := by decide +kernel
theorem dX4_sliced_18 : decode cX4_sliced 18 = .ok (.invokevirtual 59, 3) := by decide +kernel
theorem dX4_sliced_21 : decode cX4_sliced 21 = .ok (.istore 6, 2) := by decide +kernel
theorem dX4_sliced_23 : decode cX4_sliced 23 = .ok (.iconst 0, 1) := by decide +kernel
theorem dX4_sliced_24 : decode cX4_sliced 24 = .ok (.istore 7, 2) := by decide +kernel
theorem dX4_sliced_26 : decode cX4_sliced 26 = .ok (.iload 7, 2) := by decide +kernel
theorem dX4_sliced_28 : decode cX4_sliced 28 = .ok (.iload 4, 2) := by decide +kernel
theorem dX4_sliced_30 : decode cX4_sliced 30 = .ok (.if_icmp .ge 27, 3) := by decide +kernel
theorem dX4_sliced_33 : decode cX4_sliced 33 = .ok (.aload_n 0, 1) := by decide +kernel
theorem dX4_sliced_34 : decode cX4_sliced 34 = .ok (.iload 6, 2) := by decide +kernel
theorem dX4_sliced_36 : decode cX4_sliced 36 = .ok (.iload 7, 2) := by decide +kernel
theorem dX4_sliced_38 : decode cX4_sliced 38 = .ok (.aload_n 0, 1) := by decide +kernel
theorem dX4_sliced_39 : decode cX4_sliced 39 = .ok (.iload 5, 2) := by decide +kernel
theorem dX4_sliced_41 : decode cX4_sliced 41 = .ok (.iload_n 3, 1) := by decide +kernel
theorem dX4_sliced_42 : decode cX4_sliced 42 = .ok (.iload 7, 2) := by decide +kernel
theorem dX4_sliced_44 : decode cX4_sliced 44 = .ok (.iadd, 1) := by decide +kernel
theorem dX4_sliced_45 : decode cX4_sliced 45 = .ok (.invokevirtual 82, 3) := by decide +kernel
theorem dX4_sliced_48 : decode cX4_sliced 48 = .ok (.invokevirtual 44, 3) := by decide +kernel
theorem dX4_sliced_51 : decode cX4_sliced 51 = .ok (.iinc 7 1, 3) := by decide +kernel
theorem dX4_sliced_54 : decode cX4_sliced 54 = .ok (.goto (-28), 3) := by decide +kernel
theorem dX4_sliced_57 : decode cX4_sliced 57 = .ok (.aload_n 0, 1) := by decide +kernel
theorem dX4_sliced_58 : decode cX4_sliced 58 = .ok (.getfield 7, 3) := by decide +kernel
theorem dX4_sliced_61 : decode cX4_sliced 61 = .ok (.iload_n 1, 1) := by decide +kernel
theorem dX4_sliced_62 : decode cX4_sliced 62 = .ok (.iload 6, 2) := by decide +kernel
theorem dX4_sliced_64 : decode cX4_sliced 64 = .ok (.iastore, 1) := by decide +kernel
theorem dX4_sliced_65 : decode cX4_sliced 65 = .ok (.aload_n 0, 1) := by decide +kernel
theorem dX4_sliced_66 : decode cX4_sliced 66 = .ok (.iload 4, 2) := by decide +kernel
theorem dX4_sliced_68 : decode cX4_sliced 68 = .ok (.invokevirtual 63, 3) := by decide +kernel
theorem dX4_sliced_71 : decode cX4_sliced 71 = .ok (.ireturn, 1) := by decide +kernel
set_option maxRecDepth 20000 in
theorem ggX4_slice_X4_isPlace : GoodIn wsX4_slice wsX4_isPlace := goodIn_r _ [5, 6, 7, 8, 4, 9] (by decide +kernel) (by decide +kernel)
set_option maxRecDepth 20000 in
theorem gX4_slice_X4_isPlace : GoodIn wsX4_slice (va_wsS RX4 48 yX4_isPlace wsX4_isPlace) := goodIn_app (goodIn_of _ (by decide +kernel)) ggX4_slice_X4_isPlace
set_option maxRecDepth 20000 in
theorem ggX4_slice_X4_wantsRow : GoodIn wsX4_slice wsX4_wantsRow := goodIn_r _ [13, 14, 48, 49, 50, 51, 52, 53, 54, 55, 56, 57, 58] (by decide +kernel) (by decide +kernel)
set_option maxRecDepth 20000 in
theorem gX4_slice_X4_wantsRow : GoodIn wsX4_slice (wsV RX4 72 RX4 yX4_wantsRow wsX4_wantsRow) := goodIn_app (goodIn_of _ (by decide +kernel)) ggX4_slice_X4_wantsRow
set_option maxRecDepth 20000 in
theorem ggX4_slice_X4_lengthOf : GoodIn wsX4_slice wsX4_lengthOf := goodIn_r _ [18, 19, 14, 48, 49, 50, 51, 52, 53, 54, 55, 56, 57, 58] (by decide +kernel) (by decide +kernel)
set_option maxRecDepth 20000 in
theorem gX4_slice_X4_lengthOf : GoodIn wsX4_slice (wsV RX4 75 RX4 yX4_lengthOf wsX4_lengthOf) := goodIn_app (goodIn_of _ (by decide +kernel)) ggX4_slice_X4_lengthOf
set_option maxRecDepth 20000 in
theorem ggX4_slice_X4_no : GoodIn wsX4_slice wsX4_no := goodIn_r _ [23, 24, 48, 49, 50, 51, 52, 53, 54, 55, 56, 57, 58] (by decide +kernel) (by decide +kernel)
set_option maxRecDepth 20000 in
theorem gX4_slice_X4_no : GoodIn wsX4_slice (wsV RX4 55 RX4 yX4_no wsX4_no) := goodIn_app (goodIn_of _ (by decide +kernel)) ggX4_slice_X4_no
set_option maxRecDepth 20000 in
theorem ggX4_slice_X4_sliced : GoodIn wsX4_slice wsX4_sliced := goodIn_r _ [28, 14, 29, 30, 31, 32, 4, 33, 34, 19, 35, 36, 37, 38, 39, 40, 41, 42, 43, 44, 45, 46, 47, 24, 48, 49, 50, 51, 52, 53, 54, 55, 56, 57, 58] (by decide +kernel) (by decide +kernel)
set_option maxRecDepth 20000 in
theorem gX4_slice_X4_sliced : GoodIn wsX4_slice (wsV RX4 106 RX4 yX4_sliced wsX4_sliced) := goodIn_app (goodIn_of _ (by decide +kernel)) ggX4_slice_X4_sliced
theorem dX4_slice_0 : decode cX4_slice 0 = .ok (.iload_n 1, 1) := by decide +kernel
theorem dX4_slice_1 : decode cX4_slice 1 = .ok (.invokestatic 48, 3) := by decide +kernel
theorem dX4_slice_4 : decode cX4_slice 4 = .ok (.ifCond .eq 10, 3) := by decide +kernel
theorem dX4_slice_7 : decode cX4_slice 7 = .ok (.iload_n 2, 1) := by decide +kernel
theorem dX4_slice_8 : decode cX4_slice 8 = .ok (.invokestatic 48, 3) := by decide +kernel
theorem dX4_slice_11 : decode cX4_slice 11 = .ok (.ifCond .ne 6, 3) := by decide +kernel
theorem dX4_slice_14 : decode cX4_slice 14 = .ok (.ldc 54, 2) := by decide +kernel
theorem dX4_slice_16 : decode cX4_slice 16 = .ok (.ireturn, 1) := by decide +kernel
theorem dX4_slice_17 : decode cX4_slice 17 = .ok (.aload_n 0, 1) := by decide +kernel
theorem dX4_slice_18 : decode cX4_slice 18 = .ok (.iload_n 2, 1) := by decide +kernel
theorem dX4_slice_19 : decode cX4_slice 19 = .ok (.invokevirtual 72, 3) := by decide +kernel
theorem dX4_slice_22 : decode cX4_slice 22 = .ok (.istore 5, 2) := by decide +kernel
theorem dX4_slice_24 : decode cX4_slice 24 = .ok (.iload 5, 2) := by decide +kernel
theorem dX4_slice_26 : decode cX4_slice 26 = .ok (.ifCond .ne 11, 3) := by decide +kernel
theorem dX4_slice_29 : decode cX4_slice 29 = .ok (.iload 4, 2) := by decide +kernel
theorem dX4_slice_31 : decode cX4_slice 31 = .ok (.ifCond .ge 6, 3) := by decide +kernel
theorem dX4_slice_34 : decode cX4_slice 34 = .ok (.iconst 4, 1) := by decide +kernel
theorem dX4_slice_35 : decode cX4_slice 35 = .ok (.istore 5, 2) := by decide +kernel
theorem dX4_slice_37 : decode cX4_slice 37 = .ok (.iload 5, 2) := by decide +kernel
theorem dX4_slice_39 : decode cX4_slice 39 = .ok (.ifCond .ne 26, 3) := by decide +kernel
theorem dX4_slice_42 : decode cX4_slice 42 = .ok (.iload_n 3, 1) := by decide +kernel
theorem dX4_slice_43 : decode cX4_slice 43 = .ok (.ifCond .lt 19, 3) := by decide +kernel
theorem dX4_slice_46 : decode cX4_slice 46 = .ok (.iload_n 3, 1) := by decide +kernel
theorem dX4_slice_47 : decode cX4_slice 47 = .ok (.i2l, 1) := by decide +kernel
theorem dX4_slice_48 : decode cX4_slice 48 = .ok (.iload 4, 2) := by decide +kernel
theorem dX4_slice_50 : decode cX4_slice 50 = .ok (.i2l, 1) := by decide +kernel
theorem dX4_slice_51 : decode cX4_slice 51 = .ok (.ladd, 1) := by decide +kernel
theorem dX4_slice_52 : decode cX4_slice 52 = .ok (.aload_n 0, 1) := by decide +kernel
theorem dX4_slice_53 : decode cX4_slice 53 = .ok (.iload_n 2, 1) := by decide +kernel
theorem dX4_slice_54 : decode cX4_slice 54 = .ok (.invokevirtual 75, 3) := by decide +kernel
theorem dX4_slice_57 : decode cX4_slice 57 = .ok (.i2l, 1) := by decide +kernel
theorem dX4_slice_58 : decode cX4_slice 58 = .ok (.lcmp, 1) := by decide +kernel
theorem dX4_slice_59 : decode cX4_slice 59 = .ok (.ifCond .le 6, 3) := by decide +kernel
theorem dX4_slice_62 : decode cX4_slice 62 = .ok (.iconst 3, 1) := by decide +kernel
theorem dX4_slice_63 : decode cX4_slice 63 = .ok (.istore 5, 2) := by decide +kernel
theorem dX4_slice_65 : decode cX4_slice 65 = .ok (.iload 5, 2) := by decide +kernel
theorem dX4_slice_67 : decode cX4_slice 67 = .ok (.ifCond .eq 12, 3) := by decide +kernel
theorem dX4_slice_70 : decode cX4_slice 70 = .ok (.aload_n 0, 1) := by decide +kernel
theorem dX4_slice_71 : decode cX4_slice 71 = .ok (.iload 5, 2) := by decide +kernel
theorem dX4_slice_73 : decode cX4_slice 73 = .ok (.invokevirtual 55, 3) := by decide +kernel
theorem dX4_slice_76 : decode cX4_slice 76 = .ok (.goto 12, 3) := by decide +kernel
theorem dX4_slice_79 : decode cX4_slice 79 = .ok (.aload_n 0, 1) := by decide +kernel
theorem dX4_slice_80 : decode cX4_slice 80 = .ok (.iload_n 1, 1) := by decide +kernel
theorem dX4_slice_81 : decode cX4_slice 81 = .ok (.iload_n 2, 1) := by decide +kernel
theorem dX4_slice_82 : decode cX4_slice 82 = .ok (.iload_n 3, 1) := by decide +kernel
theorem dX4_slice_83 : decode cX4_slice 83 = .ok (.iload 4, 2) := by decide +kernel
theorem dX4_slice_85 : decode cX4_slice 85 = .ok (.invokevirtual 106, 3) := by decide +kernel
theorem dX4_slice_88 : decode cX4_slice 88 = .ok (.ireturn, 1) := by decide +kernel
set_option maxRecDepth 20000 in
theorem ggX4_join_X4_isPlace : GoodIn wsX4_join wsX4_isPlace := goodIn_r _ [8, 9, 10, 11, 7, 12] (by decide +kernel) (by decide +kernel)
set_option maxRecDepth 20000 in
theorem gX4_join_X4_isPlace : GoodIn wsX4_join (va_wsS RX4 48 yX4_isPlace wsX4_isPlace) := goodIn_app (goodIn_of _ (by decide +kernel)) ggX4_join_X4_isPlace
set_option maxRecDepth 20000 in
theorem ggX4_join_X4_wantsRow : GoodIn wsX4_join wsX4_wantsRow := goodIn_r _ [16, 2, 60, 61, 62, 63, 64, 65, 66, 67, 68, 69, 70] (by decide +kernel) (by decide +kernel)
set_option maxRecDepth 20000 in
theorem gX4_join_X4_wantsRow : GoodIn wsX4_join (wsV RX4 72 RX4 yX4_wantsRow wsX4_wantsRow) := goodIn_app (goodIn_of _ (by decide +kernel)) ggX4_join_X4_wantsRow
set_option maxRecDepth 20000 in
theorem ggX4_join_X4_lengthOf : GoodIn wsX4_join wsX4_lengthOf := goodIn_r _ [20, 3, 2, 60, 61, 62, 63, 64, 65, 66, 67, 68, 69, 70] (by decide +kernel) (by decide +kernel)
set_option maxRecDepth 20000 in
theorem gX4_join_X4_lengthOf : GoodIn wsX4_join (wsV RX4 75 RX4 yX4_lengthOf wsX4_lengthOf) := goodIn_app (goodIn_of _ (by decide +kernel)) ggX4_join_X4_lengthOf
set_option maxRecDepth 20000 in
theorem ggX4_join_X4_unlike : GoodIn wsX4_join wsX4_unlike := goodIn_r _ [24, 2, 25, 26, 27, 7, 28, 4, 60, 61, 62, 63, 64, 65, 66, 67, 68, 69, 70] (by decide +kernel) (by decide +kernel)
set_option maxRecDepth 20000 in
theorem gX4_join_X4_unlike : GoodIn wsX4_join (wsV RX4 99 RX4 yX4_unlike wsX4_unlike) := goodIn_app (goodIn_of _ (by decide +kernel)) ggX4_join_X4_unlike
set_option maxRecDepth 20000 in
theorem ggX4_join_X4_get : GoodIn wsX4_join wsX4_get := goodIn_r _ [32, 33, 60, 61, 62, 63, 64, 65, 66, 67, 68, 69, 70] (by decide +kernel) (by decide +kernel)
set_option maxRecDepth 20000 in
theorem gX4_join_X4_get : GoodIn wsX4_join (wsV RX4 82 RX4 yX4_get wsX4_get) := goodIn_app (goodIn_of _ (by decide +kernel)) ggX4_join_X4_get
set_option maxRecDepth 20000 in
theorem ggX4_join_X4_fits : GoodIn wsX4_join wsX4_fits := goodIn_r _ [37, 38, 39, 40, 7, 41, 60, 61, 62, 63, 64, 65, 66, 67, 68, 69, 70] (by decide +kernel) (by decide +kernel)
set_option maxRecDepth 20000 in
theorem gX4_join_X4_fits : GoodIn wsX4_join (wsV RX4 102 RX4 yX4_fits wsX4_fits) := goodIn_app (goodIn_of _ (by decide +kernel)) ggX4_join_X4_fits
set_option maxRecDepth 20000 in
theorem ggX4_join_X4_no : GoodIn wsX4_join wsX4_no := goodIn_r _ [45, 46, 60, 61, 62, 63, 64, 65, 66, 67, 68, 69, 70] (by decide +kernel) (by decide +kernel)
set_option maxRecDepth 20000 in
theorem gX4_join_X4_no : GoodIn wsX4_join (wsV RX4 55 RX4 yX4_no wsX4_no) := goodIn_app (goodIn_of _ (by decide +kernel)) ggX4_join_X4_no
set_option maxRecDepth 20000 in
theorem ggX4_join_X4_newRow : GoodIn wsX4_join wsX4_newRow := goodIn_r _ [50, 4, 51, 3, 52, 53, 54, 7, 55, 33, 60, 61, 62, 63, 64, 65, 66, 67, 68, 69, 70] (by decide +kernel) (by decide +kernel)
set_option maxRecDepth 20000 in
theorem gX4_join_X4_newRow : GoodIn wsX4_join (wsV RX4 59 RX4 yX4_newRow wsX4_newRow) := goodIn_app (goodIn_of _ (by decide +kernel)) ggX4_join_X4_newRow
set_option maxRecDepth 20000 in
theorem ggX4_join_X4_put : GoodIn wsX4_join wsX4_put := goodIn_r _ [55, 33, 60, 61, 62, 63, 64, 65, 66, 67, 68, 69, 70] (by decide +kernel) (by decide +kernel)
set_option maxRecDepth 20000 in
theorem gX4_join_X4_put : GoodIn wsX4_join (wsV RX4 44 RX4 yX4_put wsX4_put) := goodIn_app (goodIn_of _ (by decide +kernel)) ggX4_join_X4_put
set_option maxRecDepth 20000 in
theorem ggX4_join_X4_yes : GoodIn wsX4_join wsX4_yes := goodIn_r _ [59, 46, 60, 61, 62, 63, 64, 65, 66, 67, 68, 69, 70] (by decide +kernel) (by decide +kernel)
set_option maxRecDepth 20000 in
theorem gX4_join_X4_yes : GoodIn wsX4_join (wsV RX4 63 RX4 yX4_yes wsX4_yes) := goodIn_app (goodIn_of _ (by decide +kernel)) ggX4_join_X4_yes
theorem dX4_join_0 : decode cX4_join 0 = .ok (.iload_n 1, 1) := by decide +kernel
theorem dX4_join_1 : decode cX4_join 1 = .ok (.invokestatic 48, 3) := by decide +kernel
theorem dX4_join_4 : decode cX4_join 4 = .ok (.ifCond .eq 17, 3) := by decide +kernel
theorem dX4_join_7 : decode cX4_join 7 = .ok (.iload_n 2, 1) := by decide +kernel
theorem dX4_join_8 : decode cX4_join 8 = .ok (.invokestatic 48, 3) := by decide +kernel
theorem dX4_join_11 : decode cX4_join 11 = .ok (.ifCond .eq 10, 3) := by decide +kernel
theorem dX4_join_14 : decode cX4_join 14 = .ok (.iload_n 3, 1) := by decide +kernel
theorem dX4_join_15 : decode cX4_join 15 = .ok (.invokestatic 48, 3) := by decide +kernel
theorem dX4_join_18 : decode cX4_join 18 = .ok (.ifCond .ne 6, 3) := by decide +kernel
theorem dX4_join_21 : decode cX4_join 21 = .ok (.ldc 54, 2) := by decide +kernel
theorem dX4_join_23 : decode cX4_join 23 = .ok (.ireturn, 1) := by decide +kernel
theorem dX4_join_24 : decode cX4_join 24 = .ok (.aload_n 0, 1) := by decide +kernel
theorem dX4_join_25 : decode cX4_join 25 = .ok (.getfield 7, 3) := by decide +kernel
theorem dX4_join_28 : decode cX4_join 28 = .ok (.iload_n 2, 1) := by decide +kernel
theorem dX4_join_29 : decode cX4_join 29 = .ok (.iaload, 1) := by decide +kernel
theorem dX4_join_30 : decode cX4_join 30 = .ok (.iconst (-1), 1) := by decide +kernel
theorem dX4_join_31 : decode cX4_join 31 = .ok (.if_icmp .eq 13, 3) := by decide +kernel
theorem dX4_join_34 : decode cX4_join 34 = .ok (.aload_n 0, 1) := by decide +kernel
theorem dX4_join_35 : decode cX4_join 35 = .ok (.getfield 7, 3) := by decide +kernel
theorem dX4_join_38 : decode cX4_join 38 = .ok (.iload_n 3, 1) := by decide +kernel
theorem dX4_join_39 : decode cX4_join 39 = .ok (.iaload, 1) := by decide +kernel
theorem dX4_join_40 : decode cX4_join 40 = .ok (.iconst (-1), 1) := by decide +kernel
theorem dX4_join_41 : decode cX4_join 41 = .ok (.if_icmp .ne 7, 3) := by decide +kernel
theorem dX4_join_44 : decode cX4_join 44 = .ok (.iconst 1, 1) := by decide +kernel
theorem dX4_join_45 : decode cX4_join 45 = .ok (.goto 22, 3) := by decide +kernel
theorem dX4_join_48 : decode cX4_join 48 = .ok (.aload_n 0, 1) := by decide +kernel
theorem dX4_join_49 : decode cX4_join 49 = .ok (.iload_n 2, 1) := by decide +kernel
theorem dX4_join_50 : decode cX4_join 50 = .ok (.invokevirtual 72, 3) := by decide +kernel
theorem dX4_join_53 : decode cX4_join 53 = .ok (.aload_n 0, 1) := by decide +kernel
theorem dX4_join_54 : decode cX4_join 54 = .ok (.iload_n 3, 1) := by decide +kernel
theorem dX4_join_55 : decode cX4_join 55 = .ok (.invokevirtual 72, 3) := by decide +kernel
theorem dX4_join_58 : decode cX4_join 58 = .ok (.iadd, 1) := by decide +kernel
theorem dX4_join_59 : decode cX4_join 59 = .ok (.ifCond .le 7, 3) := by decide +kernel
theorem dX4_join_62 : decode cX4_join 62 = .ok (.iconst 5, 1) := by decide +kernel
theorem dX4_join_63 : decode cX4_join 63 = .ok (.goto 4, 3) := by decide +kernel
theorem dX4_join_66 : decode cX4_join 66 = .ok (.iconst 0, 1) := by decide +kernel
theorem dX4_join_67 : decode cX4_join 67 = .ok (.istore 4, 2) := by decide +kernel
theorem dX4_join_69 : decode cX4_join 69 = .ok (.iload 4, 2) := by decide +kernel
theorem dX4_join_71 : decode cX4_join 71 = .ok (.ifCond .ne 22, 3) := by decide +kernel
theorem dX4_join_74 : decode cX4_join 74 = .ok (.aload_n 0, 1) := by decide +kernel
theorem dX4_join_75 : decode cX4_join 75 = .ok (.iload_n 2, 1) := by decide +kernel
theorem dX4_join_76 : decode cX4_join 76 = .ok (.invokevirtual 75, 3) := by decide +kernel
theorem dX4_join_79 : decode cX4_join 79 = .ok (.aload_n 0, 1) := by decide +kernel
theorem dX4_join_80 : decode cX4_join 80 = .ok (.iload_n 3, 1) := by decide +kernel
theorem dX4_join_81 : decode cX4_join 81 = .ok (.invokevirtual 75, 3) := by decide +kernel
theorem dX4_join_84 : decode cX4_join 84 = .ok (.iadd, 1) := by decide +kernel
theorem dX4_join_85 : decode cX4_join 85 = .ok (.bipush 40, 2) := by decide +kernel
theorem dX4_join_87 : decode cX4_join 87 = .ok (.if_icmp .le 6, 3) := by decide +kernel
theorem dX4_join_90 : decode cX4_join 90 = .ok (.iconst 3, 1) := by decide +kernel
theorem dX4_join_91 : decode cX4_join 91 = .ok (.istore 4, 2) := by decide +kernel
theorem dX4_join_93 : decode cX4_join 93 = .ok (.iload 4, 2) := by decide +kernel
theorem dX4_join_95 : decode cX4_join 95 = .ok (.ifCond .ne 11, 3) := by decide +kernel
theorem dX4_join_98 : decode cX4_join 98 = .ok (.aload_n 0, 1) := by decide +kernel
theorem dX4_join_99 : decode cX4_join 99 = .ok (.iload_n 3, 1) := by decide +kernel
theorem dX4_join_100 : decode cX4_join 100 = .ok (.iload_n 2, 1) := by decide +kernel
theorem dX4_join_101 : decode cX4_join 101 = .ok (.invokevirtual 99, 3) := by decide +kernel
theorem dX4_join_104 : decode cX4_join 104 = .ok (.istore 4, 2) := by decide +kernel
theorem dX4_join_106 : decode cX4_join 106 = .ok (.aload_n 0, 1) := by decide +kernel
theorem dX4_join_107 : decode cX4_join 107 = .ok (.getfield 7, 3) := by decide +kernel
theorem dX4_join_110 : decode cX4_join 110 = .ok (.iload_n 2, 1) := by decide +kernel
theorem dX4_join_111 : decode cX4_join 111 = .ok (.iaload, 1) := by decide +kernel
theorem dX4_join_112 : decode cX4_join 112 = .ok (.istore 5, 2) := by decide +kernel
theorem dX4_join_114 : decode cX4_join 114 = .ok (.aload_n 0, 1) := by decide +kernel
theorem dX4_join_115 : decode cX4_join 115 = .ok (.getfield 7, 3) := by decide +kernel
theorem dX4_join_118 : decode cX4_join 118 = .ok (.iload_n 3, 1) := by decide +kernel
theorem dX4_join_119 : decode cX4_join 119 = .ok (.iaload, 1) := by decide +kernel
theorem dX4_join_120 : decode cX4_join 120 = .ok (.istore 6, 2) := by decide +kernel
theorem dX4_join_122 : decode cX4_join 122 = .ok (.iconst 0, 1) := by decide +kernel
theorem dX4_join_123 : decode cX4_join 123 = .ok (.istore 7, 2) := by decide +kernel
theorem dX4_join_125 : decode cX4_join 125 = .ok (.iload 4, 2) := by decide +kernel
theorem dX4_join_127 : decode cX4_join 127 = .ok (.ifCond .ne 68, 3) := by decide +kernel
theorem dX4_join_130 : decode cX4_join 130 = .ok (.iload 7, 2) := by decide +kernel
theorem dX4_join_132 : decode cX4_join 132 = .ok (.aload_n 0, 1) := by decide +kernel
theorem dX4_join_133 : decode cX4_join 133 = .ok (.getfield 16, 3) := by decide +kernel
theorem dX4_join_136 : decode cX4_join 136 = .ok (.iload 6, 2) := by decide +kernel
theorem dX4_join_138 : decode cX4_join 138 = .ok (.iaload, 1) := by decide +kernel
theorem dX4_join_139 : decode cX4_join 139 = .ok (.if_icmp .ge 56, 3) := by decide +kernel
theorem dX4_join_142 : decode cX4_join 142 = .ok (.aload_n 0, 1) := by decide +kernel
theorem dX4_join_143 : decode cX4_join 143 = .ok (.getfield 13, 3) := by decide +kernel
theorem dX4_join_146 : decode cX4_join 146 = .ok (.iload 6, 2) := by decide +kernel
theorem dX4_join_148 : decode cX4_join 148 = .ok (.iaload, 1) := by decide +kernel
theorem dX4_join_149 : decode cX4_join 149 = .ok (.iconst 2, 1) := by decide +kernel
theorem dX4_join_150 : decode cX4_join 150 = .ok (.if_icmp .lt 36, 3) := by decide +kernel
theorem dX4_join_153 : decode cX4_join 153 = .ok (.aload_n 0, 1) := by decide +kernel
theorem dX4_join_154 : decode cX4_join 154 = .ok (.aload_n 0, 1) := by decide +kernel
theorem dX4_join_155 : decode cX4_join 155 = .ok (.getfield 13, 3) := by decide +kernel
theorem dX4_join_158 : decode cX4_join 158 = .ok (.iload 6, 2) := by decide +kernel
theorem dX4_join_160 : decode cX4_join 160 = .ok (.iaload, 1) := by decide +kernel
theorem dX4_join_161 : decode cX4_join 161 = .ok (.aload_n 0, 1) := by decide +kernel
theorem dX4_join_162 : decode cX4_join 162 = .ok (.iload 6, 2) := by decide +kernel
theorem dX4_join_164 : decode cX4_join 164 = .ok (.iload 7, 2) := by decide +kernel
theorem dX4_join_166 : decode cX4_join 166 = .ok (.invokevirtual 82, 3) := by decide +kernel
theorem dX4_join_169 : decode cX4_join 169 = .ok (.aload_n 0, 1) := by decide +kernel
theorem dX4_join_170 : decode cX4_join 170 = .ok (.getfield 13, 3) := by decide +kernel
theorem dX4_join_173 : decode cX4_join 173 = .ok (.iload 5, 2) := by decide +kernel
theorem dX4_join_175 : decode cX4_join 175 = .ok (.iaload, 1) := by decide +kernel
theorem dX4_join_176 : decode cX4_join 176 = .ok (.invokevirtual 102, 3) := by decide +kernel
theorem dX4_join_179 : decode cX4_join 179 = .ok (.ifCond .ne 7, 3) := by decide +kernel
theorem dX4_join_182 : decode cX4_join 182 = .ok (.iconst 2, 1) := by decide +kernel
theorem dX4_join_183 : decode cX4_join 183 = .ok (.goto 4, 3) := by decide +kernel
theorem dX4_join_186 : decode cX4_join 186 = .ok (.iconst 0, 1) := by decide +kernel
theorem dX4_join_187 : decode cX4_join 187 = .ok (.istore 4, 2) := by decide +kernel
theorem dX4_join_189 : decode cX4_join 189 = .ok (.iinc 7 1, 3) := by decide +kernel
theorem dX4_join_192 : decode cX4_join 192 = .ok (.goto (-67), 3) := by decide +kernel
theorem dX4_join_195 : decode cX4_join 195 = .ok (.iload 4, 2) := by decide +kernel
theorem dX4_join_197 : decode cX4_join 197 = .ok (.ifCond .eq 10, 3) := by decide +kernel
theorem dX4_join_200 : decode cX4_join 200 = .ok (.aload_n 0, 1) := by decide +kernel
theorem dX4_join_201 : decode cX4_join 201 = .ok (.iload 4, 2) := by decide +kernel
theorem dX4_join_203 : decode cX4_join 203 = .ok (.invokevirtual 55, 3) := by decide +kernel
theorem dX4_join_206 : decode cX4_join 206 = .ok (.ireturn, 1) := by decide +kernel
theorem dX4_join_207 : decode cX4_join 207 = .ok (.aload_n 0, 1) := by decide +kernel
theorem dX4_join_208 : decode cX4_join 208 = .ok (.aload_n 0, 1) := by decide +kernel
theorem dX4_join_209 : decode cX4_join 209 = .ok (.getfield 13, 3) := by decide +kernel
theorem dX4_join_212 : decode cX4_join 212 = .ok (.iload 5, 2) := by decide +kernel
theorem dX4_join_214 : decode cX4_join 214 = .ok (.iaload, 1) := by decide +kernel
theorem dX4_join_215 : decode cX4_join 215 = .ok (.aload_n 0, 1) := by decide +kernel
theorem dX4_join_216 : decode cX4_join 216 = .ok (.getfield 16, 3) := by decide +kernel
theorem dX4_join_219 : decode cX4_join 219 = .ok (.iload 5, 2) := by decide +kernel
theorem dX4_join_221 : decode cX4_join 221 = .ok (.iaload, 1) := by decide +kernel
theorem dX4_join_222 : decode cX4_join 222 = .ok (.aload_n 0, 1) := by decide +kernel
theorem dX4_join_223 : decode cX4_join 223 = .ok (.getfield 16, 3) := by decide +kernel
theorem dX4_join_226 : decode cX4_join 226 = .ok (.iload 6, 2) := by decide +kernel
theorem dX4_join_228 : decode cX4_join 228 = .ok (.iaload, 1) := by decide +kernel
theorem dX4_join_229 : decode cX4_join 229 = .ok (.iadd, 1) := by decide +kernel
theorem dX4_join_230 : decode cX4_join 230 = .ok (.invokevirtual 59, 3) := by decide +kernel
theorem dX4_join_233 : decode cX4_join 233 = .ok (.istore 7, 2) := by decide +kernel
theorem dX4_join_235 : decode cX4_join 235 = .ok (.iconst 0, 1) := by decide +kernel
theorem dX4_join_236 : decode cX4_join 236 = .ok (.istore 8, 2) := by decide +kernel
theorem dX4_join_238 : decode cX4_join 238 = .ok (.iload 8, 2) := by decide +kernel
theorem dX4_join_240 : decode cX4_join 240 = .ok (.aload_n 0, 1) := by decide +kernel
theorem dX4_join_241 : decode cX4_join 241 = .ok (.getfield 16, 3) := by decide +kernel
theorem dX4_join_244 : decode cX4_join 244 = .ok (.iload 5, 2) := by decide +kernel
theorem dX4_join_246 : decode cX4_join 246 = .ok (.iaload, 1) := by decide +kernel
theorem dX4_join_247 : decode cX4_join 247 = .ok (.if_icmp .ge 25, 3) := by decide +kernel
theorem dX4_join_250 : decode cX4_join 250 = .ok (.aload_n 0, 1) := by decide +kernel
theorem dX4_join_251 : decode cX4_join 251 = .ok (.iload 7, 2) := by decide +kernel
theorem dX4_join_253 : decode cX4_join 253 = .ok (.iload 8, 2) := by decide +kernel
theorem dX4_join_255 : decode cX4_join 255 = .ok (.aload_n 0, 1) := by decide +kernel
theorem dX4_join_256 : decode cX4_join 256 = .ok (.iload 5, 2) := by decide +kernel
theorem dX4_join_258 : decode cX4_join 258 = .ok (.iload 8, 2) := by decide +kernel
theorem dX4_join_260 : decode cX4_join 260 = .ok (.invokevirtual 82, 3) := by decide +kernel
theorem dX4_join_263 : decode cX4_join 263 = .ok (.invokevirtual 44, 3) := by decide +kernel
theorem dX4_join_266 : decode cX4_join 266 = .ok (.iinc 8 1, 3) := by decide +kernel
theorem dX4_join_269 : decode cX4_join 269 = .ok (.goto (-31), 3) := by decide +kernel
theorem dX4_join_272 : decode cX4_join 272 = .ok (.iconst 0, 1) := by decide +kernel
theorem dX4_join_273 : decode cX4_join 273 = .ok (.istore 8, 2) := by decide +kernel
theorem dX4_join_275 : decode cX4_join 275 = .ok (.iload 8, 2) := by decide +kernel
theorem dX4_join_277 : decode cX4_join 277 = .ok (.aload_n 0, 1) := by decide +kernel
theorem dX4_join_278 : decode cX4_join 278 = .ok (.getfield 16, 3) := by decide +kernel
theorem dX4_join_281 : decode cX4_join 281 = .ok (.iload 6, 2) := by decide +kernel
theorem dX4_join_283 : decode cX4_join 283 = .ok (.iaload, 1) := by decide +kernel
theorem dX4_join_284 : decode cX4_join 284 = .ok (.if_icmp .ge 33, 3) := by decide +kernel
theorem dX4_join_287 : decode cX4_join 287 = .ok (.aload_n 0, 1) := by decide +kernel
theorem dX4_join_288 : decode cX4_join 288 = .ok (.iload 7, 2) := by decide +kernel
theorem dX4_join_290 : decode cX4_join 290 = .ok (.aload_n 0, 1) := by decide +kernel
theorem dX4_join_291 : decode cX4_join 291 = .ok (.getfield 16, 3) := by decide +kernel
theorem dX4_join_294 : decode cX4_join 294 = .ok (.iload 5, 2) := by decide +kernel
theorem dX4_join_296 : decode cX4_join 296 = .ok (.iaload, 1) := by decide +kernel
theorem dX4_join_297 : decode cX4_join 297 = .ok (.iload 8, 2) := by decide +kernel
theorem dX4_join_299 : decode cX4_join 299 = .ok (.iadd, 1) := by decide +kernel
theorem dX4_join_300 : decode cX4_join 300 = .ok (.aload_n 0, 1) := by decide +kernel
theorem dX4_join_301 : decode cX4_join 301 = .ok (.iload 6, 2) := by decide +kernel
theorem dX4_join_303 : decode cX4_join 303 = .ok (.iload 8, 2) := by decide +kernel
theorem dX4_join_305 : decode cX4_join 305 = .ok (.invokevirtual 82, 3) := by decide +kernel
theorem dX4_join_308 : decode cX4_join 308 = .ok (.invokevirtual 44, 3) := by decide +kernel
theorem dX4_join_311 : decode cX4_join 311 = .ok (.iinc 8 1, 3) := by decide +kernel
theorem dX4_join_314 : decode cX4_join 314 = .ok (.goto (-39), 3) := by decide +kernel
theorem dX4_join_317 : decode cX4_join 317 = .ok (.aload_n 0, 1) := by decide +kernel
theorem dX4_join_318 : decode cX4_join 318 = .ok (.getfield 7, 3) := by decide +kernel
theorem dX4_join_321 : decode cX4_join 321 = .ok (.iload_n 1, 1) := by decide +kernel
theorem dX4_join_322 : decode cX4_join 322 = .ok (.iload 7, 2) := by decide +kernel
theorem dX4_join_324 : decode cX4_join 324 = .ok (.iastore, 1) := by decide +kernel
theorem dX4_join_325 : decode cX4_join 325 = .ok (.aload_n 0, 1) := by decide +kernel
theorem dX4_join_326 : decode cX4_join 326 = .ok (.aload_n 0, 1) := by decide +kernel
theorem dX4_join_327 : decode cX4_join 327 = .ok (.getfield 16, 3) := by decide +kernel
theorem dX4_join_330 : decode cX4_join 330 = .ok (.iload 7, 2) := by decide +kernel
theorem dX4_join_332 : decode cX4_join 332 = .ok (.iaload, 1) := by decide +kernel
theorem dX4_join_333 : decode cX4_join 333 = .ok (.invokevirtual 63, 3) := by decide +kernel
theorem dX4_join_336 : decode cX4_join 336 = .ok (.ireturn, 1) := by decide +kernel
set_option maxRecDepth 20000 in
theorem ggX4_update_X4_isPlace : GoodIn wsX4_update wsX4_isPlace := goodIn_r _ [8, 9, 10, 11, 7, 12] (by decide +kernel) (by decide +kernel)
set_option maxRecDepth 20000 in
theorem gX4_update_X4_isPlace : GoodIn wsX4_update (va_wsS RX4 48 yX4_isPlace wsX4_isPlace) := goodIn_app (goodIn_of _ (by decide +kernel)) ggX4_update_X4_isPlace
set_option maxRecDepth 20000 in
theorem ggX4_update_X4_no : GoodIn wsX4_update wsX4_no := goodIn_r _ [16, 4, 35, 36, 37, 38, 39, 40, 41, 42, 43, 44, 45] (by decide +kernel) (by decide +kernel)
set_option maxRecDepth 20000 in
theorem gX4_update_X4_no : GoodIn wsX4_update (wsV RX4 55 RX4 yX4_no wsX4_no) := goodIn_app (goodIn_of _ (by decide +kernel)) ggX4_update_X4_no
set_option maxRecDepth 20000 in
theorem ggX4_update_X4_kindOf : GoodIn wsX4_update wsX4_kindOf := goodIn_r _ [20, 2, 21, 35, 36, 37, 38, 39, 40, 41, 42, 43, 44, 45] (by decide +kernel) (by decide +kernel)
set_option maxRecDepth 20000 in
theorem gX4_update_X4_kindOf : GoodIn wsX4_update (wsV RX4 66 RX4 yX4_kindOf wsX4_kindOf) := goodIn_app (goodIn_of _ (by decide +kernel)) ggX4_update_X4_kindOf
set_option maxRecDepth 20000 in
theorem ggX4_update_X4_get : GoodIn wsX4_update wsX4_get := goodIn_r _ [25, 26, 35, 36, 37, 38, 39, 40, 41, 42, 43, 44, 45] (by decide +kernel) (by decide +kernel)
set_option maxRecDepth 20000 in
theorem gX4_update_X4_get : GoodIn wsX4_update (wsV RX4 82 RX4 yX4_get wsX4_get) := goodIn_app (goodIn_of _ (by decide +kernel)) ggX4_update_X4_get
set_option maxRecDepth 20000 in
theorem ggX4_update_X4_within : GoodIn wsX4_update wsX4_within := goodIn_r _ [12] (by decide +kernel) (by decide +kernel)
set_option maxRecDepth 20000 in
theorem gX4_update_X4_within : GoodIn wsX4_update (va_wsS RX4 33 yX4_within wsX4_within) := goodIn_app (goodIn_of _ (by decide +kernel)) ggX4_update_X4_within
set_option maxRecDepth 20000 in
theorem ggX4_update_X4_put : GoodIn wsX4_update wsX4_put := goodIn_r _ [30, 26, 35, 36, 37, 38, 39, 40, 41, 42, 43, 44, 45] (by decide +kernel) (by decide +kernel)
set_option maxRecDepth 20000 in
theorem gX4_update_X4_put : GoodIn wsX4_update (wsV RX4 44 RX4 yX4_put wsX4_put) := goodIn_app (goodIn_of _ (by decide +kernel)) ggX4_update_X4_put
set_option maxRecDepth 20000 in
theorem ggX4_update_X4_yes : GoodIn wsX4_update wsX4_yes := goodIn_r _ [34, 4, 35, 36, 37, 38, 39, 40, 41, 42, 43, 44, 45] (by decide +kernel) (by decide +kernel)
set_option maxRecDepth 20000 in
theorem gX4_update_X4_yes : GoodIn wsX4_update (wsV RX4 63 RX4 yX4_yes wsX4_yes) := goodIn_app (goodIn_of _ (by decide +kernel)) ggX4_update_X4_yes
theorem dX4_update_0 : decode cX4_update 0 = .ok (.iload_n 1, 1) := by decide +kernel
theorem dX4_update_1 : decode cX4_update 1 = .ok (.invokestatic 48, 3) := by decide +kernel
theorem dX4_update_4 : decode cX4_update 4 = .ok (.ifCond .eq 17, 3) := by decide +kernel
theorem dX4_update_7 : decode cX4_update 7 = .ok (.iload_n 2, 1) := by decide +kernel
theorem dX4_update_8 : decode cX4_update 8 = .ok (.invokestatic 48, 3) := by decide +kernel
theorem dX4_update_11 : decode cX4_update 11 = .ok (.ifCond .eq 10, 3) := by decide +kernel
theorem dX4_update_14 : decode cX4_update 14 = .ok (.iload_n 3, 1) := by decide +kernel
theorem dX4_update_15 : decode cX4_update 15 = .ok (.invokestatic 48, 3) := by decide +kernel
theorem dX4_update_18 : decode cX4_update 18 = .ok (.ifCond .ne 6, 3) := by decide +kernel
theorem dX4_update_21 : decode cX4_update 21 = .ok (.ldc 54, 2) := by decide +kernel
theorem dX4_update_23 : decode cX4_update 23 = .ok (.ireturn, 1) := by decide +kernel
theorem dX4_update_24 : decode cX4_update 24 = .ok (.aload_n 0, 1) := by decide +kernel
theorem dX4_update_25 : decode cX4_update 25 = .ok (.getfield 7, 3) := by decide +kernel
theorem dX4_update_28 : decode cX4_update 28 = .ok (.iload_n 1, 1) := by decide +kernel
theorem dX4_update_29 : decode cX4_update 29 = .ok (.iaload, 1) := by decide +kernel
theorem dX4_update_30 : decode cX4_update 30 = .ok (.iconst (-1), 1) := by decide +kernel
theorem dX4_update_31 : decode cX4_update 31 = .ok (.if_icmp .eq 23, 3) := by decide +kernel
theorem dX4_update_34 : decode cX4_update 34 = .ok (.aload_n 0, 1) := by decide +kernel
theorem dX4_update_35 : decode cX4_update 35 = .ok (.getfield 7, 3) := by decide +kernel
theorem dX4_update_38 : decode cX4_update 38 = .ok (.iload_n 2, 1) := by decide +kernel
theorem dX4_update_39 : decode cX4_update 39 = .ok (.iaload, 1) := by decide +kernel
theorem dX4_update_40 : decode cX4_update 40 = .ok (.iconst (-1), 1) := by decide +kernel
theorem dX4_update_41 : decode cX4_update 41 = .ok (.if_icmp .eq 13, 3) := by decide +kernel
theorem dX4_update_44 : decode cX4_update 44 = .ok (.aload_n 0, 1) := by decide +kernel
theorem dX4_update_45 : decode cX4_update 45 = .ok (.getfield 7, 3) := by decide +kernel
theorem dX4_update_48 : decode cX4_update 48 = .ok (.iload_n 3, 1) := by decide +kernel
theorem dX4_update_49 : decode cX4_update 49 = .ok (.iaload, 1) := by decide +kernel
theorem dX4_update_50 : decode cX4_update 50 = .ok (.iconst (-1), 1) := by decide +kernel
theorem dX4_update_51 : decode cX4_update 51 = .ok (.if_icmp .ne 9, 3) := by decide +kernel
theorem dX4_update_54 : decode cX4_update 54 = .ok (.aload_n 0, 1) := by decide +kernel
theorem dX4_update_55 : decode cX4_update 55 = .ok (.iconst 1, 1) := by decide +kernel
theorem dX4_update_56 : decode cX4_update 56 = .ok (.invokevirtual 55, 3) := by decide +kernel
theorem dX4_update_59 : decode cX4_update 59 = .ok (.ireturn, 1) := by decide +kernel
theorem dX4_update_60 : decode cX4_update 60 = .ok (.aload_n 0, 1) := by decide +kernel
theorem dX4_update_61 : decode cX4_update 61 = .ok (.iload_n 1, 1) := by decide +kernel
theorem dX4_update_62 : decode cX4_update 62 = .ok (.invokevirtual 66, 3) := by decide +kernel
theorem dX4_update_65 : decode cX4_update 65 = .ok (.iconst 1, 1) := by decide +kernel
theorem dX4_update_66 : decode cX4_update 66 = .ok (.if_icmp .ne 21, 3) := by decide +kernel
theorem dX4_update_69 : decode cX4_update 69 = .ok (.aload_n 0, 1) := by decide +kernel
theorem dX4_update_70 : decode cX4_update 70 = .ok (.iload_n 2, 1) := by decide +kernel
theorem dX4_update_71 : decode cX4_update 71 = .ok (.invokevirtual 66, 3) := by decide +kernel
theorem dX4_update_74 : decode cX4_update 74 = .ok (.iconst 1, 1) := by decide +kernel
theorem dX4_update_75 : decode cX4_update 75 = .ok (.if_icmp .ne 12, 3) := by decide +kernel
theorem dX4_update_78 : decode cX4_update 78 = .ok (.aload_n 0, 1) := by decide +kernel
theorem dX4_update_79 : decode cX4_update 79 = .ok (.iload_n 3, 1) := by decide +kernel
theorem dX4_update_80 : decode cX4_update 80 = .ok (.invokevirtual 66, 3) := by decide +kernel
theorem dX4_update_83 : decode cX4_update 83 = .ok (.iconst 1, 1) := by decide +kernel
theorem dX4_update_84 : decode cX4_update 84 = .ok (.if_icmp .eq 9, 3) := by decide +kernel
theorem dX4_update_87 : decode cX4_update 87 = .ok (.aload_n 0, 1) := by decide +kernel
theorem dX4_update_88 : decode cX4_update 88 = .ok (.iconst 5, 1) := by decide +kernel
theorem dX4_update_89 : decode cX4_update 89 = .ok (.invokevirtual 55, 3) := by decide +kernel
theorem dX4_update_92 : decode cX4_update 92 = .ok (.ireturn, 1) := by decide +kernel
theorem dX4_update_93 : decode cX4_update 93 = .ok (.aload_n 0, 1) := by decide +kernel
theorem dX4_update_94 : decode cX4_update 94 = .ok (.getfield 7, 3) := by decide +kernel
theorem dX4_update_97 : decode cX4_update 97 = .ok (.iload_n 1, 1) := by decide +kernel
theorem dX4_update_98 : decode cX4_update 98 = .ok (.iaload, 1) := by decide +kernel
theorem dX4_update_99 : decode cX4_update 99 = .ok (.istore 4, 2) := by decide +kernel
theorem dX4_update_101 : decode cX4_update 101 = .ok (.aload_n 0, 1) := by decide +kernel
theorem dX4_update_102 : decode cX4_update 102 = .ok (.getfield 7, 3) := by decide +kernel
theorem dX4_update_105 : decode cX4_update 105 = .ok (.iload_n 2, 1) := by decide +kernel
theorem dX4_update_106 : decode cX4_update 106 = .ok (.iaload, 1) := by decide +kernel
theorem dX4_update_107 : decode cX4_update 107 = .ok (.istore 5, 2) := by decide +kernel
theorem dX4_update_109 : decode cX4_update 109 = .ok (.aload_n 0, 1) := by decide +kernel
theorem dX4_update_110 : decode cX4_update 110 = .ok (.getfield 7, 3) := by decide +kernel
theorem dX4_update_113 : decode cX4_update 113 = .ok (.iload_n 3, 1) := by decide +kernel
theorem dX4_update_114 : decode cX4_update 114 = .ok (.iaload, 1) := by decide +kernel
theorem dX4_update_115 : decode cX4_update 115 = .ok (.istore 6, 2) := by decide +kernel
theorem dX4_update_117 : decode cX4_update 117 = .ok (.iconst 0, 1) := by decide +kernel
theorem dX4_update_118 : decode cX4_update 118 = .ok (.istore 7, 2) := by decide +kernel
theorem dX4_update_120 : decode cX4_update 120 = .ok (.iload 7, 2) := by decide +kernel
theorem dX4_update_122 : decode cX4_update 122 = .ok (.aload_n 0, 1) := by decide +kernel
theorem dX4_update_123 : decode cX4_update 123 = .ok (.getfield 16, 3) := by decide +kernel
theorem dX4_update_126 : decode cX4_update 126 = .ok (.iload 5, 2) := by decide +kernel
theorem dX4_update_128 : decode cX4_update 128 = .ok (.iaload, 1) := by decide +kernel
theorem dX4_update_129 : decode cX4_update 129 = .ok (.if_icmp .ge 83, 3) := by decide +kernel
theorem dX4_update_132 : decode cX4_update 132 = .ok (.aload_n 0, 1) := by decide +kernel
theorem dX4_update_133 : decode cX4_update 133 = .ok (.iload 5, 2) := by decide +kernel
theorem dX4_update_135 : decode cX4_update 135 = .ok (.iload 7, 2) := by decide +kernel
theorem dX4_update_137 : decode cX4_update 137 = .ok (.invokevirtual 82, 3) := by decide +kernel
theorem dX4_update_140 : decode cX4_update 140 = .ok (.istore 8, 2) := by decide +kernel
theorem dX4_update_142 : decode cX4_update 142 = .ok (.iload 8, 2) := by decide +kernel
theorem dX4_update_144 : decode cX4_update 144 = .ok (.i2l, 1) := by decide +kernel
theorem dX4_update_145 : decode cX4_update 145 = .ok (.lconst 0, 1) := by decide +kernel
theorem dX4_update_146 : decode cX4_update 146 = .ok (.aload_n 0, 1) := by decide +kernel
theorem dX4_update_147 : decode cX4_update 147 = .ok (.getfield 16, 3) := by decide +kernel
theorem dX4_update_150 : decode cX4_update 150 = .ok (.iload 6, 2) := by decide +kernel
theorem dX4_update_152 : decode cX4_update 152 = .ok (.iaload, 1) := by decide +kernel
theorem dX4_update_153 : decode cX4_update 153 = .ok (.iconst 1, 1) := by decide +kernel
theorem dX4_update_154 : decode cX4_update 154 = .ok (.isub, 1) := by decide +kernel
theorem dX4_update_155 : decode cX4_update 155 = .ok (.i2l, 1) := by decide +kernel
theorem dX4_update_156 : decode cX4_update 156 = .ok (.invokestatic 33, 3) := by decide +kernel
theorem dX4_update_159 : decode cX4_update 159 = .ok (.ifCond .eq 23, 3) := by decide +kernel
theorem dX4_update_162 : decode cX4_update 162 = .ok (.iload 8, 2) := by decide +kernel
theorem dX4_update_164 : decode cX4_update 164 = .ok (.i2l, 1) := by decide +kernel
theorem dX4_update_165 : decode cX4_update 165 = .ok (.lconst 0, 1) := by decide +kernel
theorem dX4_update_166 : decode cX4_update 166 = .ok (.aload_n 0, 1) := by decide +kernel
theorem dX4_update_167 : decode cX4_update 167 = .ok (.getfield 16, 3) := by decide +kernel
theorem dX4_update_170 : decode cX4_update 170 = .ok (.iload 4, 2) := by decide +kernel
theorem dX4_update_172 : decode cX4_update 172 = .ok (.iaload, 1) := by decide +kernel
theorem dX4_update_173 : decode cX4_update 173 = .ok (.iconst 1, 1) := by decide +kernel
theorem dX4_update_174 : decode cX4_update 174 = .ok (.isub, 1) := by decide +kernel
theorem dX4_update_175 : decode cX4_update 175 = .ok (.i2l, 1) := by decide +kernel
theorem dX4_update_176 : decode cX4_update 176 = .ok (.invokestatic 33, 3) := by decide +kernel
theorem dX4_update_179 : decode cX4_update 179 = .ok (.ifCond .ne 11, 3) := by decide +kernel
theorem dX4_update_182 : decode cX4_update 182 = .ok (.aload_n 0, 1) := by decide +kernel
theorem dX4_update_183 : decode cX4_update 183 = .ok (.iconst 3, 1) := by decide +kernel
theorem dX4_update_184 : decode cX4_update 184 = .ok (.putfield 37, 3) := by decide +kernel
theorem dX4_update_187 : decode cX4_update 187 = .ok (.iload 7, 2) := by decide +kernel
theorem dX4_update_189 : decode cX4_update 189 = .ok (.ireturn, 1) := by decide +kernel
theorem dX4_update_190 : decode cX4_update 190 = .ok (.aload_n 0, 1) := by decide +kernel
theorem dX4_update_191 : decode cX4_update 191 = .ok (.iload 4, 2) := by decide +kernel
theorem dX4_update_193 : decode cX4_update 193 = .ok (.iload 8, 2) := by decide +kernel
theorem dX4_update_195 : decode cX4_update 195 = .ok (.aload_n 0, 1) := by decide +kernel
theorem dX4_update_196 : decode cX4_update 196 = .ok (.iload 6, 2) := by decide +kernel
theorem dX4_update_198 : decode cX4_update 198 = .ok (.iload 8, 2) := by decide +kernel
theorem dX4_update_200 : decode cX4_update 200 = .ok (.invokevirtual 82, 3) := by decide +kernel
theorem dX4_update_203 : decode cX4_update 203 = .ok (.invokevirtual 44, 3) := by decide +kernel
theorem dX4_update_206 : decode cX4_update 206 = .ok (.iinc 7 1, 3) := by decide +kernel
theorem dX4_update_209 : decode cX4_update 209 = .ok (.goto (-89), 3) := by decide +kernel
theorem dX4_update_212 : decode cX4_update 212 = .ok (.aload_n 0, 1) := by decide +kernel
theorem dX4_update_213 : decode cX4_update 213 = .ok (.aload_n 0, 1) := by decide +kernel
theorem dX4_update_214 : decode cX4_update 214 = .ok (.getfield 16, 3) := by decide +kernel
theorem dX4_update_217 : decode cX4_update 217 = .ok (.iload 5, 2) := by decide +kernel
theorem dX4_update_219 : decode cX4_update 219 = .ok (.iaload, 1) := by decide +kernel
theorem dX4_update_220 : decode cX4_update 220 = .ok (.invokevirtual 63, 3) := by decide +kernel
theorem dX4_update_223 : decode cX4_update 223 = .ok (.ireturn, 1) := by decide +kernel
set_option maxRecDepth 20000 in
theorem ggX4_rotate_X4_isPlace : GoodIn wsX4_rotate wsX4_isPlace := goodIn_r _ [8, 9, 10, 11, 7, 12] (by decide +kernel) (by decide +kernel)
set_option maxRecDepth 20000 in
theorem gX4_rotate_X4_isPlace : GoodIn wsX4_rotate (va_wsS RX4 48 yX4_isPlace wsX4_isPlace) := goodIn_app (goodIn_of _ (by decide +kernel)) ggX4_rotate_X4_isPlace
set_option maxRecDepth 20000 in
theorem ggX4_rotate_X4_wantsRow : GoodIn wsX4_rotate wsX4_wantsRow := goodIn_r _ [16, 2, 39, 40, 41, 42, 43, 44, 45, 46, 47, 48, 49] (by decide +kernel) (by decide +kernel)
set_option maxRecDepth 20000 in
theorem gX4_rotate_X4_wantsRow : GoodIn wsX4_rotate (wsV RX4 72 RX4 yX4_wantsRow wsX4_wantsRow) := goodIn_app (goodIn_of _ (by decide +kernel)) ggX4_rotate_X4_wantsRow
set_option maxRecDepth 20000 in
theorem ggX4_rotate_X4_lengthOf : GoodIn wsX4_rotate wsX4_lengthOf := goodIn_r _ [20, 3, 2, 39, 40, 41, 42, 43, 44, 45, 46, 47, 48, 49] (by decide +kernel) (by decide +kernel)
set_option maxRecDepth 20000 in
theorem gX4_rotate_X4_lengthOf : GoodIn wsX4_rotate (wsV RX4 75 RX4 yX4_lengthOf wsX4_lengthOf) := goodIn_app (goodIn_of _ (by decide +kernel)) ggX4_rotate_X4_lengthOf
set_option maxRecDepth 20000 in
theorem ggX4_rotate_X4_no : GoodIn wsX4_rotate wsX4_no := goodIn_r _ [24, 25, 39, 40, 41, 42, 43, 44, 45, 46, 47, 48, 49] (by decide +kernel) (by decide +kernel)
set_option maxRecDepth 20000 in
theorem gX4_rotate_X4_no : GoodIn wsX4_rotate (wsV RX4 55 RX4 yX4_no wsX4_no) := goodIn_app (goodIn_of _ (by decide +kernel)) ggX4_rotate_X4_no
set_option maxRecDepth 20000 in
theorem ggX4_rotate_X4_get : GoodIn wsX4_rotate wsX4_get := goodIn_r _ [29, 30, 39, 40, 41, 42, 43, 44, 45, 46, 47, 48, 49] (by decide +kernel) (by decide +kernel)
set_option maxRecDepth 20000 in
theorem gX4_rotate_X4_get : GoodIn wsX4_rotate (wsV RX4 82 RX4 yX4_get wsX4_get) := goodIn_app (goodIn_of _ (by decide +kernel)) ggX4_rotate_X4_get
set_option maxRecDepth 20000 in
theorem ggX4_rotate_X4_put : GoodIn wsX4_rotate wsX4_put := goodIn_r _ [34, 30, 39, 40, 41, 42, 43, 44, 45, 46, 47, 48, 49] (by decide +kernel) (by decide +kernel)
set_option maxRecDepth 20000 in
theorem gX4_rotate_X4_put : GoodIn wsX4_rotate (wsV RX4 44 RX4 yX4_put wsX4_put) := goodIn_app (goodIn_of _ (by decide +kernel)) ggX4_rotate_X4_put
set_option maxRecDepth 20000 in
theorem ggX4_rotate_X4_yes : GoodIn wsX4_rotate wsX4_yes := goodIn_r _ [38, 25, 39, 40, 41, 42, 43, 44, 45, 46, 47, 48, 49] (by decide +kernel) (by decide +kernel)
set_option maxRecDepth 20000 in
theorem gX4_rotate_X4_yes : GoodIn wsX4_rotate (wsV RX4 63 RX4 yX4_yes wsX4_yes) := goodIn_app (goodIn_of _ (by decide +kernel)) ggX4_rotate_X4_yes
theorem dX4_rotate_0 : decode cX4_rotate 0 = .ok (.iload_n 1, 1) := by decide +kernel
theorem dX4_rotate_1 : decode cX4_rotate 1 = .ok (.invokestatic 48, 3) := by decide +kernel
theorem dX4_rotate_4 : decode cX4_rotate 4 = .ok (.ifCond .ne 6, 3) := by decide +kernel
theorem dX4_rotate_7 : decode cX4_rotate 7 = .ok (.ldc 54, 2) := by decide +kernel
theorem dX4_rotate_9 : decode cX4_rotate 9 = .ok (.ireturn, 1) := by decide +kernel
theorem dX4_rotate_10 : decode cX4_rotate 10 = .ok (.aload_n 0, 1) := by decide +kernel
theorem dX4_rotate_11 : decode cX4_rotate 11 = .ok (.iload_n 1, 1) := by decide +kernel
theorem dX4_rotate_12 : decode cX4_rotate 12 = .ok (.invokevirtual 72, 3) := by decide +kernel
theorem dX4_rotate_15 : decode cX4_rotate 15 = .ok (.istore_n 3, 1) := by decide +kernel
theorem dX4_rotate_16 : decode cX4_rotate 16 = .ok (.iload_n 3, 1) := by decide +kernel
theorem dX4_rotate_17 : decode cX4_rotate 17 = .ok (.ifCond .ne 14, 3) := by decide +kernel
theorem dX4_rotate_20 : decode cX4_rotate 20 = .ok (.aload_n 0, 1) := by decide +kernel
theorem dX4_rotate_21 : decode cX4_rotate 21 = .ok (.iload_n 1, 1) := by decide +kernel
theorem dX4_rotate_22 : decode cX4_rotate 22 = .ok (.invokevirtual 75, 3) := by decide +kernel
theorem dX4_rotate_25 : decode cX4_rotate 25 = .ok (.ifCond .ne 6, 3) := by decide +kernel
theorem dX4_rotate_28 : decode cX4_rotate 28 = .ok (.bipush 6, 2) := by decide +kernel
theorem dX4_rotate_30 : decode cX4_rotate 30 = .ok (.istore_n 3, 1) := by decide +kernel
theorem dX4_rotate_31 : decode cX4_rotate 31 = .ok (.iload_n 3, 1) := by decide +kernel
theorem dX4_rotate_32 : decode cX4_rotate 32 = .ok (.ifCond .eq 9, 3) := by decide +kernel
theorem dX4_rotate_35 : decode cX4_rotate 35 = .ok (.aload_n 0, 1) := by decide +kernel
theorem dX4_rotate_36 : decode cX4_rotate 36 = .ok (.iload_n 3, 1) := by decide +kernel
theorem dX4_rotate_37 : decode cX4_rotate 37 = .ok (.invokevirtual 55, 3) := by decide +kernel
theorem dX4_rotate_40 : decode cX4_rotate 40 = .ok (.ireturn, 1) := by decide +kernel
theorem dX4_rotate_41 : decode cX4_rotate 41 = .ok (.aload_n 0, 1) := by decide +kernel
theorem dX4_rotate_42 : decode cX4_rotate 42 = .ok (.getfield 7, 3) := by decide +kernel
theorem dX4_rotate_45 : decode cX4_rotate 45 = .ok (.iload_n 1, 1) := by decide +kernel
theorem dX4_rotate_46 : decode cX4_rotate 46 = .ok (.iaload, 1) := by decide +kernel
theorem dX4_rotate_47 : decode cX4_rotate 47 = .ok (.istore 4, 2) := by decide +kernel
theorem dX4_rotate_49 : decode cX4_rotate 49 = .ok (.aload_n 0, 1) := by decide +kernel
theorem dX4_rotate_50 : decode cX4_rotate 50 = .ok (.getfield 16, 3) := by decide +kernel
theorem dX4_rotate_53 : decode cX4_rotate 53 = .ok (.iload 4, 2) := by decide +kernel
theorem dX4_rotate_55 : decode cX4_rotate 55 = .ok (.iaload, 1) := by decide +kernel
theorem dX4_rotate_56 : decode cX4_rotate 56 = .ok (.istore 5, 2) := by decide +kernel
theorem dX4_rotate_58 : decode cX4_rotate 58 = .ok (.iload_n 2, 1) := by decide +kernel
theorem dX4_rotate_59 : decode cX4_rotate 59 = .ok (.iload 5, 2) := by decide +kernel
theorem dX4_rotate_61 : decode cX4_rotate 61 = .ok (.irem, 1) := by decide +kernel
theorem dX4_rotate_62 : decode cX4_rotate 62 = .ok (.istore 6, 2) := by decide +kernel
theorem dX4_rotate_64 : decode cX4_rotate 64 = .ok (.iload 6, 2) := by decide +kernel
theorem dX4_rotate_66 : decode cX4_rotate 66 = .ok (.ifCond .ge 11, 3) := by decide +kernel
theorem dX4_rotate_69 : decode cX4_rotate 69 = .ok (.iload 6, 2) := by decide +kernel
theorem dX4_rotate_71 : decode cX4_rotate 71 = .ok (.iload 5, 2) := by decide +kernel
theorem dX4_rotate_73 : decode cX4_rotate 73 = .ok (.iadd, 1) := by decide +kernel
theorem dX4_rotate_74 : decode cX4_rotate 74 = .ok (.goto 5, 3) := by decide +kernel
theorem dX4_rotate_77 : decode cX4_rotate 77 = .ok (.iload 6, 2) := by decide +kernel
theorem dX4_rotate_79 : decode cX4_rotate 79 = .ok (.istore 6, 2) := by decide +kernel
theorem dX4_rotate_81 : decode cX4_rotate 81 = .ok (.iconst 0, 1) := by decide +kernel
theorem dX4_rotate_82 : decode cX4_rotate 82 = .ok (.istore 7, 2) := by decide +kernel
theorem dX4_rotate_84 : decode cX4_rotate 84 = .ok (.iload 7, 2) := by decide +kernel
theorem dX4_rotate_86 : decode cX4_rotate 86 = .ok (.iload 5, 2) := by decide +kernel
theorem dX4_rotate_88 : decode cX4_rotate 88 = .ok (.if_icmp .ge 30, 3) := by decide +kernel
theorem dX4_rotate_91 : decode cX4_rotate 91 = .ok (.aload_n 0, 1) := by decide +kernel
theorem dX4_rotate_92 : decode cX4_rotate 92 = .ok (.getfield 28, 3) := by decide +kernel
theorem dX4_rotate_95 : decode cX4_rotate 95 = .ok (.iload 7, 2) := by decide +kernel
theorem dX4_rotate_97 : decode cX4_rotate 97 = .ok (.iload 6, 2) := by decide +kernel
theorem dX4_rotate_99 : decode cX4_rotate 99 = .ok (.iadd, 1) := by decide +kernel
theorem dX4_rotate_100 : decode cX4_rotate 100 = .ok (.iload 5, 2) := by decide +kernel
theorem dX4_rotate_102 : decode cX4_rotate 102 = .ok (.irem, 1) := by decide +kernel
theorem dX4_rotate_103 : decode cX4_rotate 103 = .ok (.aload_n 0, 1) := by decide +kernel
theorem dX4_rotate_104 : decode cX4_rotate 104 = .ok (.iload 4, 2) := by decide +kernel
theorem dX4_rotate_106 : decode cX4_rotate 106 = .ok (.iload 7, 2) := by decide +kernel
theorem dX4_rotate_108 : decode cX4_rotate 108 = .ok (.invokevirtual 82, 3) := by decide +kernel
theorem dX4_rotate_111 : decode cX4_rotate 111 = .ok (.iastore, 1) := by decide +kernel
theorem dX4_rotate_112 : decode cX4_rotate 112 = .ok (.iinc 7 1, 3) := by decide +kernel
theorem dX4_rotate_115 : decode cX4_rotate 115 = .ok (.goto (-31), 3) := by decide +kernel
theorem dX4_rotate_118 : decode cX4_rotate 118 = .ok (.iconst 0, 1) := by decide +kernel
theorem dX4_rotate_119 : decode cX4_rotate 119 = .ok (.istore 7, 2) := by decide +kernel
theorem dX4_rotate_121 : decode cX4_rotate 121 = .ok (.iload 7, 2) := by decide +kernel
theorem dX4_rotate_123 : decode cX4_rotate 123 = .ok (.iload 5, 2) := by decide +kernel
theorem dX4_rotate_125 : decode cX4_rotate 125 = .ok (.if_icmp .ge 24, 3) := by decide +kernel
theorem dX4_rotate_128 : decode cX4_rotate 128 = .ok (.aload_n 0, 1) := by decide +kernel
theorem dX4_rotate_129 : decode cX4_rotate 129 = .ok (.iload 4, 2) := by decide +kernel
theorem dX4_rotate_131 : decode cX4_rotate 131 = .ok (.iload 7, 2) := by decide +kernel
theorem dX4_rotate_133 : decode cX4_rotate 133 = .ok (.aload_n 0, 1) := by decide +kernel
theorem dX4_rotate_134 : decode cX4_rotate 134 = .ok (.getfield 28, 3) := by decide +kernel
theorem dX4_rotate_137 : decode cX4_rotate 137 = .ok (.iload 7, 2) := by decide +kernel
theorem dX4_rotate_139 : decode cX4_rotate 139 = .ok (.iaload, 1) := by decide +kernel
theorem dX4_rotate_140 : decode cX4_rotate 140 = .ok (.invokevirtual 44, 3) := by decide +kernel
theorem dX4_rotate_143 : decode cX4_rotate 143 = .ok (.iinc 7 1, 3) := by decide +kernel
theorem dX4_rotate_146 : decode cX4_rotate 146 = .ok (.goto (-25), 3) := by decide +kernel
theorem dX4_rotate_149 : decode cX4_rotate 149 = .ok (.aload_n 0, 1) := by decide +kernel
theorem dX4_rotate_150 : decode cX4_rotate 150 = .ok (.iload 6, 2) := by decide +kernel
theorem dX4_rotate_152 : decode cX4_rotate 152 = .ok (.invokevirtual 63, 3) := by decide +kernel
theorem dX4_rotate_155 : decode cX4_rotate 155 = .ok (.ireturn, 1) := by decide +kernel
set_option maxRecDepth 20000 in
theorem ggX4_sumOf_X4_get : GoodIn wsX4_sumOf wsX4_get := goodIn_r _ [6, 7, 8, 9, 10, 11, 12, 13, 14, 15, 16, 17, 18] (by decide +kernel) (by decide +kernel)
set_option maxRecDepth 20000 in
theorem gX4_sumOf_X4_get : GoodIn wsX4_sumOf (wsV RX4 82 RX4 yX4_get wsX4_get) := goodIn_app (goodIn_of _ (by decide +kernel)) ggX4_sumOf_X4_get
theorem dX4_sumOf_0 : decode cX4_sumOf 0 = .ok (.iconst 0, 1) := by decide +kernel
theorem dX4_sumOf_1 : decode cX4_sumOf 1 = .ok (.istore_n 2, 1) := by decide +kernel
theorem dX4_sumOf_2 : decode cX4_sumOf 2 = .ok (.iconst 0, 1) := by decide +kernel
theorem dX4_sumOf_3 : decode cX4_sumOf 3 = .ok (.istore_n 3, 1) := by decide +kernel
theorem dX4_sumOf_4 : decode cX4_sumOf 4 = .ok (.iload_n 3, 1) := by decide +kernel
theorem dX4_sumOf_5 : decode cX4_sumOf 5 = .ok (.aload_n 0, 1) := by decide +kernel
theorem dX4_sumOf_6 : decode cX4_sumOf 6 = .ok (.getfield 16, 3) := by decide +kernel
theorem dX4_sumOf_9 : decode cX4_sumOf 9 = .ok (.iload_n 1, 1) := by decide +kernel
theorem dX4_sumOf_10 : decode cX4_sumOf 10 = .ok (.iaload, 1) := by decide +kernel
theorem dX4_sumOf_11 : decode cX4_sumOf 11 = .ok (.if_icmp .ge 18, 3) := by decide +kernel
theorem dX4_sumOf_14 : decode cX4_sumOf 14 = .ok (.iload_n 2, 1) := by decide +kernel
theorem dX4_sumOf_15 : decode cX4_sumOf 15 = .ok (.aload_n 0, 1) := by decide +kernel
theorem dX4_sumOf_16 : decode cX4_sumOf 16 = .ok (.iload_n 1, 1) := by decide +kernel
theorem dX4_sumOf_17 : decode cX4_sumOf 17 = .ok (.iload_n 3, 1) := by decide +kernel
theorem dX4_sumOf_18 : decode cX4_sumOf 18 = .ok (.invokevirtual 82, 3) := by decide +kernel
theorem dX4_sumOf_21 : decode cX4_sumOf 21 = .ok (.iadd, 1) := by decide +kernel
theorem dX4_sumOf_22 : decode cX4_sumOf 22 = .ok (.istore_n 2, 1) := by decide +kernel
theorem dX4_sumOf_23 : decode cX4_sumOf 23 = .ok (.iinc 3 1, 3) := by decide +kernel
theorem dX4_sumOf_26 : decode cX4_sumOf 26 = .ok (.goto (-22), 3) := by decide +kernel
theorem dX4_sumOf_29 : decode cX4_sumOf 29 = .ok (.iload_n 2, 1) := by decide +kernel
theorem dX4_sumOf_30 : decode cX4_sumOf 30 = .ok (.ireturn, 1) := by decide +kernel
set_option maxRecDepth 20000 in
theorem ggX4_sum_X4_isPlace : GoodIn wsX4_sum wsX4_isPlace := goodIn_r _ [8, 9, 10, 11, 7, 12] (by decide +kernel) (by decide +kernel)
set_option maxRecDepth 20000 in
theorem gX4_sum_X4_isPlace : GoodIn wsX4_sum (va_wsS RX4 48 yX4_isPlace wsX4_isPlace) := goodIn_app (goodIn_of _ (by decide +kernel)) ggX4_sum_X4_isPlace
set_option maxRecDepth 20000 in
theorem ggX4_sum_X4_wantsRow : GoodIn wsX4_sum wsX4_wantsRow := goodIn_r _ [16, 2, 39, 40, 41, 42, 43, 44, 45, 46, 47, 48, 49] (by decide +kernel) (by decide +kernel)
set_option maxRecDepth 20000 in
theorem gX4_sum_X4_wantsRow : GoodIn wsX4_sum (wsV RX4 72 RX4 yX4_wantsRow wsX4_wantsRow) := goodIn_app (goodIn_of _ (by decide +kernel)) ggX4_sum_X4_wantsRow
set_option maxRecDepth 20000 in
theorem ggX4_sum_X4_kindOf : GoodIn wsX4_sum wsX4_kindOf := goodIn_r _ [20, 2, 3, 39, 40, 41, 42, 43, 44, 45, 46, 47, 48, 49] (by decide +kernel) (by decide +kernel)
set_option maxRecDepth 20000 in
theorem gX4_sum_X4_kindOf : GoodIn wsX4_sum (wsV RX4 66 RX4 yX4_kindOf wsX4_kindOf) := goodIn_app (goodIn_of _ (by decide +kernel)) ggX4_sum_X4_kindOf
set_option maxRecDepth 20000 in
theorem ggX4_sum_X4_no : GoodIn wsX4_sum wsX4_no := goodIn_r _ [24, 25, 39, 40, 41, 42, 43, 44, 45, 46, 47, 48, 49] (by decide +kernel) (by decide +kernel)
set_option maxRecDepth 20000 in
theorem gX4_sum_X4_no : GoodIn wsX4_sum (wsV RX4 55 RX4 yX4_no wsX4_no) := goodIn_app (goodIn_of _ (by decide +kernel)) ggX4_sum_X4_no
set_option maxRecDepth 20000 in
theorem ggX4_sum_X4_sumOf : GoodIn wsX4_sum wsX4_sumOf := goodIn_r _ [29, 4, 30, 31, 32, 7, 33, 34, 39, 40, 41, 42, 43, 44, 45, 46, 47, 48, 49] (by decide +kernel) (by decide +kernel)
set_option maxRecDepth 20000 in
theorem gX4_sum_X4_sumOf : GoodIn wsX4_sum (wsV RX4 109 RX4 yX4_sumOf wsX4_sumOf) := goodIn_app (goodIn_of _ (by decide +kernel)) ggX4_sum_X4_sumOf
set_option maxRecDepth 20000 in
theorem ggX4_sum_X4_yes : GoodIn wsX4_sum wsX4_yes := goodIn_r _ [38, 25, 39, 40, 41, 42, 43, 44, 45, 46, 47, 48, 49] (by decide +kernel) (by decide +kernel)
set_option maxRecDepth 20000 in
theorem gX4_sum_X4_yes : GoodIn wsX4_sum (wsV RX4 63 RX4 yX4_yes wsX4_yes) := goodIn_app (goodIn_of _ (by decide +kernel)) ggX4_sum_X4_yes
set_option maxRecDepth 20000 in
theorem ggX4_sum_X4_get : GoodIn wsX4_sum wsX4_get := goodIn_r _ [33, 34, 39, 40, 41, 42, 43, 44, 45, 46, 47, 48, 49] (by decide +kernel) (by decide +kernel)
set_option maxRecDepth 20000 in
theorem gX4_sum_X4_get : GoodIn wsX4_sum (wsV RX4 82 RX4 yX4_get wsX4_get) := goodIn_app (goodIn_of _ (by decide +kernel)) ggX4_sum_X4_get
theorem dX4_sum_0 : decode cX4_sum 0 = .ok (.iload_n 1, 1) := by decide +kernel
theorem dX4_sum_1 : decode cX4_sum 1 = .ok (.invokestatic 48, 3) := by decide +kernel
theorem dX4_sum_4 : decode cX4_sum 4 = .ok (.ifCond .ne 6, 3) := by decide +kernel
theorem dX4_sum_7 : decode cX4_sum 7 = .ok (.ldc 54, 2) := by decide +kernel
theorem dX4_sum_9 : decode cX4_sum 9 = .ok (.ireturn, 1) := by decide +kernel
theorem dX4_sum_10 : decode cX4_sum 10 = .ok (.aload_n 0, 1) := by decide +kernel
theorem dX4_sum_11 : decode cX4_sum 11 = .ok (.iload_n 1, 1) := by decide +kernel
theorem dX4_sum_12 : decode cX4_sum 12 = .ok (.invokevirtual 72, 3) := by decide +kernel
theorem dX4_sum_15 : decode cX4_sum 15 = .ok (.istore_n 2, 1) := by decide +kernel
theorem dX4_sum_16 : decode cX4_sum 16 = .ok (.iload_n 2, 1) := by decide +kernel
theorem dX4_sum_17 : decode cX4_sum 17 = .ok (.ifCond .ne 14, 3) := by decide +kernel
theorem dX4_sum_20 : decode cX4_sum 20 = .ok (.aload_n 0, 1) := by decide +kernel
theorem dX4_sum_21 : decode cX4_sum 21 = .ok (.iload_n 1, 1) := by decide +kernel
theorem dX4_sum_22 : decode cX4_sum 22 = .ok (.invokevirtual 66, 3) := by decide +kernel
theorem dX4_sum_25 : decode cX4_sum 25 = .ok (.iconst 2, 1) := by decide +kernel
theorem dX4_sum_26 : decode cX4_sum 26 = .ok (.if_icmp .le 5, 3) := by decide +kernel
theorem dX4_sum_29 : decode cX4_sum 29 = .ok (.iconst 5, 1) := by decide +kernel
theorem dX4_sum_30 : decode cX4_sum 30 = .ok (.istore_n 2, 1) := by decide +kernel
theorem dX4_sum_31 : decode cX4_sum 31 = .ok (.iload_n 2, 1) := by decide +kernel
theorem dX4_sum_32 : decode cX4_sum 32 = .ok (.ifCond .eq 9, 3) := by decide +kernel
theorem dX4_sum_35 : decode cX4_sum 35 = .ok (.aload_n 0, 1) := by decide +kernel
theorem dX4_sum_36 : decode cX4_sum 36 = .ok (.iload_n 2, 1) := by decide +kernel
theorem dX4_sum_37 : decode cX4_sum 37 = .ok (.invokevirtual 55, 3) := by decide +kernel
theorem dX4_sum_40 : decode cX4_sum 40 = .ok (.ireturn, 1) := by decide +kernel
theorem dX4_sum_41 : decode cX4_sum 41 = .ok (.aload_n 0, 1) := by decide +kernel
theorem dX4_sum_42 : decode cX4_sum 42 = .ok (.getfield 7, 3) := by decide +kernel
theorem dX4_sum_45 : decode cX4_sum 45 = .ok (.iload_n 1, 1) := by decide +kernel
theorem dX4_sum_46 : decode cX4_sum 46 = .ok (.iaload, 1) := by decide +kernel
theorem dX4_sum_47 : decode cX4_sum 47 = .ok (.istore_n 3, 1) := by decide +kernel
theorem dX4_sum_48 : decode cX4_sum 48 = .ok (.aload_n 0, 1) := by decide +kernel
theorem dX4_sum_49 : decode cX4_sum 49 = .ok (.getfield 13, 3) := by decide +kernel
theorem dX4_sum_52 : decode cX4_sum 52 = .ok (.iload_n 3, 1) := by decide +kernel
theorem dX4_sum_53 : decode cX4_sum 53 = .ok (.iaload, 1) := by decide +kernel
theorem dX4_sum_54 : decode cX4_sum 54 = .ok (.iconst 2, 1) := by decide +kernel
theorem dX4_sum_55 : decode cX4_sum 55 = .ok (.if_icmp .ge 13, 3) := by decide +kernel
theorem dX4_sum_58 : decode cX4_sum 58 = .ok (.aload_n 0, 1) := by decide +kernel
theorem dX4_sum_59 : decode cX4_sum 59 = .ok (.aload_n 0, 1) := by decide +kernel
theorem dX4_sum_60 : decode cX4_sum 60 = .ok (.iload_n 3, 1) := by decide +kernel
theorem dX4_sum_61 : decode cX4_sum 61 = .ok (.invokevirtual 109, 3) := by decide +kernel
theorem dX4_sum_64 : decode cX4_sum 64 = .ok (.invokevirtual 63, 3) := by decide +kernel
theorem dX4_sum_67 : decode cX4_sum 67 = .ok (.ireturn, 1) := by decide +kernel
theorem dX4_sum_68 : decode cX4_sum 68 = .ok (.iconst 0, 1) := by decide +kernel
theorem dX4_sum_69 : decode cX4_sum 69 = .ok (.istore 4, 2) := by decide +kernel
theorem dX4_sum_71 : decode cX4_sum 71 = .ok (.iconst 0, 1) := by decide +kernel
theorem dX4_sum_72 : decode cX4_sum 72 = .ok (.istore 5, 2) := by decide +kernel
theorem dX4_sum_74 : decode cX4_sum 74 = .ok (.iload 5, 2) := by decide +kernel
theorem dX4_sum_76 : decode cX4_sum 76 = .ok (.aload_n 0, 1) := by decide +kernel
theorem dX4_sum_77 : decode cX4_sum 77 = .ok (.getfield 16, 3) := by decide +kernel
theorem dX4_sum_80 : decode cX4_sum 80 = .ok (.iload_n 3, 1) := by decide +kernel
theorem dX4_sum_81 : decode cX4_sum 81 = .ok (.iaload, 1) := by decide +kernel
theorem dX4_sum_82 : decode cX4_sum 82 = .ok (.if_icmp .ge 42, 3) := by decide +kernel
theorem dX4_sum_85 : decode cX4_sum 85 = .ok (.aload_n 0, 1) := by decide +kernel
theorem dX4_sum_86 : decode cX4_sum 86 = .ok (.iload_n 3, 1) := by decide +kernel
theorem dX4_sum_87 : decode cX4_sum 87 = .ok (.iload 5, 2) := by decide +kernel
theorem dX4_sum_89 : decode cX4_sum 89 = .ok (.invokevirtual 82, 3) := by decide +kernel
theorem dX4_sum_92 : decode cX4_sum 92 = .ok (.iconst (-1), 1) := by decide +kernel
theorem dX4_sum_93 : decode cX4_sum 93 = .ok (.if_icmp .ne 9, 3) := by decide +kernel
theorem dX4_sum_96 : decode cX4_sum 96 = .ok (.aload_n 0, 1) := by decide +kernel
theorem dX4_sum_97 : decode cX4_sum 97 = .ok (.iconst 1, 1) := by decide +kernel
theorem dX4_sum_98 : decode cX4_sum 98 = .ok (.invokevirtual 55, 3) := by decide +kernel
theorem dX4_sum_101 : decode cX4_sum 101 = .ok (.ireturn, 1) := by decide +kernel
theorem dX4_sum_102 : decode cX4_sum 102 = .ok (.iload 4, 2) := by decide +kernel
theorem dX4_sum_104 : decode cX4_sum 104 = .ok (.aload_n 0, 1) := by decide +kernel
theorem dX4_sum_105 : decode cX4_sum 105 = .ok (.aload_n 0, 1) := by decide +kernel
theorem dX4_sum_106 : decode cX4_sum 106 = .ok (.iload_n 3, 1) := by decide +kernel
theorem dX4_sum_107 : decode cX4_sum 107 = .ok (.iload 5, 2) := by decide +kernel
theorem dX4_sum_109 : decode cX4_sum 109 = .ok (.invokevirtual 82, 3) := by decide +kernel
theorem dX4_sum_112 : decode cX4_sum 112 = .ok (.invokevirtual 109, 3) := by decide +kernel
theorem dX4_sum_115 : decode cX4_sum 115 = .ok (.iadd, 1) := by decide +kernel
theorem dX4_sum_116 : decode cX4_sum 116 = .ok (.istore 4, 2) := by decide +kernel
theorem dX4_sum_118 : decode cX4_sum 118 = .ok (.iinc 5 1, 3) := by decide +kernel
theorem dX4_sum_121 : decode cX4_sum 121 = .ok (.goto (-47), 3) := by decide +kernel
theorem dX4_sum_124 : decode cX4_sum 124 = .ok (.aload_n 0, 1) := by decide +kernel
theorem dX4_sum_125 : decode cX4_sum 125 = .ok (.iload 4, 2) := by decide +kernel
theorem dX4_sum_127 : decode cX4_sum 127 = .ok (.invokevirtual 63, 3) := by decide +kernel
theorem dX4_sum_130 : decode cX4_sum 130 = .ok (.ireturn, 1) := by decide +kernel
set_option maxRecDepth 20000 in
theorem ggX4_mean_X4_isPlace : GoodIn wsX4_mean wsX4_isPlace := goodIn_r _ [6, 7, 8, 9, 5, 10] (by decide +kernel) (by decide +kernel)
set_option maxRecDepth 20000 in
theorem gX4_mean_X4_isPlace : GoodIn wsX4_mean (va_wsS RX4 48 yX4_isPlace wsX4_isPlace) := goodIn_app (goodIn_of _ (by decide +kernel)) ggX4_mean_X4_isPlace
set_option maxRecDepth 20000 in
theorem ggX4_mean_X4_wantsRow : GoodIn wsX4_mean wsX4_wantsRow := goodIn_r _ [14, 2, 43, 44, 45, 46, 47, 48, 49, 50, 51, 52, 53] (by decide +kernel) (by decide +kernel)
set_option maxRecDepth 20000 in
theorem gX4_mean_X4_wantsRow : GoodIn wsX4_mean (wsV RX4 72 RX4 yX4_wantsRow wsX4_wantsRow) := goodIn_app (goodIn_of _ (by decide +kernel)) ggX4_mean_X4_wantsRow
set_option maxRecDepth 20000 in
theorem ggX4_mean_X4_kindOf : GoodIn wsX4_mean wsX4_kindOf := goodIn_r _ [18, 2, 19, 43, 44, 45, 46, 47, 48, 49, 50, 51, 52, 53] (by decide +kernel) (by decide +kernel)
set_option maxRecDepth 20000 in
theorem gX4_mean_X4_kindOf : GoodIn wsX4_mean (wsV RX4 66 RX4 yX4_kindOf wsX4_kindOf) := goodIn_app (goodIn_of _ (by decide +kernel)) ggX4_mean_X4_kindOf
set_option maxRecDepth 20000 in
theorem ggX4_mean_X4_lengthOf : GoodIn wsX4_mean wsX4_lengthOf := goodIn_r _ [23, 24, 2, 43, 44, 45, 46, 47, 48, 49, 50, 51, 52, 53] (by decide +kernel) (by decide +kernel)
set_option maxRecDepth 20000 in
theorem gX4_mean_X4_lengthOf : GoodIn wsX4_mean (wsV RX4 75 RX4 yX4_lengthOf wsX4_lengthOf) := goodIn_app (goodIn_of _ (by decide +kernel)) ggX4_mean_X4_lengthOf
set_option maxRecDepth 20000 in
theorem ggX4_mean_X4_no : GoodIn wsX4_mean wsX4_no := goodIn_r _ [28, 29, 43, 44, 45, 46, 47, 48, 49, 50, 51, 52, 53] (by decide +kernel) (by decide +kernel)
set_option maxRecDepth 20000 in
theorem gX4_mean_X4_no : GoodIn wsX4_mean (wsV RX4 55 RX4 yX4_no wsX4_no) := goodIn_app (goodIn_of _ (by decide +kernel)) ggX4_mean_X4_no
set_option maxRecDepth 20000 in
theorem ggX4_mean_X4_sumOf : GoodIn wsX4_mean wsX4_sumOf := goodIn_r _ [33, 24, 34, 35, 36, 5, 37, 38, 43, 44, 45, 46, 47, 48, 49, 50, 51, 52, 53] (by decide +kernel) (by decide +kernel)
set_option maxRecDepth 20000 in
theorem gX4_mean_X4_sumOf : GoodIn wsX4_mean (wsV RX4 109 RX4 yX4_sumOf wsX4_sumOf) := goodIn_app (goodIn_of _ (by decide +kernel)) ggX4_mean_X4_sumOf
set_option maxRecDepth 20000 in
theorem ggX4_mean_X4_yes : GoodIn wsX4_mean wsX4_yes := goodIn_r _ [42, 29, 43, 44, 45, 46, 47, 48, 49, 50, 51, 52, 53] (by decide +kernel) (by decide +kernel)
set_option maxRecDepth 20000 in
theorem gX4_mean_X4_yes : GoodIn wsX4_mean (wsV RX4 63 RX4 yX4_yes wsX4_yes) := goodIn_app (goodIn_of _ (by decide +kernel)) ggX4_mean_X4_yes
theorem dX4_mean_0 : decode cX4_mean 0 = .ok (.iload_n 1, 1) := by decide +kernel
theorem dX4_mean_1 : decode cX4_mean 1 = .ok (.invokestatic 48, 3) := by decide +kernel
theorem dX4_mean_4 : decode cX4_mean 4 = .ok (.ifCond .ne 6, 3) := by decide +kernel
theorem dX4_mean_7 : decode cX4_mean 7 = .ok (.ldc 54, 2) := by decide +kernel
theorem dX4_mean_9 : decode cX4_mean 9 = .ok (.ireturn, 1) := by decide +kernel
theorem dX4_mean_10 : decode cX4_mean 10 = .ok (.aload_n 0, 1) := by decide +kernel
theorem dX4_mean_11 : decode cX4_mean 11 = .ok (.iload_n 1, 1) := by decide +kernel
theorem dX4_mean_12 : decode cX4_mean 12 = .ok (.invokevirtual 72, 3) := by decide +kernel
theorem dX4_mean_15 : decode cX4_mean 15 = .ok (.istore_n 2, 1) := by decide +kernel
theorem dX4_mean_16 : decode cX4_mean 16 = .ok (.iload_n 2, 1) := by decide +kernel
theorem dX4_mean_17 : decode cX4_mean 17 = .ok (.ifCond .ne 14, 3) := by decide +kernel
theorem dX4_mean_20 : decode cX4_mean 20 = .ok (.aload_n 0, 1) := by decide +kernel
theorem dX4_mean_21 : decode cX4_mean 21 = .ok (.iload_n 1, 1) := by decide +kernel
theorem dX4_mean_22 : decode cX4_mean 22 = .ok (.invokevirtual 66, 3) := by decide +kernel
theorem dX4_mean_25 : decode cX4_mean 25 = .ok (.iconst 2, 1) := by decide +kernel
theorem dX4_mean_26 : decode cX4_mean 26 = .ok (.if_icmp .lt 5, 3) := by decide +kernel
theorem dX4_mean_29 : decode cX4_mean 29 = .ok (.iconst 5, 1) := by decide +kernel
theorem dX4_mean_30 : decode cX4_mean 30 = .ok (.istore_n 2, 1) := by decide +kernel
theorem dX4_mean_31 : decode cX4_mean 31 = .ok (.iload_n 2, 1) := by decide +kernel
theorem dX4_mean_32 : decode cX4_mean 32 = .ok (.ifCond .ne 14, 3) := by decide +kernel
theorem dX4_mean_35 : decode cX4_mean 35 = .ok (.aload_n 0, 1) := by decide +kernel
theorem dX4_mean_36 : decode cX4_mean 36 = .ok (.iload_n 1, 1) := by decide +kernel
theorem dX4_mean_37 : decode cX4_mean 37 = .ok (.invokevirtual 75, 3) := by decide +kernel
theorem dX4_mean_40 : decode cX4_mean 40 = .ok (.ifCond .ne 6, 3) := by decide +kernel
theorem dX4_mean_43 : decode cX4_mean 43 = .ok (.bipush 6, 2) := by decide +kernel
theorem dX4_mean_45 : decode cX4_mean 45 = .ok (.istore_n 2, 1) := by decide +kernel
theorem dX4_mean_46 : decode cX4_mean 46 = .ok (.iload_n 2, 1) := by decide +kernel
theorem dX4_mean_47 : decode cX4_mean 47 = .ok (.ifCond .eq 11, 3) := by decide +kernel
theorem dX4_mean_50 : decode cX4_mean 50 = .ok (.aload_n 0, 1) := by decide +kernel
theorem dX4_mean_51 : decode cX4_mean 51 = .ok (.iload_n 2, 1) := by decide +kernel
theorem dX4_mean_52 : decode cX4_mean 52 = .ok (.invokevirtual 55, 3) := by decide +kernel
theorem dX4_mean_55 : decode cX4_mean 55 = .ok (.goto 23, 3) := by decide +kernel
theorem dX4_mean_58 : decode cX4_mean 58 = .ok (.aload_n 0, 1) := by decide +kernel
theorem dX4_mean_59 : decode cX4_mean 59 = .ok (.aload_n 0, 1) := by decide +kernel
theorem dX4_mean_60 : decode cX4_mean 60 = .ok (.aload_n 0, 1) := by decide +kernel
theorem dX4_mean_61 : decode cX4_mean 61 = .ok (.getfield 7, 3) := by decide +kernel
theorem dX4_mean_64 : decode cX4_mean 64 = .ok (.iload_n 1, 1) := by decide +kernel
theorem dX4_mean_65 : decode cX4_mean 65 = .ok (.iaload, 1) := by decide +kernel
theorem dX4_mean_66 : decode cX4_mean 66 = .ok (.invokevirtual 109, 3) := by decide +kernel
theorem dX4_mean_69 : decode cX4_mean 69 = .ok (.aload_n 0, 1) := by decide +kernel
theorem dX4_mean_70 : decode cX4_mean 70 = .ok (.iload_n 1, 1) := by decide +kernel
theorem dX4_mean_71 : decode cX4_mean 71 = .ok (.invokevirtual 75, 3) := by decide +kernel
theorem dX4_mean_74 : decode cX4_mean 74 = .ok (.idiv, 1) := by decide +kernel
theorem dX4_mean_75 : decode cX4_mean 75 = .ok (.invokevirtual 63, 3) := by decide +kernel
theorem dX4_mean_78 : decode cX4_mean 78 = .ok (.ireturn, 1) := by decide +kernel
set_option maxRecDepth 20000 in
theorem ggX4_same_X4_isPlace : GoodIn wsX4_same wsX4_isPlace := goodIn_r _ [6, 7, 8, 9, 5, 10] (by decide +kernel) (by decide +kernel)
set_option maxRecDepth 20000 in
theorem gX4_same_X4_isPlace : GoodIn wsX4_same (va_wsS RX4 48 yX4_isPlace wsX4_isPlace) := goodIn_app (goodIn_of _ (by decide +kernel)) ggX4_same_X4_isPlace
theorem dX4_same_0 : decode cX4_same 0 = .ok (.iload_n 1, 1) := by decide +kernel
theorem dX4_same_1 : decode cX4_same 1 = .ok (.invokestatic 48, 3) := by decide +kernel
theorem dX4_same_4 : decode cX4_same 4 = .ok (.ifCond .eq 10, 3) := by decide +kernel
theorem dX4_same_7 : decode cX4_same 7 = .ok (.iload_n 2, 1) := by decide +kernel
theorem dX4_same_8 : decode cX4_same 8 = .ok (.invokestatic 48, 3) := by decide +kernel
theorem dX4_same_11 : decode cX4_same 11 = .ok (.ifCond .ne 6, 3) := by decide +kernel
theorem dX4_same_14 : decode cX4_same 14 = .ok (.ldc 54, 2) := by decide +kernel
theorem dX4_same_16 : decode cX4_same 16 = .ok (.ireturn, 1) := by decide +kernel
theorem dX4_same_17 : decode cX4_same 17 = .ok (.aload_n 0, 1) := by decide +kernel
theorem dX4_same_18 : decode cX4_same 18 = .ok (.getfield 7, 3) := by decide +kernel
theorem dX4_same_21 : decode cX4_same 21 = .ok (.iload_n 1, 1) := by decide +kernel
theorem dX4_same_22 : decode cX4_same 22 = .ok (.iaload, 1) := by decide +kernel
theorem dX4_same_23 : decode cX4_same 23 = .ok (.aload_n 0, 1) := by decide +kernel
theorem dX4_same_24 : decode cX4_same 24 = .ok (.getfield 7, 3) := by decide +kernel
theorem dX4_same_27 : decode cX4_same 27 = .ok (.iload_n 2, 1) := by decide +kernel
theorem dX4_same_28 : decode cX4_same 28 = .ok (.iaload, 1) := by decide +kernel
theorem dX4_same_29 : decode cX4_same 29 = .ok (.if_icmp .ne 7, 3) := by decide +kernel
theorem dX4_same_32 : decode cX4_same 32 = .ok (.iconst 1, 1) := by decide +kernel
theorem dX4_same_33 : decode cX4_same 33 = .ok (.goto 4, 3) := by decide +kernel
theorem dX4_same_36 : decode cX4_same 36 = .ok (.iconst 0, 1) := by decide +kernel
theorem dX4_same_37 : decode cX4_same 37 = .ok (.ireturn, 1) := by decide +kernel
set_option maxRecDepth 20000 in
theorem ggX4_equal_X4_isPlace : GoodIn wsX4_equal wsX4_isPlace := goodIn_r _ [6, 7, 8, 9, 5, 10] (by decide +kernel) (by decide +kernel)
set_option maxRecDepth 20000 in
theorem gX4_equal_X4_isPlace : GoodIn wsX4_equal (va_wsS RX4 48 yX4_isPlace wsX4_isPlace) := goodIn_app (goodIn_of _ (by decide +kernel)) ggX4_equal_X4_isPlace
set_option maxRecDepth 20000 in
theorem ggX4_equal_X4_isRow : GoodIn wsX4_equal wsX4_isRow := goodIn_r _ [14, 2, 30, 31, 32, 33, 34, 35, 36, 37, 38, 39, 40] (by decide +kernel) (by decide +kernel)
set_option maxRecDepth 20000 in
theorem gX4_equal_X4_isRow : GoodIn wsX4_equal (wsV RX4 112 RX4 yX4_isRow wsX4_isRow) := goodIn_app (goodIn_of _ (by decide +kernel)) ggX4_equal_X4_isRow
set_option maxRecDepth 20000 in
theorem ggX4_equal_X4_kindOf : GoodIn wsX4_equal wsX4_kindOf := goodIn_r _ [18, 2, 19, 30, 31, 32, 33, 34, 35, 36, 37, 38, 39, 40] (by decide +kernel) (by decide +kernel)
set_option maxRecDepth 20000 in
theorem gX4_equal_X4_kindOf : GoodIn wsX4_equal (wsV RX4 66 RX4 yX4_kindOf wsX4_kindOf) := goodIn_app (goodIn_of _ (by decide +kernel)) ggX4_equal_X4_kindOf
set_option maxRecDepth 20000 in
theorem ggX4_equal_X4_lengthOf : GoodIn wsX4_equal wsX4_lengthOf := goodIn_r _ [23, 24, 2, 30, 31, 32, 33, 34, 35, 36, 37, 38, 39, 40] (by decide +kernel) (by decide +kernel)
set_option maxRecDepth 20000 in
theorem gX4_equal_X4_lengthOf : GoodIn wsX4_equal (wsV RX4 75 RX4 yX4_lengthOf wsX4_lengthOf) := goodIn_app (goodIn_of _ (by decide +kernel)) ggX4_equal_X4_lengthOf
set_option maxRecDepth 20000 in
theorem ggX4_equal_X4_get : GoodIn wsX4_equal wsX4_get := goodIn_r _ [28, 29, 30, 31, 32, 33, 34, 35, 36, 37, 38, 39, 40] (by decide +kernel) (by decide +kernel)
set_option maxRecDepth 20000 in
theorem gX4_equal_X4_get : GoodIn wsX4_equal (wsV RX4 82 RX4 yX4_get wsX4_get) := goodIn_app (goodIn_of _ (by decide +kernel)) ggX4_equal_X4_get
theorem dX4_equal_0 : decode cX4_equal 0 = .ok (.iload_n 1, 1) := by decide +kernel
theorem dX4_equal_1 : decode cX4_equal 1 = .ok (.invokestatic 48, 3) := by decide +kernel
theorem dX4_equal_4 : decode cX4_equal 4 = .ok (.ifCond .eq 10, 3) := by decide +kernel
theorem dX4_equal_7 : decode cX4_equal 7 = .ok (.iload_n 2, 1) := by decide +kernel
theorem dX4_equal_8 : decode cX4_equal 8 = .ok (.invokestatic 48, 3) := by decide +kernel
theorem dX4_equal_11 : decode cX4_equal 11 = .ok (.ifCond .ne 6, 3) := by decide +kernel
theorem dX4_equal_14 : decode cX4_equal 14 = .ok (.ldc 54, 2) := by decide +kernel
theorem dX4_equal_16 : decode cX4_equal 16 = .ok (.ireturn, 1) := by decide +kernel
theorem dX4_equal_17 : decode cX4_equal 17 = .ok (.aload_n 0, 1) := by decide +kernel
theorem dX4_equal_18 : decode cX4_equal 18 = .ok (.iload_n 1, 1) := by decide +kernel
theorem dX4_equal_19 : decode cX4_equal 19 = .ok (.invokevirtual 112, 3) := by decide +kernel
theorem dX4_equal_22 : decode cX4_equal 22 = .ok (.ifCond .eq 11, 3) := by decide +kernel
theorem dX4_equal_25 : decode cX4_equal 25 = .ok (.aload_n 0, 1) := by decide +kernel
theorem dX4_equal_26 : decode cX4_equal 26 = .ok (.iload_n 2, 1) := by decide +kernel
theorem dX4_equal_27 : decode cX4_equal 27 = .ok (.invokevirtual 112, 3) := by decide +kernel
theorem dX4_equal_30 : decode cX4_equal 30 = .ok (.ifCond .ne 24, 3) := by decide +kernel
theorem dX4_equal_33 : decode cX4_equal 33 = .ok (.aload_n 0, 1) := by decide +kernel
theorem dX4_equal_34 : decode cX4_equal 34 = .ok (.getfield 7, 3) := by decide +kernel
theorem dX4_equal_37 : decode cX4_equal 37 = .ok (.iload_n 1, 1) := by decide +kernel
theorem dX4_equal_38 : decode cX4_equal 38 = .ok (.iaload, 1) := by decide +kernel
theorem dX4_equal_39 : decode cX4_equal 39 = .ok (.aload_n 0, 1) := by decide +kernel
theorem dX4_equal_40 : decode cX4_equal 40 = .ok (.getfield 7, 3) := by decide +kernel
theorem dX4_equal_43 : decode cX4_equal 43 = .ok (.iload_n 2, 1) := by decide +kernel
theorem dX4_equal_44 : decode cX4_equal 44 = .ok (.iaload, 1) := by decide +kernel
theorem dX4_equal_45 : decode cX4_equal 45 = .ok (.if_icmp .ne 7, 3) := by decide +kernel
theorem dX4_equal_48 : decode cX4_equal 48 = .ok (.iconst 1, 1) := by decide +kernel
theorem dX4_equal_49 : decode cX4_equal 49 = .ok (.goto 4, 3) := by decide +kernel
theorem dX4_equal_52 : decode cX4_equal 52 = .ok (.iconst 0, 1) := by decide +kernel
theorem dX4_equal_53 : decode cX4_equal 53 = .ok (.ireturn, 1) := by decide +kernel
theorem dX4_equal_54 : decode cX4_equal 54 = .ok (.aload_n 0, 1) := by decide +kernel
theorem dX4_equal_55 : decode cX4_equal 55 = .ok (.iload_n 1, 1) := by decide +kernel
theorem dX4_equal_56 : decode cX4_equal 56 = .ok (.invokevirtual 66, 3) := by decide +kernel
theorem dX4_equal_59 : decode cX4_equal 59 = .ok (.aload_n 0, 1) := by decide +kernel
theorem dX4_equal_60 : decode cX4_equal 60 = .ok (.iload_n 2, 1) := by decide +kernel
theorem dX4_equal_61 : decode cX4_equal 61 = .ok (.invokevirtual 66, 3) := by decide +kernel
theorem dX4_equal_64 : decode cX4_equal 64 = .ok (.if_icmp .ne 20, 3) := by decide +kernel
theorem dX4_equal_67 : decode cX4_equal 67 = .ok (.aload_n 0, 1) := by decide +kernel
theorem dX4_equal_68 : decode cX4_equal 68 = .ok (.iload_n 1, 1) := by decide +kernel
theorem dX4_equal_69 : decode cX4_equal 69 = .ok (.invokevirtual 75, 3) := by decide +kernel
theorem dX4_equal_72 : decode cX4_equal 72 = .ok (.aload_n 0, 1) := by decide +kernel
theorem dX4_equal_73 : decode cX4_equal 73 = .ok (.iload_n 2, 1) := by decide +kernel
theorem dX4_equal_74 : decode cX4_equal 74 = .ok (.invokevirtual 75, 3) := by decide +kernel
theorem dX4_equal_77 : decode cX4_equal 77 = .ok (.if_icmp .ne 7, 3) := by decide +kernel
theorem dX4_equal_80 : decode cX4_equal 80 = .ok (.iconst 1, 1) := by decide +kernel
theorem dX4_equal_81 : decode cX4_equal 81 = .ok (.goto 4, 3) := by decide +kernel
theorem dX4_equal_84 : decode cX4_equal 84 = .ok (.iconst 0, 1) := by decide +kernel
theorem dX4_equal_85 : decode cX4_equal 85 = .ok (.istore_n 3, 1) := by decide +kernel
theorem dX4_equal_86 : decode cX4_equal 86 = .ok (.iconst 0, 1) := by decide +kernel
theorem dX4_equal_87 : decode cX4_equal 87 = .ok (.istore 4, 2) := by decide +kernel
theorem dX4_equal_89 : decode cX4_equal 89 = .ok (.iload_n 3, 1) := by decide +kernel
theorem dX4_equal_90 : decode cX4_equal 90 = .ok (.ifCond .eq 52, 3) := by decide +kernel
theorem dX4_equal_93 : decode cX4_equal 93 = .ok (.iload 4, 2) := by decide +kernel
theorem dX4_equal_95 : decode cX4_equal 95 = .ok (.aload_n 0, 1) := by decide +kernel
theorem dX4_equal_96 : decode cX4_equal 96 = .ok (.iload_n 1, 1) := by decide +kernel
theorem dX4_equal_97 : decode cX4_equal 97 = .ok (.invokevirtual 75, 3) := by decide +kernel
theorem dX4_equal_100 : decode cX4_equal 100 = .ok (.if_icmp .ge 42, 3) := by decide +kernel
theorem dX4_equal_103 : decode cX4_equal 103 = .ok (.aload_n 0, 1) := by decide +kernel
theorem dX4_equal_104 : decode cX4_equal 104 = .ok (.aload_n 0, 1) := by decide +kernel
theorem dX4_equal_105 : decode cX4_equal 105 = .ok (.getfield 7, 3) := by decide +kernel
theorem dX4_equal_108 : decode cX4_equal 108 = .ok (.iload_n 1, 1) := by decide +kernel
theorem dX4_equal_109 : decode cX4_equal 109 = .ok (.iaload, 1) := by decide +kernel
theorem dX4_equal_110 : decode cX4_equal 110 = .ok (.iload 4, 2) := by decide +kernel
theorem dX4_equal_112 : decode cX4_equal 112 = .ok (.invokevirtual 82, 3) := by decide +kernel
theorem dX4_equal_115 : decode cX4_equal 115 = .ok (.aload_n 0, 1) := by decide +kernel
theorem dX4_equal_116 : decode cX4_equal 116 = .ok (.aload_n 0, 1) := by decide +kernel
theorem dX4_equal_117 : decode cX4_equal 117 = .ok (.getfield 7, 3) := by decide +kernel
theorem dX4_equal_120 : decode cX4_equal 120 = .ok (.iload_n 2, 1) := by decide +kernel
theorem dX4_equal_121 : decode cX4_equal 121 = .ok (.iaload, 1) := by decide +kernel
theorem dX4_equal_122 : decode cX4_equal 122 = .ok (.iload 4, 2) := by decide +kernel
theorem dX4_equal_124 : decode cX4_equal 124 = .ok (.invokevirtual 82, 3) := by decide +kernel
theorem dX4_equal_127 : decode cX4_equal 127 = .ok (.if_icmp .ne 7, 3) := by decide +kernel
theorem dX4_equal_130 : decode cX4_equal 130 = .ok (.iconst 1, 1) := by decide +kernel
theorem dX4_equal_131 : decode cX4_equal 131 = .ok (.goto 4, 3) := by decide +kernel
theorem dX4_equal_134 : decode cX4_equal 134 = .ok (.iconst 0, 1) := by decide +kernel
theorem dX4_equal_135 : decode cX4_equal 135 = .ok (.istore_n 3, 1) := by decide +kernel
theorem dX4_equal_136 : decode cX4_equal 136 = .ok (.iinc 4 1, 3) := by decide +kernel
theorem dX4_equal_139 : decode cX4_equal 139 = .ok (.goto (-50), 3) := by decide +kernel
theorem dX4_equal_142 : decode cX4_equal 142 = .ok (.iload_n 3, 1) := by decide +kernel
theorem dX4_equal_143 : decode cX4_equal 143 = .ok (.ifCond .eq 7, 3) := by decide +kernel
theorem dX4_equal_146 : decode cX4_equal 146 = .ok (.iconst 1, 1) := by decide +kernel
theorem dX4_equal_147 : decode cX4_equal 147 = .ok (.goto 4, 3) := by decide +kernel
theorem dX4_equal_150 : decode cX4_equal 150 = .ok (.iconst 0, 1) := by decide +kernel
theorem dX4_equal_151 : decode cX4_equal 151 = .ok (.ireturn, 1) := by decide +kernel
set_option maxRecDepth 20000 in
theorem ggX4_compare_X4_isPlace : GoodIn wsX4_compare wsX4_isPlace := goodIn_r _ [7, 8, 9, 10, 6, 11] (by decide +kernel) (by decide +kernel)
set_option maxRecDepth 20000 in
theorem gX4_compare_X4_isPlace : GoodIn wsX4_compare (va_wsS RX4 48 yX4_isPlace wsX4_isPlace) := goodIn_app (goodIn_of _ (by decide +kernel)) ggX4_compare_X4_isPlace
set_option maxRecDepth 20000 in
theorem ggX4_compare_X4_no : GoodIn wsX4_compare wsX4_no := goodIn_r _ [15, 16, 31, 32, 33, 34, 35, 36, 37, 38, 39, 40, 41] (by decide +kernel) (by decide +kernel)
set_option maxRecDepth 20000 in
theorem gX4_compare_X4_no : GoodIn wsX4_compare (wsV RX4 55 RX4 yX4_no wsX4_no) := goodIn_app (goodIn_of _ (by decide +kernel)) ggX4_compare_X4_no
set_option maxRecDepth 20000 in
theorem ggX4_compare_X4_kindOf : GoodIn wsX4_compare wsX4_kindOf := goodIn_r _ [20, 2, 21, 31, 32, 33, 34, 35, 36, 37, 38, 39, 40, 41] (by decide +kernel) (by decide +kernel)
set_option maxRecDepth 20000 in
theorem gX4_compare_X4_kindOf : GoodIn wsX4_compare (wsV RX4 66 RX4 yX4_kindOf wsX4_kindOf) := goodIn_app (goodIn_of _ (by decide +kernel)) ggX4_compare_X4_kindOf
set_option maxRecDepth 20000 in
theorem ggX4_compare_X4_get : GoodIn wsX4_compare wsX4_get := goodIn_r _ [25, 26, 31, 32, 33, 34, 35, 36, 37, 38, 39, 40, 41] (by decide +kernel) (by decide +kernel)
set_option maxRecDepth 20000 in
theorem gX4_compare_X4_get : GoodIn wsX4_compare (wsV RX4 82 RX4 yX4_get wsX4_get) := goodIn_app (goodIn_of _ (by decide +kernel)) ggX4_compare_X4_get
set_option maxRecDepth 20000 in
theorem ggX4_compare_X4_yes : GoodIn wsX4_compare wsX4_yes := goodIn_r _ [30, 16, 31, 32, 33, 34, 35, 36, 37, 38, 39, 40, 41] (by decide +kernel) (by decide +kernel)
set_option maxRecDepth 20000 in
theorem gX4_compare_X4_yes : GoodIn wsX4_compare (wsV RX4 63 RX4 yX4_yes wsX4_yes) := goodIn_app (goodIn_of _ (by decide +kernel)) ggX4_compare_X4_yes
theorem dX4_compare_0 : decode cX4_compare 0 = .ok (.iload_n 1, 1) := by decide +kernel
theorem dX4_compare_1 : decode cX4_compare 1 = .ok (.invokestatic 48, 3) := by decide +kernel
theorem dX4_compare_4 : decode cX4_compare 4 = .ok (.ifCond .eq 10, 3) := by decide +kernel
theorem dX4_compare_7 : decode cX4_compare 7 = .ok (.iload_n 2, 1) := by decide +kernel
theorem dX4_compare_8 : decode cX4_compare 8 = .ok (.invokestatic 48, 3) := by decide +kernel
theorem dX4_compare_11 : decode cX4_compare 11 = .ok (.ifCond .ne 6, 3) := by decide +kernel
theorem dX4_compare_14 : decode cX4_compare 14 = .ok (.ldc 54, 2) := by decide +kernel
theorem dX4_compare_16 : decode cX4_compare 16 = .ok (.ireturn, 1) := by decide +kernel
theorem dX4_compare_17 : decode cX4_compare 17 = .ok (.aload_n 0, 1) := by decide +kernel
theorem dX4_compare_18 : decode cX4_compare 18 = .ok (.getfield 7, 3) := by decide +kernel
theorem dX4_compare_21 : decode cX4_compare 21 = .ok (.iload_n 1, 1) := by decide +kernel
theorem dX4_compare_22 : decode cX4_compare 22 = .ok (.iaload, 1) := by decide +kernel
theorem dX4_compare_23 : decode cX4_compare 23 = .ok (.iconst (-1), 1) := by decide +kernel
theorem dX4_compare_24 : decode cX4_compare 24 = .ok (.if_icmp .eq 13, 3) := by decide +kernel
theorem dX4_compare_27 : decode cX4_compare 27 = .ok (.aload_n 0, 1) := by decide +kernel
theorem dX4_compare_28 : decode cX4_compare 28 = .ok (.getfield 7, 3) := by decide +kernel
theorem dX4_compare_31 : decode cX4_compare 31 = .ok (.iload_n 2, 1) := by decide +kernel
theorem dX4_compare_32 : decode cX4_compare 32 = .ok (.iaload, 1) := by decide +kernel
theorem dX4_compare_33 : decode cX4_compare 33 = .ok (.iconst (-1), 1) := by decide +kernel
theorem dX4_compare_34 : decode cX4_compare 34 = .ok (.if_icmp .ne 9, 3) := by decide +kernel
theorem dX4_compare_37 : decode cX4_compare 37 = .ok (.aload_n 0, 1) := by decide +kernel
theorem dX4_compare_38 : decode cX4_compare 38 = .ok (.iconst 1, 1) := by decide +kernel
theorem dX4_compare_39 : decode cX4_compare 39 = .ok (.invokevirtual 55, 3) := by decide +kernel
theorem dX4_compare_42 : decode cX4_compare 42 = .ok (.ireturn, 1) := by decide +kernel
theorem dX4_compare_43 : decode cX4_compare 43 = .ok (.aload_n 0, 1) := by decide +kernel
theorem dX4_compare_44 : decode cX4_compare 44 = .ok (.iload_n 1, 1) := by decide +kernel
theorem dX4_compare_45 : decode cX4_compare 45 = .ok (.invokevirtual 66, 3) := by decide +kernel
theorem dX4_compare_48 : decode cX4_compare 48 = .ok (.iconst 2, 1) := by decide +kernel
theorem dX4_compare_49 : decode cX4_compare 49 = .ok (.if_icmp .ge 16, 3) := by decide +kernel
theorem dX4_compare_52 : decode cX4_compare 52 = .ok (.aload_n 0, 1) := by decide +kernel
theorem dX4_compare_53 : decode cX4_compare 53 = .ok (.iload_n 1, 1) := by decide +kernel
theorem dX4_compare_54 : decode cX4_compare 54 = .ok (.invokevirtual 66, 3) := by decide +kernel
theorem dX4_compare_57 : decode cX4_compare 57 = .ok (.aload_n 0, 1) := by decide +kernel
theorem dX4_compare_58 : decode cX4_compare 58 = .ok (.iload_n 2, 1) := by decide +kernel
theorem dX4_compare_59 : decode cX4_compare 59 = .ok (.invokevirtual 66, 3) := by decide +kernel
theorem dX4_compare_62 : decode cX4_compare 62 = .ok (.if_icmp .eq 9, 3) := by decide +kernel
theorem dX4_compare_65 : decode cX4_compare 65 = .ok (.aload_n 0, 1) := by decide +kernel
theorem dX4_compare_66 : decode cX4_compare 66 = .ok (.iconst 5, 1) := by decide +kernel
theorem dX4_compare_67 : decode cX4_compare 67 = .ok (.invokevirtual 55, 3) := by decide +kernel
theorem dX4_compare_70 : decode cX4_compare 70 = .ok (.ireturn, 1) := by decide +kernel
theorem dX4_compare_71 : decode cX4_compare 71 = .ok (.aload_n 0, 1) := by decide +kernel
theorem dX4_compare_72 : decode cX4_compare 72 = .ok (.getfield 7, 3) := by decide +kernel
theorem dX4_compare_75 : decode cX4_compare 75 = .ok (.iload_n 1, 1) := by decide +kernel
theorem dX4_compare_76 : decode cX4_compare 76 = .ok (.iaload, 1) := by decide +kernel
theorem dX4_compare_77 : decode cX4_compare 77 = .ok (.istore_n 3, 1) := by decide +kernel
theorem dX4_compare_78 : decode cX4_compare 78 = .ok (.aload_n 0, 1) := by decide +kernel
theorem dX4_compare_79 : decode cX4_compare 79 = .ok (.getfield 7, 3) := by decide +kernel
theorem dX4_compare_82 : decode cX4_compare 82 = .ok (.iload_n 2, 1) := by decide +kernel
theorem dX4_compare_83 : decode cX4_compare 83 = .ok (.iaload, 1) := by decide +kernel
theorem dX4_compare_84 : decode cX4_compare 84 = .ok (.istore 4, 2) := by decide +kernel
theorem dX4_compare_86 : decode cX4_compare 86 = .ok (.iconst 0, 1) := by decide +kernel
theorem dX4_compare_87 : decode cX4_compare 87 = .ok (.istore 5, 2) := by decide +kernel
theorem dX4_compare_89 : decode cX4_compare 89 = .ok (.iload 5, 2) := by decide +kernel
theorem dX4_compare_91 : decode cX4_compare 91 = .ok (.aload_n 0, 1) := by decide +kernel
theorem dX4_compare_92 : decode cX4_compare 92 = .ok (.getfield 16, 3) := by decide +kernel
theorem dX4_compare_95 : decode cX4_compare 95 = .ok (.iload_n 3, 1) := by decide +kernel
theorem dX4_compare_96 : decode cX4_compare 96 = .ok (.iaload, 1) := by decide +kernel
theorem dX4_compare_97 : decode cX4_compare 97 = .ok (.if_icmp .ge 67, 3) := by decide +kernel
theorem dX4_compare_100 : decode cX4_compare 100 = .ok (.iload 5, 2) := by decide +kernel
theorem dX4_compare_102 : decode cX4_compare 102 = .ok (.aload_n 0, 1) := by decide +kernel
theorem dX4_compare_103 : decode cX4_compare 103 = .ok (.getfield 16, 3) := by decide +kernel
theorem dX4_compare_106 : decode cX4_compare 106 = .ok (.iload 4, 2) := by decide +kernel
theorem dX4_compare_108 : decode cX4_compare 108 = .ok (.iaload, 1) := by decide +kernel
theorem dX4_compare_109 : decode cX4_compare 109 = .ok (.if_icmp .ge 55, 3) := by decide +kernel
theorem dX4_compare_112 : decode cX4_compare 112 = .ok (.aload_n 0, 1) := by decide +kernel
theorem dX4_compare_113 : decode cX4_compare 113 = .ok (.iload_n 3, 1) := by decide +kernel
theorem dX4_compare_114 : decode cX4_compare 114 = .ok (.iload 5, 2) := by decide +kernel
theorem dX4_compare_116 : decode cX4_compare 116 = .ok (.invokevirtual 82, 3) := by decide +kernel
theorem dX4_compare_119 : decode cX4_compare 119 = .ok (.aload_n 0, 1) := by decide +kernel
theorem dX4_compare_120 : decode cX4_compare 120 = .ok (.iload 4, 2) := by decide +kernel
theorem dX4_compare_122 : decode cX4_compare 122 = .ok (.iload 5, 2) := by decide +kernel
theorem dX4_compare_124 : decode cX4_compare 124 = .ok (.invokevirtual 82, 3) := by decide +kernel
theorem dX4_compare_127 : decode cX4_compare 127 = .ok (.if_icmp .eq 31, 3) := by decide +kernel
theorem dX4_compare_130 : decode cX4_compare 130 = .ok (.aload_n 0, 1) := by decide +kernel
theorem dX4_compare_131 : decode cX4_compare 131 = .ok (.aload_n 0, 1) := by decide +kernel
theorem dX4_compare_132 : decode cX4_compare 132 = .ok (.iload_n 3, 1) := by decide +kernel
theorem dX4_compare_133 : decode cX4_compare 133 = .ok (.iload 5, 2) := by decide +kernel
theorem dX4_compare_135 : decode cX4_compare 135 = .ok (.invokevirtual 82, 3) := by decide +kernel
theorem dX4_compare_138 : decode cX4_compare 138 = .ok (.aload_n 0, 1) := by decide +kernel
theorem dX4_compare_139 : decode cX4_compare 139 = .ok (.iload 4, 2) := by decide +kernel
theorem dX4_compare_141 : decode cX4_compare 141 = .ok (.iload 5, 2) := by decide +kernel
theorem dX4_compare_143 : decode cX4_compare 143 = .ok (.invokevirtual 82, 3) := by decide +kernel
theorem dX4_compare_146 : decode cX4_compare 146 = .ok (.if_icmp .ge 7, 3) := by decide +kernel
theorem dX4_compare_149 : decode cX4_compare 149 = .ok (.iconst (-1), 1) := by decide +kernel
theorem dX4_compare_150 : decode cX4_compare 150 = .ok (.goto 4, 3) := by decide +kernel
theorem dX4_compare_153 : decode cX4_compare 153 = .ok (.iconst 1, 1) := by decide +kernel
theorem dX4_compare_154 : decode cX4_compare 154 = .ok (.invokevirtual 63, 3) := by decide +kernel
theorem dX4_compare_157 : decode cX4_compare 157 = .ok (.ireturn, 1) := by decide +kernel
theorem dX4_compare_158 : decode cX4_compare 158 = .ok (.iinc 5 1, 3) := by decide +kernel
theorem dX4_compare_161 : decode cX4_compare 161 = .ok (.goto (-72), 3) := by decide +kernel
theorem dX4_compare_164 : decode cX4_compare 164 = .ok (.aload_n 0, 1) := by decide +kernel
theorem dX4_compare_165 : decode cX4_compare 165 = .ok (.aload_n 0, 1) := by decide +kernel
theorem dX4_compare_166 : decode cX4_compare 166 = .ok (.getfield 16, 3) := by decide +kernel
theorem dX4_compare_169 : decode cX4_compare 169 = .ok (.iload_n 3, 1) := by decide +kernel
theorem dX4_compare_170 : decode cX4_compare 170 = .ok (.iaload, 1) := by decide +kernel
theorem dX4_compare_171 : decode cX4_compare 171 = .ok (.aload_n 0, 1) := by decide +kernel
theorem dX4_compare_172 : decode cX4_compare 172 = .ok (.getfield 16, 3) := by decide +kernel
theorem dX4_compare_175 : decode cX4_compare 175 = .ok (.iload 4, 2) := by decide +kernel
theorem dX4_compare_177 : decode cX4_compare 177 = .ok (.iaload, 1) := by decide +kernel
theorem dX4_compare_178 : decode cX4_compare 178 = .ok (.if_icmp .ge 7, 3) := by decide +kernel
theorem dX4_compare_181 : decode cX4_compare 181 = .ok (.iconst (-1), 1) := by decide +kernel
theorem dX4_compare_182 : decode cX4_compare 182 = .ok (.goto 24, 3) := by decide +kernel
theorem dX4_compare_185 : decode cX4_compare 185 = .ok (.aload_n 0, 1) := by decide +kernel
theorem dX4_compare_186 : decode cX4_compare 186 = .ok (.getfield 16, 3) := by decide +kernel
theorem dX4_compare_189 : decode cX4_compare 189 = .ok (.iload_n 3, 1) := by decide +kernel
theorem dX4_compare_190 : decode cX4_compare 190 = .ok (.iaload, 1) := by decide +kernel
theorem dX4_compare_191 : decode cX4_compare 191 = .ok (.aload_n 0, 1) := by decide +kernel
theorem dX4_compare_192 : decode cX4_compare 192 = .ok (.getfield 16, 3) := by decide +kernel
theorem dX4_compare_195 : decode cX4_compare 195 = .ok (.iload 4, 2) := by decide +kernel
theorem dX4_compare_197 : decode cX4_compare 197 = .ok (.iaload, 1) := by decide +kernel
theorem dX4_compare_198 : decode cX4_compare 198 = .ok (.if_icmp .le 7, 3) := by decide +kernel
theorem dX4_compare_201 : decode cX4_compare 201 = .ok (.iconst 1, 1) := by decide +kernel
theorem dX4_compare_202 : decode cX4_compare 202 = .ok (.goto 4, 3) := by decide +kernel
theorem dX4_compare_205 : decode cX4_compare 205 = .ok (.iconst 0, 1) := by decide +kernel
theorem dX4_compare_206 : decode cX4_compare 206 = .ok (.invokevirtual 63, 3) := by decide +kernel
theorem dX4_compare_209 : decode cX4_compare 209 = .ok (.ireturn, 1) := by decide +kernel
set_option maxRecDepth 20000 in
theorem ggX4_held_X4_isPlace : GoodIn wsX4_held wsX4_isPlace := goodIn_r _ [6, 7, 8, 9, 5, 10] (by decide +kernel) (by decide +kernel)
set_option maxRecDepth 20000 in
theorem gX4_held_X4_isPlace : GoodIn wsX4_held (va_wsS RX4 48 yX4_isPlace wsX4_isPlace) := goodIn_app (goodIn_of _ (by decide +kernel)) ggX4_held_X4_isPlace
set_option maxRecDepth 20000 in
theorem ggX4_held_X4_isRow : GoodIn wsX4_held wsX4_isRow := goodIn_r _ [14, 2, 30, 31, 32, 33, 34, 35, 36, 37, 38, 39, 40] (by decide +kernel) (by decide +kernel)
set_option maxRecDepth 20000 in
theorem gX4_held_X4_isRow : GoodIn wsX4_held (wsV RX4 112 RX4 yX4_isRow wsX4_isRow) := goodIn_app (goodIn_of _ (by decide +kernel)) ggX4_held_X4_isRow
set_option maxRecDepth 20000 in
theorem ggX4_held_X4_kindOf : GoodIn wsX4_held wsX4_kindOf := goodIn_r _ [18, 2, 19, 30, 31, 32, 33, 34, 35, 36, 37, 38, 39, 40] (by decide +kernel) (by decide +kernel)
set_option maxRecDepth 20000 in
theorem gX4_held_X4_kindOf : GoodIn wsX4_held (wsV RX4 66 RX4 yX4_kindOf wsX4_kindOf) := goodIn_app (goodIn_of _ (by decide +kernel)) ggX4_held_X4_kindOf
set_option maxRecDepth 20000 in
theorem ggX4_held_X4_lengthOf : GoodIn wsX4_held wsX4_lengthOf := goodIn_r _ [23, 24, 2, 30, 31, 32, 33, 34, 35, 36, 37, 38, 39, 40] (by decide +kernel) (by decide +kernel)
set_option maxRecDepth 20000 in
theorem gX4_held_X4_lengthOf : GoodIn wsX4_held (wsV RX4 75 RX4 yX4_lengthOf wsX4_lengthOf) := goodIn_app (goodIn_of _ (by decide +kernel)) ggX4_held_X4_lengthOf
set_option maxRecDepth 20000 in
theorem ggX4_held_X4_get : GoodIn wsX4_held wsX4_get := goodIn_r _ [28, 29, 30, 31, 32, 33, 34, 35, 36, 37, 38, 39, 40] (by decide +kernel) (by decide +kernel)
set_option maxRecDepth 20000 in
theorem gX4_held_X4_get : GoodIn wsX4_held (wsV RX4 82 RX4 yX4_get wsX4_get) := goodIn_app (goodIn_of _ (by decide +kernel)) ggX4_held_X4_get
theorem dX4_held_0 : decode cX4_held 0 = .ok (.iload_n 1, 1) := by decide +kernel
theorem dX4_held_1 : decode cX4_held 1 = .ok (.invokestatic 48, 3) := by decide +kernel
theorem dX4_held_4 : decode cX4_held 4 = .ok (.ifCond .ne 6, 3) := by decide +kernel
theorem dX4_held_7 : decode cX4_held 7 = .ok (.ldc 54, 2) := by decide +kernel
theorem dX4_held_9 : decode cX4_held 9 = .ok (.ireturn, 1) := by decide +kernel
theorem dX4_held_10 : decode cX4_held 10 = .ok (.aload_n 0, 1) := by decide +kernel
theorem dX4_held_11 : decode cX4_held 11 = .ok (.getfield 7, 3) := by decide +kernel
theorem dX4_held_14 : decode cX4_held 14 = .ok (.iload_n 1, 1) := by decide +kernel
theorem dX4_held_15 : decode cX4_held 15 = .ok (.iaload, 1) := by decide +kernel
theorem dX4_held_16 : decode cX4_held 16 = .ok (.istore_n 2, 1) := by decide +kernel
theorem dX4_held_17 : decode cX4_held 17 = .ok (.iconst 0, 1) := by decide +kernel
theorem dX4_held_18 : decode cX4_held 18 = .ok (.istore_n 3, 1) := by decide +kernel
theorem dX4_held_19 : decode cX4_held 19 = .ok (.iconst 0, 1) := by decide +kernel
theorem dX4_held_20 : decode cX4_held 20 = .ok (.istore 4, 2) := by decide +kernel
theorem dX4_held_22 : decode cX4_held 22 = .ok (.iload 4, 2) := by decide +kernel
theorem dX4_held_24 : decode cX4_held 24 = .ok (.bipush 12, 2) := by decide +kernel
theorem dX4_held_26 : decode cX4_held 26 = .ok (.if_icmp .ge 154, 3) := by decide +kernel
theorem dX4_held_29 : decode cX4_held 29 = .ok (.iload_n 2, 1) := by decide +kernel
theorem dX4_held_30 : decode cX4_held 30 = .ok (.iconst (-1), 1) := by decide +kernel
theorem dX4_held_31 : decode cX4_held 31 = .ok (.if_icmp .eq 149, 3) := by decide +kernel
theorem dX4_held_34 : decode cX4_held 34 = .ok (.iload_n 3, 1) := by decide +kernel
theorem dX4_held_35 : decode cX4_held 35 = .ok (.aload_n 0, 1) := by decide +kernel
theorem dX4_held_36 : decode cX4_held 36 = .ok (.getfield 7, 3) := by decide +kernel
theorem dX4_held_39 : decode cX4_held 39 = .ok (.iload 4, 2) := by decide +kernel
theorem dX4_held_41 : decode cX4_held 41 = .ok (.iaload, 1) := by decide +kernel
theorem dX4_held_42 : decode cX4_held 42 = .ok (.iload_n 2, 1) := by decide +kernel
theorem dX4_held_43 : decode cX4_held 43 = .ok (.if_icmp .ne 7, 3) := by decide +kernel
theorem dX4_held_46 : decode cX4_held 46 = .ok (.iconst 1, 1) := by decide +kernel
theorem dX4_held_47 : decode cX4_held 47 = .ok (.goto 4, 3) := by decide +kernel
theorem dX4_held_50 : decode cX4_held 50 = .ok (.iconst 0, 1) := by decide +kernel
theorem dX4_held_51 : decode cX4_held 51 = .ok (.iadd, 1) := by decide +kernel
theorem dX4_held_52 : decode cX4_held 52 = .ok (.istore_n 3, 1) := by decide +kernel
theorem dX4_held_53 : decode cX4_held 53 = .ok (.aload_n 0, 1) := by decide +kernel
theorem dX4_held_54 : decode cX4_held 54 = .ok (.iload 4, 2) := by decide +kernel
theorem dX4_held_56 : decode cX4_held 56 = .ok (.invokevirtual 112, 3) := by decide +kernel
theorem dX4_held_59 : decode cX4_held 59 = .ok (.ifCond .eq 17, 3) := by decide +kernel
theorem dX4_held_62 : decode cX4_held 62 = .ok (.aload_n 0, 1) := by decide +kernel
theorem dX4_held_63 : decode cX4_held 63 = .ok (.iload 4, 2) := by decide +kernel
theorem dX4_held_65 : decode cX4_held 65 = .ok (.invokevirtual 66, 3) := by decide +kernel
theorem dX4_held_68 : decode cX4_held 68 = .ok (.iconst 2, 1) := by decide +kernel
theorem dX4_held_69 : decode cX4_held 69 = .ok (.if_icmp .ne 7, 3) := by decide +kernel
theorem dX4_held_72 : decode cX4_held 72 = .ok (.iconst 1, 1) := by decide +kernel
theorem dX4_held_73 : decode cX4_held 73 = .ok (.goto 4, 3) := by decide +kernel
theorem dX4_held_76 : decode cX4_held 76 = .ok (.iconst 0, 1) := by decide +kernel
theorem dX4_held_77 : decode cX4_held 77 = .ok (.istore 5, 2) := by decide +kernel
theorem dX4_held_79 : decode cX4_held 79 = .ok (.iconst 0, 1) := by decide +kernel
theorem dX4_held_80 : decode cX4_held 80 = .ok (.istore 6, 2) := by decide +kernel
theorem dX4_held_82 : decode cX4_held 82 = .ok (.iload 6, 2) := by decide +kernel
theorem dX4_held_84 : decode cX4_held 84 = .ok (.iload 4, 2) := by decide +kernel
theorem dX4_held_86 : decode cX4_held 86 = .ok (.if_icmp .ge 38, 3) := by decide +kernel
theorem dX4_held_89 : decode cX4_held 89 = .ok (.iload 5, 2) := by decide +kernel
theorem dX4_held_91 : decode cX4_held 91 = .ok (.ifCond .eq 24, 3) := by decide +kernel
theorem dX4_held_94 : decode cX4_held 94 = .ok (.aload_n 0, 1) := by decide +kernel
theorem dX4_held_95 : decode cX4_held 95 = .ok (.getfield 7, 3) := by decide +kernel
theorem dX4_held_98 : decode cX4_held 98 = .ok (.iload 6, 2) := by decide +kernel
theorem dX4_held_100 : decode cX4_held 100 = .ok (.iaload, 1) := by decide +kernel
theorem dX4_held_101 : decode cX4_held 101 = .ok (.aload_n 0, 1) := by decide +kernel
theorem dX4_held_102 : decode cX4_held 102 = .ok (.getfield 7, 3) := by decide +kernel
theorem dX4_held_105 : decode cX4_held 105 = .ok (.iload 4, 2) := by decide +kernel
theorem dX4_held_107 : decode cX4_held 107 = .ok (.iaload, 1) := by decide +kernel
theorem dX4_held_108 : decode cX4_held 108 = .ok (.if_icmp .eq 7, 3) := by decide +kernel
theorem dX4_held_111 : decode cX4_held 111 = .ok (.iconst 1, 1) := by decide +kernel
theorem dX4_held_112 : decode cX4_held 112 = .ok (.goto 4, 3) := by decide +kernel
theorem dX4_held_115 : decode cX4_held 115 = .ok (.iconst 0, 1) := by decide +kernel
theorem dX4_held_116 : decode cX4_held 116 = .ok (.istore 5, 2) := by decide +kernel
theorem dX4_held_118 : decode cX4_held 118 = .ok (.iinc 6 1, 3) := by decide +kernel
theorem dX4_held_121 : decode cX4_held 121 = .ok (.goto (-39), 3) := by decide +kernel
theorem dX4_held_124 : decode cX4_held 124 = .ok (.iconst 0, 1) := by decide +kernel
theorem dX4_held_125 : decode cX4_held 125 = .ok (.istore 6, 2) := by decide +kernel
theorem dX4_held_127 : decode cX4_held 127 = .ok (.iload 5, 2) := by decide +kernel
theorem dX4_held_129 : decode cX4_held 129 = .ok (.ifCond .eq 45, 3) := by decide +kernel
theorem dX4_held_132 : decode cX4_held 132 = .ok (.iload 6, 2) := by decide +kernel
theorem dX4_held_134 : decode cX4_held 134 = .ok (.aload_n 0, 1) := by decide +kernel
theorem dX4_held_135 : decode cX4_held 135 = .ok (.iload 4, 2) := by decide +kernel
theorem dX4_held_137 : decode cX4_held 137 = .ok (.invokevirtual 75, 3) := by decide +kernel
theorem dX4_held_140 : decode cX4_held 140 = .ok (.if_icmp .ge 34, 3) := by decide +kernel
theorem dX4_held_143 : decode cX4_held 143 = .ok (.iload_n 3, 1) := by decide +kernel
theorem dX4_held_144 : decode cX4_held 144 = .ok (.aload_n 0, 1) := by decide +kernel
theorem dX4_held_145 : decode cX4_held 145 = .ok (.aload_n 0, 1) := by decide +kernel
theorem dX4_held_146 : decode cX4_held 146 = .ok (.getfield 7, 3) := by decide +kernel
theorem dX4_held_149 : decode cX4_held 149 = .ok (.iload 4, 2) := by decide +kernel
theorem dX4_held_151 : decode cX4_held 151 = .ok (.iaload, 1) := by decide +kernel
theorem dX4_held_152 : decode cX4_held 152 = .ok (.iload 6, 2) := by decide +kernel
theorem dX4_held_154 : decode cX4_held 154 = .ok (.invokevirtual 82, 3) := by decide +kernel
theorem dX4_held_157 : decode cX4_held 157 = .ok (.iload_n 2, 1) := by decide +kernel
theorem dX4_held_158 : decode cX4_held 158 = .ok (.if_icmp .ne 7, 3) := by decide +kernel
theorem dX4_held_161 : decode cX4_held 161 = .ok (.iconst 1, 1) := by decide +kernel
theorem dX4_held_162 : decode cX4_held 162 = .ok (.goto 4, 3) := by decide +kernel
theorem dX4_held_165 : decode cX4_held 165 = .ok (.iconst 0, 1) := by decide +kernel
theorem dX4_held_166 : decode cX4_held 166 = .ok (.iadd, 1) := by decide +kernel
theorem dX4_held_167 : decode cX4_held 167 = .ok (.istore_n 3, 1) := by decide +kernel
theorem dX4_held_168 : decode cX4_held 168 = .ok (.iinc 6 1, 3) := by decide +kernel
theorem dX4_held_171 : decode cX4_held 171 = .ok (.goto (-44), 3) := by decide +kernel
theorem dX4_held_174 : decode cX4_held 174 = .ok (.iinc 4 1, 3) := by decide +kernel
theorem dX4_held_177 : decode cX4_held 177 = .ok (.goto (-155), 3) := by decide +kernel
theorem dX4_held_180 : decode cX4_held 180 = .ok (.iload_n 3, 1) := by decide +kernel
theorem dX4_held_181 : decode cX4_held 181 = .ok (.ireturn, 1) := by decide +kernel
end
section
/-! the world as a function from addresses to cells; rows that read it, change it, make cells; calls by contract -/
abbrev Wd : Type := Nat → Option va_E
/-- what the tables give at a start: numbers and slots of our kinds of objects, numbers of the three kinds of arrays -/
abbrev En : Type := va_G × ClassId × ClassId × ClassId
abbrev tyE (E : En) : List (ClassId × FieldType) := [(E.2.1, .int), (E.2.2.1, .object "CopyRows$Part"), (E.2.2.2, .object "CopyRows$Row")]
def Hv (E : En) (A : Nat → Prop) (w : Wd) (H : Heap) : Prop := ∃ ws : va_W, va_P E.1 vwCl ws H ∧ va_D A ws ∧ ∀ (a : Nat) (x : va_E), w a = some x → ∃ k : Nat, ws[k]? = some (a, x)
theorem wu_set {w : Wd} {ws : va_W} (hw : ∀ (a : Nat) (x : va_E), w a = some x → ∃ k : Nat, ws[k]? = some (a, x)) {k a : Nat} {x0 x : va_E} (hk : ws[k]? = some (a, x0)) : ∀ (b : Nat) (y : va_E), va_up w a (some x) b = some y → ∃ j : Nat, (ws.set k (a, x))[j]? = some (b, y) := by
  intro b y h
  by_cases hb : b = a
  · subst hb
    rw [va_up_self] at h
    cases h
    exact ⟨k, List.getElem?_set_self (List.getElem?_eq_some_iff.mp hk).1⟩
  · rw [va_up_ne _ _ hb] at h
    obtain ⟨j, hj⟩ := hw b y h
    refine ⟨j, ?_⟩
    have hne : k ≠ j := by
      intro q
      subst q
      have h2 := hj.symm.trans hk
      injection h2 with h3
      injection h3 with h4 h5
      exact hb h4
    rw [List.getElem?_set_ne hne]
    exact hj
theorem wu_push {w : Wd} {ws : va_W} (hw : ∀ (a : Nat) (x : va_E), w a = some x → ∃ k : Nat, ws[k]? = some (a, x)) {a : Nat} {x : va_E} : ∀ (b : Nat) (y : va_E), va_up w a (some x) b = some y → ∃ j : Nat, (ws ++ [(a, x)])[j]? = some (b, y) := by
  intro b y h
  by_cases hb : b = a
  · subst hb
    rw [va_up_self] at h
    cases h
    exact ⟨ws.length, by simp⟩
  · rw [va_up_ne _ _ hb] at h
    obtain ⟨j, hj⟩ := hw b y h
    exact ⟨j, by rw [List.getElem?_append_left (List.getElem?_eq_some_iff.mp hj).1]; exact hj⟩
theorem wu_new {A : Nat → Prop} {w : Wd} {ws : va_W} (hw : ∀ (a : Nat) (x : va_E), w a = some x → ∃ k : Nat, ws[k]? = some (a, x)) {a : Nat} {x : va_E} (hD : va_D A (ws ++ [(a, x)])) : w a = none := by
  cases h : w a with
  | none => rfl
  | some y =>
    obtain ⟨k, hk⟩ := hw a y h
    have hl := (List.getElem?_eq_some_iff.mp hk).1
    have e := hD.1 k ws.length (a, y) (a, x) (by rw [List.getElem?_append_left hl]; exact hk) (by simp) rfl
    omega
theorem Hv.in {E : En} {A : Nat → Prop} {w : Wd} {H : Heap} (h : Hv E A w H) {a : Nat} {x : va_E} (ha : w a = some x) : A a ∧ a < H.size := by
  obtain ⟨ws, hP, hD, hw⟩ := h
  obtain ⟨k, hk⟩ := hw a x ha
  exact ⟨hD.2 k _ hk, (hP k _ hk).lt⟩
/-- fewer cells -/
theorem Hv.less {E : En} {A : Nat → Prop} {w w1 : Wd} {H : Heap} (h : Hv E A w H) (hw1 : ∀ (a : Nat) (x : va_E), w1 a = some x → w a = some x) : Hv E A w1 H := by
  obtain ⟨ws, hP, hD, hw⟩ := h
  exact ⟨ws, hP, hD, fun a x q => hw a x (hw1 a x q)⟩
/-- what the tables say, all that the walks ask beside a method's own words -/
def Tf (E : En) (U : State) : Prop := va_K E.1 vwCl (tyE E) U ∧ va_AO "CopyRows$Part" U ∧ va_AO "CopyRows$Row" U ∧ va_Nw (.methodLinkNest RX1 3 yX0_init "CopyRows") U ∧ va_Nw (.methodLinkNest RX2 3 yX0_init "CopyRows") U ∧ va_Nw (.declares ⟨"CopyRows$Part", "fitsInto", "(I)Z"⟩) U ∧ va_Nw (.declares ⟨"CopyRows$Part", "shown", "()I"⟩) U ∧ va_Nw (.castable RX1 "CopyRows$Part") U ∧ va_Nw (.castable RX2 "CopyRows$Part") U ∧ va_Nw (.castable RX1 "CopyRows$Row") U ∧ va_Nw (.castable RX2 "CopyRows$Thing") U
theorem Tf.warm {E : En} {s U : State} (hW : s.WarmedH U.vm) (h : Tf E s) : Tf E U := by
  obtain ⟨h1, h2, h3, h4, h5, h6, h7, h8, h9, h10, h11⟩ := h
  exact ⟨va_K.moved hW.alike h1, h2.moved hW.alike, h3.moved hW.alike, h4.warmM hW, h5.warmM hW, h6.warmD hW, h7.warmD hW, h8.warmC hW, h9.warmC hW, h10.warmC hW, h11.warmC hW⟩
theorem Tf.same {E : En} {u U : State} (hvm : u.vm = U.vm) (h : Tf E u) : Tf E U := by
  obtain ⟨h1, h2, h3, h4, h5, h6, h7, h8, h9, h10, h11⟩ := h
  have hal : u.vm.Alike U.vm := by rw [hvm]; exact Vm.Alike.refl _
  exact ⟨va_K.moved hal h1, h2.moved hal, h3.moved hal, h4.same rfl hvm, h5.same rfl hvm, h6.same rfl hvm, h7.same rfl hvm, h8.same rfl hvm, h9.same rfl hvm, h10.same rfl hvm, h11.same rfl hvm⟩
def Iv (E : En) (A : Nat → Prop) (w : Wd) (U : State) : Prop := Tf E U ∧ Hv E A w U.heap ∧ ∀ q : Nat, U.heap.size ≤ q → A q
/-- the end of a method: its answer and the world behind it -/
def Qg (Post : Option Value → Wd → Prop) (E : En) (A : Nat → Prop) : Array Value → State → Outcome → State → Prop := fun _ st oc t => (∃ (r : Option Value) (w' : Wd), oc = .returned r ∧ Post r w' ∧ Iv E A w' t) ∧ va_F A st t
/-- a contract -/
def Ct (l : Launch) (y : MethodName) (ws : List Cond) (rm : Room) (E : En) (A : Nat → Prop) (w : Wd) (As : List Value) (Post : Option Value → Wd → Prop) (mc ms : Nat) : Prop := Met l y ws rm (va_Pc As (Iv E A w)) (Qg Post E A) mc ms A
theorem Ct.mono {l : Launch} {y : MethodName} {ws : List Cond} {rm : Room} {E : En} {A : Nat → Prop} {w : Wd} {As : List Value} {Post Post2 : Option Value → Wd → Prop} {mc ms : Nat} (h : Ct l y ws rm E A w As Post mc ms) (hp : ∀ r w', Post r w' → Post2 r w') : Ct l y ws rm E A w As Post2 mc ms := by
  intro p e ha hc hk s m args below hf happ hP _
  obtain ⟨k, o, h1, h2, h3, ⟨⟨r, w', e1, e2, e3⟩, hF⟩, hL⟩ := h p e ha hc hk s m args below hf happ hP trivial
  exact ⟨k, o, h1, h2, h3, ⟨⟨r, w', e1, hp r w' e2, e3⟩, hF⟩, hL⟩
theorem Iv.blind {E : En} {A : Nat → Prop} {w : Wd} {As : List Value} : FrameBlind (va_Pc As (Iv E A w)) := by
  intro a U g mk h
  obtain ⟨h0, h1, h2, h3⟩ := h
  exact ⟨h0, Tf.same (u := U) (U := U.calling g mk a) rfl h1, h2, h3⟩
section WR
variable {p : Program} {l : Launch} {e : Env} {R : Room} {s : State} {m : MethodId} {args : Array Value} {below : List Frame} {meth : Method} {c : Code} {H : Heap} {locs : List Loc} {cells slots : Nat} {Q : State → Prop}
variable {cc : ByteArray} {pc : Nat} {ls : Array Slot} {rest st0 : List Value} {E : En} {A : Nat → Prop} {a : Nat} {w : Wd} {H0 : Heap}
theorem Iv.ready (hT : Tf E s) (hI : Hv E A w H) (hA : ∀ q : Nat, H0.size ≤ q → A q) (hS : va_S A H0 H locs) {As : List Value} : ∀ U : State, U.heap = H → s.WarmedH U.vm → va_Pc As (Iv E A w) As.toArray U := fun U hU hW => ⟨rfl, hT.warm hW, by rw [hU]; exact hI, fun q h => hA q (Nat.le_trans hS.1 (by rw [← hU]; exact h))⟩
theorem wr_get (hexec : p.tables.exec = Jvm.exec) (hb : c.code = cc) {own C : String} {T : u_T} {N ci index : Nat} {Ts : List Cond} (hts : ∀ w ∈ Ts, w.before args s = true) (hin : ∀ w ∈ u_ws C T N, w ∈ Ts) (hown : s.vm.findClass own = some m.cls) (hT : Tf E s) (hI : Hv E A w H) {fs : List Value} (he : w a = some (.inr (ci, fs))) (hc : vwCl[ci]? = some (C, T, N)) (k : Nat) (hk : k < N) (hlink : (Cond.fieldLink own index (T k).1 (T k).2.1 (T k).2.2.1).before args s = true) {v : Value} (hv : fs[k]? = some v) (hdg : decode cc pc = .ok (.getfield index, 3))
    (kk : W p l e R s m args below meth c H locs cells slots Q (F0 m (pc + 3) ls (v :: rest))) : W p l e R s m args below meth c H locs cells slots Q (F0 m pc ls (.ref a :: rest)) := by
  obtain ⟨ws, hP, hD, hw⟩ := hI
  obtain ⟨j, hj⟩ := hw _ _ he
  exact va_get hexec hb hts hin hown hT.1 hP j hj hc k hk hlink (fun _ h => h) hv hdg kk
theorem wr_put (hexec : p.tables.exec = Jvm.exec) (hb : c.code = cc) {own C : String} {T : u_T} {N ci index : Nat} {Ts : List Cond} (hts : ∀ w ∈ Ts, w.before args s = true) (hin : ∀ w ∈ u_ws C T N, w ∈ Ts) (ty0 : Nat → FieldType) (hty : ∀ k, k < N → parseFieldDescriptor (T k).2.2.1 = some (ty0 k)) (hnm : ∀ a, a < N → ∀ b, b < N → a ≠ b → (T a).2.1 ≠ (T b).2.1) (hown : s.vm.findClass own = some m.cls) (hT : Tf E s) (hI : Hv E A w H) (hS : va_S A H0 H locs) {fs : List Value} (he : w a = some (.inr (ci, fs))) (hc : vwCl[ci]? = some (C, T, N)) (k : Nat) (hk : k < N) (hlink : (Cond.fieldLink own index (T k).1 (T k).2.1 (T k).2.2.1).before args s = true) (hfin : (T k).2.2.2 = false) {ty : FieldType} {v : Value} (hd : parseFieldDescriptor (T k).2.2.1 = some ty) (hn : narrow ty v = v) (hfit : fits ty v = true) (hl : k < fs.length) (hdg : decode cc pc = .ok (.putfield index, 3))
    (kk : ∀ (H1 : Heap) (locs1 : List Loc), Hv E A (va_up w a (some (.inr (ci, fs.set k v)))) H1 → va_S A H0 H1 locs1 → W p l e R s m args below meth c H1 locs1 cells slots Q (F0 m (pc + 3) ls rest)) : W p l e R s m args below meth c H locs cells slots Q (F0 m pc ls (v :: .ref a :: rest)) := by
  obtain ⟨ws, hP, hD, hw⟩ := hI
  obtain ⟨j, hj⟩ := hw _ _ he
  exact va_put hexec hb hts hin ty0 hty hnm hown hT.1 hP hD hS j hj hc k hk hlink (fun _ h => h) hfin hd hn hfit hl hdg (fun H1 locs1 hP1 hD1 hS1 => kk H1 locs1 ⟨_, hP1, hD1, wu_set hw hj⟩ hS1)
theorem wr_putF (hexec : p.tables.exec = Jvm.exec) (hb : c.code = cc) {own C : String} {T : u_T} {N ci index : Nat} {Ts : List Cond} (hts : ∀ w ∈ Ts, w.before args s = true) (hin : ∀ w ∈ u_ws C T N, w ∈ Ts) (ty0 : Nat → FieldType) (hty : ∀ k, k < N → parseFieldDescriptor (T k).2.2.1 = some (ty0 k)) (hnm : ∀ a, a < N → ∀ b, b < N → a ≠ b → (T a).2.1 ≠ (T b).2.1) (hown : s.vm.findClass own = some m.cls) (hT : Tf E s) (hI : Hv E A w H) (hS : va_S A H0 H locs) {fs : List Value} (he : w a = some (.inr (ci, fs))) (hc : vwCl[ci]? = some (C, T, N)) (k : Nat) (hk : k < N) (hlink : (Cond.fieldLink own index (T k).1 (T k).2.1 (T k).2.2.1).before args s = true) (hfin : (T k).2.2.2 = true) (hin2 : meth.name = "<init>") (hdecl : (T k).1 = own) {ty : FieldType} {v : Value} (hd : parseFieldDescriptor (T k).2.2.1 = some ty) (hn : narrow ty v = v) (hfit : fits ty v = true) (hl : k < fs.length) (hdg : decode cc pc = .ok (.putfield index, 3))
    (kk : ∀ (H1 : Heap) (locs1 : List Loc), Hv E A (va_up w a (some (.inr (ci, fs.set k v)))) H1 → va_S A H0 H1 locs1 → W p l e R s m args below meth c H1 locs1 cells slots Q (F0 m (pc + 3) ls rest)) : W p l e R s m args below meth c H locs cells slots Q (F0 m pc ls (v :: .ref a :: rest)) := by
  obtain ⟨ws, hP, hD, hw⟩ := hI
  obtain ⟨j, hj⟩ := hw _ _ he
  exact va_putF hexec hb hts hin ty0 hty hnm hown hT.1 hP hD hS j hj hc k hk hlink (fun _ h => h) hfin hin2 hdecl hd hn hfit hl hdg (fun H1 locs1 hP1 hD1 hS1 => kk H1 locs1 ⟨_, hP1, hD1, wu_set hw hj⟩ hS1)
theorem wr_iald (hexec : p.tables.exec = Jvm.exec) (hb : c.code = cc) (hT : Tf E s) (hI : Hv E A w H) {n : Nat} {f : Nat → Int32} (he : w a = some (.inl (E.2.1, n, .inl f))) {i : Int32} (hin : vp_in i n) (hdg : decode cc pc = .ok (.iaload, 1))
    (kk : W p l e R s m args below meth c H locs cells slots Q (F0 m (pc + 1) ls (.int (f i.toNatClampNeg) :: rest))) : W p l e R s m args below meth c H locs cells slots Q (F0 m pc ls (.int i :: .ref a :: rest)) := by
  obtain ⟨ws, hP, hD, hw⟩ := hI
  obtain ⟨j, hj⟩ := hw _ _ he
  exact va_iald hexec hb hT.1 hP j 0 hj rfl hin hdg kk
theorem wr_iast (hexec : p.tables.exec = Jvm.exec) (hb : c.code = cc) (hT : Tf E s) (hI : Hv E A w H) (hS : va_S A H0 H locs) {n : Nat} {f : Nat → Int32} (he : w a = some (.inl (E.2.1, n, .inl f))) {i x : Int32} (hin : vp_in i n) (hdg : decode cc pc = .ok (.iastore, 1))
    (kk : ∀ (H1 : Heap) (locs1 : List Loc), Hv E A (va_up w a (some (.inl (E.2.1, n, .inl (upd f i.toNatClampNeg x))))) H1 → va_S A H0 H1 locs1 → W p l e R s m args below meth c H1 locs1 cells slots Q (F0 m (pc + 1) ls rest)) : W p l e R s m args below meth c H locs cells slots Q (F0 m pc ls (.int x :: .int i :: .ref a :: rest)) := by
  obtain ⟨ws, hP, hD, hw⟩ := hI
  obtain ⟨j, hj⟩ := hw _ _ he
  exact va_iast hexec hb hT.1 hP hD hS j 0 hj rfl hin hdg (fun H1 locs1 hP1 hD1 hS1 => kk H1 locs1 ⟨_, hP1, hD1, wu_set hw hj⟩ hS1)
theorem wr_alen (hexec : p.tables.exec = Jvm.exec) (hb : c.code = cc) (hT : Tf E s) (hI : Hv E A w H) {cA : ClassId} {x : vp_A} (he : w a = some (.inl (cA, x))) (t0 : Nat) {ty : FieldType} (ht : (tyE E)[t0]? = some (cA, ty)) (hdg : decode cc pc = .ok (.arraylength, 1))
    (kk : W p l e R s m args below meth c H locs cells slots Q (F0 m (pc + 1) ls (.int (nI x.1) :: rest))) : W p l e R s m args below meth c H locs cells slots Q (F0 m pc ls (.ref a :: rest)) := by
  obtain ⟨ws, hP, hD, hw⟩ := hI
  obtain ⟨j, hj⟩ := hw _ _ he
  exact va_alen hexec hb hT.1 hP j t0 hj ht (v := nI x.1) rfl hdg kk
theorem wr_aald (hexec : p.tables.exec = Jvm.exec) (hb : c.code = cc) (hT : Tf E s) (hI : Hv E A w H) {cA : ClassId} {n : Nat} {f : Nat → Option Nat} (he : w a = some (.inl (cA, n, .inr (.inr (.inr (.inr f)))))) (t0 : Nat) {C : String} (ht : (tyE E)[t0]? = some (cA, .object C)) {i : Int32} (hin : vp_in i n) (hdg : decode cc pc = .ok (.aaload, 1))
    (kk : W p l e R s m args below meth c H locs cells slots Q (F0 m (pc + 1) ls (va_rf (f i.toNatClampNeg) :: rest))) : W p l e R s m args below meth c H locs cells slots Q (F0 m pc ls (.int i :: .ref a :: rest)) := by
  obtain ⟨ws, hP, hD, hw⟩ := hI
  obtain ⟨j, hj⟩ := hw _ _ he
  exact va_aldq hexec hb hT.1 hP j t0 hj ht hin hdg kk
theorem wr_any (hT : Tf E s) (hI : Hv E A w H) {ci v : Nat} {fs : List Value} {r : vw_C} {C : String} (hv : w v = some (.inr (ci, fs))) (hc : vwCl[ci]? = some r) (hca : va_Nw (.castable r.1 C) s) : va_Any C s H v := by
  obtain ⟨ws, hP, hD, hw⟩ := hI
  obtain ⟨j, hj⟩ := hw _ _ hv
  exact va_rAny hT.1 hP hj hc (fun comp c0 h1 h2 => vb_asgC hca comp c0 h1 h2)
theorem wr_aast (hexec : p.tables.exec = Jvm.exec) (hb : c.code = cc) (hT : Tf E s) (hI : Hv E A w H) (hS : va_S A H0 H locs) {cA : ClassId} {n v : Nat} {f : Nat → Option Nat} (he : w a = some (.inl (cA, n, .inr (.inr (.inr (.inr f)))))) (t0 : Nat) {C : String} (ht : (tyE E)[t0]? = some (cA, .object C)) (hr : va_Any C s H v) {i : Int32} (hin : vp_in i n) (hdg : decode cc pc = .ok (.aastore, 1))
    (kk : ∀ (H1 : Heap) (locs1 : List Loc), Hv E A (va_up w a (some (.inl (cA, n, .inr (.inr (.inr (.inr (va_up f i.toNatClampNeg (some v))))))))) H1 → va_S A H0 H1 locs1 → W p l e R s m args below meth c H1 locs1 cells slots Q (F0 m (pc + 1) ls rest)) : W p l e R s m args below meth c H locs cells slots Q (F0 m pc ls (.ref v :: .int i :: .ref a :: rest)) := by
  obtain ⟨ws, hP, hD, hw⟩ := hI
  obtain ⟨j, hj⟩ := hw _ _ he
  exact va_astqM hexec hb hT.1 hP hD hS j t0 hj ht hr hin hdg (fun H1 locs1 hP1 hD1 hS1 => kk H1 locs1 ⟨_, hP1, hD1, wu_set hw hj⟩ hS1)
theorem wr_aastN (hexec : p.tables.exec = Jvm.exec) (hb : c.code = cc) (hT : Tf E s) (hI : Hv E A w H) (hS : va_S A H0 H locs) {cA : ClassId} {n : Nat} {f : Nat → Option Nat} (he : w a = some (.inl (cA, n, .inr (.inr (.inr (.inr f)))))) (t0 : Nat) {C : String} (ht : (tyE E)[t0]? = some (cA, .object C)) {i : Int32} (hin : vp_in i n) (hdg : decode cc pc = .ok (.aastore, 1))
    (kk : ∀ (H1 : Heap) (locs1 : List Loc), Hv E A (va_up w a (some (.inl (cA, n, .inr (.inr (.inr (.inr (va_up f i.toNatClampNeg none)))))))) H1 → va_S A H0 H1 locs1 → W p l e R s m args below meth c H1 locs1 cells slots Q (F0 m (pc + 1) ls rest)) : W p l e R s m args below meth c H locs cells slots Q (F0 m pc ls (.null :: .int i :: .ref a :: rest)) := by
  obtain ⟨ws, hP, hD, hw⟩ := hI
  obtain ⟨j, hj⟩ := hw _ _ he
  exact va_astqN hexec hb hT.1 hP hD hS j t0 hj ht hin hdg (fun H1 locs1 hP1 hD1 hS1 => kk H1 locs1 ⟨_, hP1, hD1, wu_set hw hj⟩ hS1)
theorem wr_newi (hexec : p.tables.exec = Jvm.exec) (hb : c.code = cc) (harr : (Cond.arrayClass .int).before args s = true) (hT : Tf E s) (hI : Hv E A w H) (hS : va_S A H0 H locs) (hA : ∀ q : Nat, H0.size ≤ q → A q) {n : Int32} {N : Nat} (hn : ¬ n < 0) (hN : n.toNatClampNeg = N) (hbytes : N * 4 ≤ 536870912) (hcells : cells + 1 ≤ R.cells) (hslots : slots + N ≤ R.slots) (hdg : decode cc pc = .ok (.newarray .int, 2))
    (kk : ∀ (q : Nat) (H1 : Heap), w q = none → Hv E A (va_up w q (some (.inl (E.2.1, N, .inl (fun _ => 0))))) H1 → va_S A H0 H1 locs → W p l e R s m args below meth c H1 locs (cells + 1) (slots + N) Q (F0 m (pc + 2) ls (.ref q :: rest))) : W p l e R s m args below meth c H locs cells slots Q (F0 m pc ls (.int n :: rest)) := by
  obtain ⟨ws, hP, hD, hw⟩ := hI
  refine va_newa (ty := .int) (a0 := (N, .inl (fun _ => 0))) hexec hb (atype := .int) harr rfl hT.1 hP hD hS hA (fun cA => by rw [vp_cell_i]; rfl) hn hN hbytes hcells hslots hdg (fun q cA H1 hK1 hP1 hD1 hS1 => ?_)
  have e : cA = E.2.1 := by
    have h1 := va_nm_int (hK1.2 3 (cA, .int) rfl).2
    have h2 := va_nm_int (hT.1.2 0 (E.2.1, .int) rfl).2
    exact Option.some.inj (h1.symm.trans h2)
  subst e
  exact kk q H1 (wu_new hw hD1) ⟨_, hP1, hD1, wu_push hw⟩ hS1
theorem wr_newq (hexec : p.tables.exec = Jvm.exec) (hb : c.code = cc) {own C : String} {index : Nat} (hown : s.vm.findClass own = some m.cls) (hclink : (Cond.classLink own index C).before args s = true) (hover : va_AO C s) (t0 : Nat) {cB : ClassId} (ht : (tyE E)[t0]? = some (cB, .object C)) (hT : Tf E s) (hI : Hv E A w H) (hS : va_S A H0 H locs) (hA : ∀ q : Nat, H0.size ≤ q → A q) {n : Int32} {N : Nat} (hn : ¬ n < 0) (hN : n.toNatClampNeg = N) (hbytes : N * 4 ≤ 536870912) (hcells : cells + 1 ≤ R.cells) (hslots : slots + N ≤ R.slots) (hdg : decode cc pc = .ok (.anewarray index, 3))
    (kk : ∀ (q : Nat) (H1 : Heap), w q = none → Hv E A (va_up w q (some (.inl (cB, N, .inr (.inr (.inr (.inr (fun _ => none)))))))) H1 → va_S A H0 H1 locs → W p l e R s m args below meth c H1 locs (cells + 1) (slots + N) Q (F0 m (pc + 3) ls (.ref q :: rest))) : W p l e R s m args below meth c H locs cells slots Q (F0 m pc ls (.int n :: rest)) := by
  obtain ⟨ws, hP, hD, hw⟩ := hI
  refine va_newq hexec hb hown hclink hover hT.1 hP hD hS hA hn hN hbytes hcells hslots hdg (fun q cA H1 hK1 hP1 hD1 hS1 => ?_)
  have e : cA = cB := by
    obtain ⟨_, _, _, _, _, h1⟩ := (hK1.2 3 (cA, .object C) rfl).2
    obtain ⟨_, _, _, _, _, h2⟩ := (hT.1.2 t0 (cB, .object C) ht).2
    exact Option.some.inj (h1.symm.trans h2)
  subst e
  exact kk q H1 (wu_new hw hD1) ⟨_, hP1, hD1, wu_push hw⟩ hS1
theorem wr_new (hexec : p.tables.exec = Jvm.exec) (hb : c.code = cc) {own C : String} {T : u_T} {N ci index : Nat} {Ts : List Cond} (hts : ∀ w ∈ Ts, w.before args s = true) (hin : ∀ w ∈ u_ws C T N, w ∈ Ts) (ty : Nat → FieldType) (hty : ∀ k, k < N → parseFieldDescriptor (T k).2.2.1 = some (ty k)) (hown : s.vm.findClass own = some m.cls) (hcl : (Cond.classLink own index C).before args s = true) (hinst : (Cond.instantiable C N).before args s = true) (hini : (Cond.initialized C).before args s = true) (hT : Tf E s) (hI : Hv E A w H) (hS : va_S A H0 H locs) (hA : ∀ q : Nat, H0.size ≤ q → A q) (hc : vwCl[ci]? = some (C, T, N)) {fs : List Value} (hfs : ∀ j, j < N → defaultValue (ty j) = vp_V fs j) (hcells : cells + 1 ≤ R.cells) (hslots : slots + N ≤ R.slots) (hdg : decode cc pc = .ok (.new index, 3))
    (kk : ∀ (q : Nat) (H1 : Heap), w q = none → Hv E A (va_up w q (some (.inr (ci, fs)))) H1 → va_S A H0 H1 locs → W p l e R s m args below meth c H1 locs (cells + 1) (slots + N) Q (F0 m (pc + 3) ls (.ref q :: rest))) : W p l e R s m args below meth c H locs cells slots Q (F0 m pc ls rest) := by
  obtain ⟨ws, hP, hD, hw⟩ := hI
  exact va_new hexec hb hts hin ty hty hown hcl hinst hini hT.1 hP hD hS hA hc hfs hcells hslots hdg (fun q H1 hP1 hD1 hS1 => kk q H1 (wu_new hw hD1) ⟨_, hP1, hD1, wu_push hw⟩ hS1)
theorem wr_copyi (hexec : p.tables.exec = Jvm.exec) (hb : c.code = cc) (hml : c.maxLocals = ls.size) {own : String} {index : Nat} (hown : s.vm.findClass own = some m.cls) (hlink : (Cond.methodLink own index arraycopyName).before args s = true) (hnat : (Cond.native arraycopyName).before args s = true) (hstat : (Cond.static arraycopyName).before args s = true) (hini : (Cond.initialized "java/lang/System").before args s = true) (hT : Tf E s) (hI : Hv E A w H) (hS : va_S A H0 H locs) {a0 n0 n1 : Nat} {f g : Nat → Int32} (h0 : w a0 = some (.inl (E.2.1, n0, .inl f))) (h9 : w a = some (.inl (E.2.1, n1, .inl g))) {sp dp n : Int32} (h1 : ¬ sp < 0) (h2 : ¬ dp < 0) (h3 : ¬ n < 0) (h4 : sp.toNatClampNeg + n.toNatClampNeg ≤ n0) (h5 : dp.toNatClampNeg + n.toNatClampNeg ≤ n1) (hframes : 1 ≤ R.frames) (hlocals : (rest.map fun v => v.category).sum + (nativeFrameWords "java/lang/System" "arraycopy" 5 + 11) ≤ R.locals) (hdg : decode cc pc = .ok (.invokestatic index, 3))
    (kk : ∀ (H1 : Heap) (locs1 : List Loc), Hv E A (va_up w a (some (.inl (E.2.1, n1, .inl (va_cpy f g sp.toNatClampNeg dp.toNatClampNeg n.toNatClampNeg))))) H1 → va_S A H0 H1 locs1 → W p l e R s m args below meth c H1 locs1 cells slots Q (F0 m (pc + 3) ls rest)) : W p l e R s m args below meth c H locs cells slots Q (F0 m pc ls (.int n :: .int dp :: .ref a :: .int sp :: .ref a0 :: rest)) := by
  obtain ⟨ws, hP, hD, hw⟩ := hI
  obtain ⟨j0, hj0⟩ := hw _ _ h0
  obtain ⟨j1, hj1⟩ := hw _ _ h9
  exact va_copyi (ty := .int) hexec hb hml hown hlink hnat hstat hini hT.1 hP hD hS j0 j1 0 0 hj0 hj1 rfl rfl rfl h1 h2 h3 h4 h5 (fun _ _ => rfl) hframes hlocals hdg (fun H1 locs1 hP1 hD1 hS1 => kk H1 locs1 ⟨_, hP1, hD1, wu_set hw hj1⟩ hS1)
theorem wr_copyq (hexec : p.tables.exec = Jvm.exec) (hb : c.code = cc) (hml : c.maxLocals = ls.size) {own : String} {index : Nat} (hown : s.vm.findClass own = some m.cls) (hlink : (Cond.methodLink own index arraycopyName).before args s = true) (hnat : (Cond.native arraycopyName).before args s = true) (hstat : (Cond.static arraycopyName).before args s = true) (hini : (Cond.initialized "java/lang/System").before args s = true) (hT : Tf E s) (hI : Hv E A w H) (hS : va_S A H0 H locs) {a0 n0 n1 : Nat} {f g : Nat → Option Nat} (h0 : w a0 = some (.inl (E.2.2.1, n0, .inr (.inr (.inr (.inr f)))))) (h9 : w a = some (.inl (E.2.2.1, n1, .inr (.inr (.inr (.inr g)))))) {sp dp n : Int32} (h1 : ¬ sp < 0) (h2 : ¬ dp < 0) (h3 : ¬ n < 0) (h4 : sp.toNatClampNeg + n.toNatClampNeg ≤ n0) (h5 : dp.toNatClampNeg + n.toNatClampNeg ≤ n1) (hel : ∀ i : Nat, i < n.toNatClampNeg → ∀ y : Nat, f (sp.toNatClampNeg + i) = some y → va_Any "CopyRows$Part" s H y) (hframes : 1 ≤ R.frames) (hlocals : (rest.map fun v => v.category).sum + (nativeFrameWords "java/lang/System" "arraycopy" 5 + 11) ≤ R.locals) (hdg : decode cc pc = .ok (.invokestatic index, 3))
    (kk : ∀ (H1 : Heap) (locs1 : List Loc), Hv E A (va_up w a (some (.inl (E.2.2.1, n1, .inr (.inr (.inr (.inr (va_cpy f g sp.toNatClampNeg dp.toNatClampNeg n.toNatClampNeg)))))))) H1 → va_S A H0 H1 locs1 → W p l e R s m args below meth c H1 locs1 cells slots Q (F0 m (pc + 3) ls rest)) : W p l e R s m args below meth c H locs cells slots Q (F0 m pc ls (.int n :: .int dp :: .ref a :: .int sp :: .ref a0 :: rest)) := by
  obtain ⟨ws, hP, hD, hw⟩ := hI
  obtain ⟨j0, hj0⟩ := hw _ _ h0
  obtain ⟨j1, hj1⟩ := hw _ _ h9
  exact va_copyM hexec hb hml hown hlink hnat hstat hini hT.1 hP hD hS j0 j1 1 1 hj0 hj1 rfl rfl h1 h2 h3 h4 h5 hel hframes hlocals hdg (fun H1 locs1 hP1 hD1 hS1 => kk H1 locs1 ⟨_, hP1, hD1, wu_set hw hj1⟩ hS1)
/-- the receiver of a call -/
theorem wr_recv (hT : Tf E s) (hI : Hv E A w H) {ci : Nat} {fs : List Value} {r : vw_C} (hc : vwCl[ci]? = some r) (he : w a = some (.inr (ci, fs))) : ∃ cell : Cell, H[a]? = some cell ∧ cell.vm.isStatics = false ∧ s.vm.findClass r.1 = some cell.cls := by
  obtain ⟨ws, hP, hD, hw⟩ := hI
  obtain ⟨j, hj⟩ := hw _ _ he
  exact va_recv hT.1 hP hc hj
theorem ca_go {Post : Option Value → Wd → Prop} {mc ms : Nat} {av : Array Value} (hr : va_Run p l e R s m args below meth c H locs cells slots mc ms (F0 m pc ls st0) rest (Qg Post E A av) A) (hS : va_S A H0 H locs)
    (kk : ∀ (r : Option Value) (w' : Wd) (H1 : Heap) (locs1 : List Loc), Post r w' → Hv E A w' H1 → va_S A H0 H1 locs1 → W p l e R s m args below meth c H1 locs1 (cells + mc) (slots + ms) Q (F0 m (pc + 3) ls (r.toList ++ rest))) : W p l e R s m args below meth c H locs cells slots Q (F0 m pc ls st0) := by
  intro T hT X
  obtain ⟨v, st₀, t, T', L, h0, X', hL, e1, e2, ⟨⟨r, w', hv, hp, -, hH, -⟩, hz, hk⟩, st⟩ := hr T hT X
  cases hv
  rw [h0] at hz hk
  obtain ⟨t2, a1, b1⟩ := kk v w' T'.heap (locs ++ L) hp (by rw [e1]; exact hH)
    ⟨Nat.le_trans hS.1 (by rw [e1]; exact hz), fun q h1 h2 => by rw [e1, hk q (Nat.lt_of_lt_of_le h1 hS.1) h2]; exact hS.2.1 q h1 h2, fun q hq => by
      rcases List.mem_append.mp hq with h | h
      · exact hS.2.2 q h
      · exact hL q h⟩ T' rfl X'
  exact ⟨t2, st t2 a1, b1⟩
variable {y : MethodName} {bytes : ByteArray} {maxL nL mc ms n index : Nat} {ret : Option FieldType} {ws : List Cond} {rm : Room} {Ts : List Cond} {own C : String} {As : List Value} {Post : Option Value → Wd → Prop}
theorem ca_S (S : CallFix p m c cc nL s args Ts own) (hM : Ct l y ws rm E A w As Post mc ms) (cw : CallB R s args own index y bytes maxL ret ws rm mc ms n ∧ (Cond.static y).before args s = true) (hT : Tf E s) (hI : Hv E A w H) (hA : ∀ q : Nat, H0.size ≤ q → A q) (hS : va_S A H0 H locs) (hst : st0 = As.reverse ++ rest) (hn : As.length = n) (hsize : ls.size = nL) (hW : (rest.map fun v => v.category).sum ≤ 8) (hdg : decode cc pc = .ok (.invokestatic index, 3)) (hf : cells + mc ≤ R.cells ∧ slots + ms ≤ R.slots)
    (kk : ∀ (r : Option Value) (w' : Wd) (H1 : Heap) (locs1 : List Loc), Post r w' → Hv E A w' H1 → va_S A H0 H1 locs1 → W p l e R s m args below meth c H1 locs1 (cells + mc) (slots + ms) Q (F0 m (pc + 3) ls (r.toList ++ rest))) : W p l e R s m args below meth c H locs cells slots Q (F0 m pc ls st0) :=
  ca_go (va_runS S hM cw ⟨Iv.blind, Iv.ready hT hI hA hS⟩ rfl hn hsize hst (lv_room hW) hdg hf) hS kk
theorem ca_V {b ci : Nat} {fs : List Value} {r0 : vw_C} (S : CallFix p m c cc nL s args Ts own) (hM : Ct l y ws rm E A w (.ref b :: As) Post mc ms) (cw : CallW R s args own r0.1 index y bytes maxL ret ws rm mc ms n) (hT : Tf E s) (hI : Hv E A w H) (hA : ∀ q : Nat, H0.size ≤ q → A q) (hS : va_S A H0 H locs) (hc : vwCl[ci]? = some r0) (he : w b = some (.inr (ci, fs))) (hst : st0 = As.reverse ++ .ref b :: rest) (hn : As.length = n) (hsize : ls.size = nL) (hW : (rest.map fun v => v.category).sum ≤ 8) (hdg : decode cc pc = .ok (.invokevirtual index, 3)) (hf : cells + mc ≤ R.cells ∧ slots + ms ≤ R.slots)
    (kk : ∀ (r : Option Value) (w' : Wd) (H1 : Heap) (locs1 : List Loc), Post r w' → Hv E A w' H1 → va_S A H0 H1 locs1 → W p l e R s m args below meth c H1 locs1 (cells + mc) (slots + ms) Q (F0 m (pc + 3) ls (r.toList ++ rest))) : W p l e R s m args below meth c H locs cells slots Q (F0 m pc ls st0) :=
  ca_go (va_runV S hM cw ⟨Iv.blind, wr_recv hT hI hc he, Iv.ready hT hI hA hS⟩ rfl hn hsize hst (lv_room hW) hdg hf) hS kk
theorem ca_U {x : MethodName} {owner : String} {b ci : Nat} {fs : List Value} {r0 : vw_C} (S : CallFix p m c cc nL s args Ts own) (hM : Ct l y ws rm E A w (.ref b :: As) Post mc ms) (cw : va_CU R s args own r0.1 owner index x y bytes maxL ret ws rm mc ms n) (hT : Tf E s) (hI : Hv E A w H) (hA : ∀ q : Nat, H0.size ≤ q → A q) (hS : va_S A H0 H locs) (hc : vwCl[ci]? = some r0) (he : w b = some (.inr (ci, fs))) (hst : st0 = As.reverse ++ .ref b :: rest) (hn : As.length = n) (hsize : ls.size = nL) (hW : (rest.map fun v => v.category).sum ≤ 8) (hdg : decode cc pc = .ok (.invokevirtual index, 3)) (hf : cells + mc ≤ R.cells ∧ slots + ms ≤ R.slots)
    (kk : ∀ (r : Option Value) (w' : Wd) (H1 : Heap) (locs1 : List Loc), Post r w' → Hv E A w' H1 → va_S A H0 H1 locs1 → W p l e R s m args below meth c H1 locs1 (cells + mc) (slots + ms) Q (F0 m (pc + 3) ls (r.toList ++ rest))) : W p l e R s m args below meth c H locs cells slots Q (F0 m pc ls st0) :=
  ca_go (va_runU S hM cw ⟨Iv.blind, wr_recv hT hI hc he, Iv.ready hT hI hA hS⟩ rfl hn hsize hst (lv_room hW) hdg hf) hS kk
theorem ca_I {b : Nat} (S : CallFix p m c cc nL s args Ts own) (hM : Ct l y ws rm E A w (.ref b :: As) Post mc ms) (cw : CallB R s args own index y bytes maxL none ws rm mc ms n ∧ y.name = "<init>" ∧ (Cond.instanceMethod y).before args s = true) (hT : Tf E s) (hI : Hv E A w H) (hA : ∀ q : Nat, H0.size ≤ q → A q) (hS : va_S A H0 H locs) (hst : st0 = As.reverse ++ .ref b :: rest) (hn : As.length = n) (hsize : ls.size = nL) (hW : (rest.map fun v => v.category).sum ≤ 8) (hdg : decode cc pc = .ok (.invokespecial index, 3)) (hf : cells + mc ≤ R.cells ∧ slots + ms ≤ R.slots)
    (kk : ∀ (r : Option Value) (w' : Wd) (H1 : Heap) (locs1 : List Loc), Post r w' → Hv E A w' H1 → va_S A H0 H1 locs1 → W p l e R s m args below meth c H1 locs1 (cells + mc) (slots + ms) Q (F0 m (pc + 3) ls (r.toList ++ rest))) : W p l e R s m args below meth c H locs cells slots Q (F0 m pc ls st0) :=
  ca_go (va_runI S hM cw ⟨Iv.blind, Iv.ready hT hI hA hS⟩ rfl hn hsize hst (lv_room hW) hdg hf) hS kk
theorem ca_IN {host : String} {b : Nat} (S : CallFix p m c cc nL s args Ts own) (hM : Ct l y ws rm E A w (.ref b :: As) Post mc ms) (cw : va_CN R s args own index y host bytes maxL none ws rm mc ms n ∧ y.name = "<init>" ∧ (Cond.instanceMethod y).before args s = true) (hT : Tf E s) (hI : Hv E A w H) (hA : ∀ q : Nat, H0.size ≤ q → A q) (hS : va_S A H0 H locs) (hst : st0 = As.reverse ++ .ref b :: rest) (hn : As.length = n) (hsize : ls.size = nL) (hW : (rest.map fun v => v.category).sum ≤ 8) (hdg : decode cc pc = .ok (.invokespecial index, 3)) (hf : cells + mc ≤ R.cells ∧ slots + ms ≤ R.slots)
    (kk : ∀ (r : Option Value) (w' : Wd) (H1 : Heap) (locs1 : List Loc), Post r w' → Hv E A w' H1 → va_S A H0 H1 locs1 → W p l e R s m args below meth c H1 locs1 (cells + mc) (slots + ms) Q (F0 m (pc + 3) ls (r.toList ++ rest))) : W p l e R s m args below meth c H locs cells slots Q (F0 m pc ls st0) :=
  ca_go (va_runIN S hM cw ⟨Iv.blind, Iv.ready hT hI hA hS⟩ rfl hn hsize hst (lv_room hW) hdg hf) hS kk
/-- ends -/
theorem re_q {v : Option Value} (hT : Tf E s) (hA : ∀ q : Nat, s.heap.size ≤ q → A q) (hS : va_S A s.heap H locs) (hI : Hv E A w H) (hp : Post v w) {av : Array Value} : ∀ t : State, t.heap = H → s.WarmedH t.vm → Qg Post E A av s (.returned v) t := fun t ht hW =>
  ⟨⟨v, w, rfl, hp, hT.warm hW, by rw [ht]; exact hI, fun q h => hA q (Nat.le_trans hS.1 (by rw [← ht]; exact h))⟩, hS.F ht⟩
theorem re_i {v : Int32} (hexec : p.tables.exec = Jvm.exec) (hb : c.code = cc) (hr : meth.sig.returnType = some .int) (hlocks : meth.locks = false) (hT : Tf E s) (hA : ∀ q : Nat, s.heap.size ≤ q → A q) (hS : va_S A s.heap H locs) (hI : Hv E A w H) (hp : Post (some (.int v)) w) (h1 : cells ≤ mc) (h2 : slots ≤ ms) (hdg : decode cc pc = .ok (.ireturn, 1)) : W p l e R s m args below meth c H locs cells slots (MQ below (Qg Post E A) args s mc ms A) (F0 m pc ls [.int v]) :=
  W.widen h1 h2 (W.iret hexec hb hr (re_q hT hA hS hI hp) hS.2.2 hdg hlocks)
theorem re_z {v : Int32} (hexec : p.tables.exec = Jvm.exec) (hb : c.code = cc) (hr : meth.sig.returnType = some .boolean) (hlocks : meth.locks = false) (hT : Tf E s) (hA : ∀ q : Nat, s.heap.size ≤ q → A q) (hS : va_S A s.heap H locs) (hI : Hv E A w H) (hn : narrow .boolean (.int v) = .int v) (hp : Post (some (.int v)) w) (h1 : cells ≤ mc) (h2 : slots ≤ ms) (hdg : decode cc pc = .ok (.ireturn, 1)) : W p l e R s m args below meth c H locs cells slots (MQ below (Qg Post E A) args s mc ms A) (F0 m pc ls [.int v]) :=
  W.widen h1 h2 (W.zret hexec hb hr hn (re_q hT hA hS hI hp) hS.2.2 hdg hlocks)
theorem re_v (hexec : p.tables.exec = Jvm.exec) (hb : c.code = cc) (hr : meth.sig.returnType = none) (hlocks : meth.locks = false) (hT : Tf E s) (hA : ∀ q : Nat, s.heap.size ≤ q → A q) (hS : va_S A s.heap H locs) (hI : Hv E A w H) (hp : Post none w) (h1 : cells ≤ mc) (h2 : slots ≤ ms) (hdg : decode cc pc = .ok (.return_, 1)) : W p l e R s m args below meth c H locs cells slots (MQ below (Qg Post E A) args s mc ms A) (F0 m pc ls []) :=
  W.widen h1 h2 (W.vret hexec hb hr (re_q hT hA hS hI hp) hS.2.2 hdg hlocks)
theorem re_a {v : Value} {nm : String} (hexec : p.tables.exec = Jvm.exec) (hb : c.code = cc) (hr : meth.sig.returnType = some (.object nm)) (hlocks : meth.locks = false) (hT : Tf E s) (hA : ∀ q : Nat, s.heap.size ≤ q → A q) (hS : va_S A s.heap H locs) (hI : Hv E A w H) (hv : v = .null ∨ ∃ a, v = .ref a) (hp : Post (some v) w) (h1 : cells ≤ mc) (h2 : slots ≤ ms) (hdg : decode cc pc = .ok (.areturn, 1)) : W p l e R s m args below meth c H locs cells slots (MQ below (Qg Post E A) args s mc ms A) (F0 m pc ls [v]) :=
  W.widen h1 h2 (W.aret hexec hb hr (Or.inl ⟨nm, rfl⟩) hv (re_q hT hA hS hI hp) hS.2.2 hdg hlocks)
end WR
end
section
/-! the cells' forms, and pure words on them -/
abbrev eRow (kd ln : Int32) (na qa : Nat) : va_E := .inr (0, [.int kd, .int ln, .ref na, .ref qa])
abbrev eTh (c n : Int32) : va_E := .inr (1, [.int c, .int n])
abbrev eI (E : En) (n : Nat) (f : Nat → Int32) : va_E := .inl (E.2.1, n, .inl f)
abbrev eP (E : En) (n : Nat) (f : Nat → Option Nat) : va_E := .inl (E.2.2.1, n, .inr (.inr (.inr (.inr f))))
abbrev eR (E : En) (n : Nat) (f : Nat → Option Nat) : va_E := .inl (E.2.2.2, n, .inr (.inr (.inr (.inr f))))
abbrev isN (kd : Int32) : Prop := kd = 0 ∨ kd = 1
/-- a thing of this sort goes into a row of that kind -/
abbrev fT (kd c : Int32) : Prop := kd = 3 ∨ kd = 4 ∧ c = 1 ∨ kd = 5 ∧ c = 2
/-- an item of a row of objects: nothing, a thing or a row -/
def okW (w : Wd) (o : Option Nat) : Prop := ∀ b, o = some b → (∃ c n, w b = some (eTh c n)) ∨ ∃ k l x y, w b = some (eRow k l x y)
def fitW (w : Wd) (kd : Int32) (o : Option Nat) : Prop := ∀ b, o = some b → (∃ c n, w b = some (eTh c n) ∧ fT kd c) ∨ ∃ k l x y, w b = some (eRow k l x y) ∧ kd = 2
theorem fitW_none {w : Wd} {kd : Int32} : fitW w kd none := fun b h => by cases h
theorem fitW_th {w : Wd} {kd c n : Int32} {b : Nat} (h : w b = some (eTh c n)) : fitW w kd (some b) ↔ fT kd c := by
  constructor
  · intro hf
    rcases hf b rfl with ⟨c', n', h1, h2⟩ | ⟨k, l, x, y, h1, -⟩
    · rw [h] at h1
      injection h1 with h1
      injection h1 with h1
      injection h1 with _ h1
      injection h1 with h1 _
      injection h1 with h1
      rw [h1]; exact h2
    · rw [h] at h1
      injection h1 with h1
      injection h1 with h1
      injection h1 with h1
      cases h1
  · intro hf b' e
    cases e
    exact Or.inl ⟨c, n, h, hf⟩
theorem fitW_row {w : Wd} {kd k l : Int32} {x y b : Nat} (h : w b = some (eRow k l x y)) : fitW w kd (some b) ↔ kd = 2 := by
  constructor
  · intro hf
    rcases hf b rfl with ⟨c', n', h1, h2⟩ | ⟨k, l, x, y, h1, h2⟩
    · rw [h] at h1
      injection h1 with h1
      injection h1 with h1
      injection h1 with h1
      cases h1
    · exact h2
  · intro hf b' e
    cases e
    exact Or.inr ⟨k, l, x, y, h, hf⟩
theorem nw_ne {w : Wd} {a q : Nat} {x : va_E} (h : w a = some x) (hq : w q = none) : a ≠ q := fun e => by rw [e, hq] at h; cases h
theorem nw_in {w : Wd} {a q : Nat} {x y : va_E} (h : w a = some x) (hq : w q = none) : va_up w q (some y) a = some x := by rw [va_up_ne _ _ (nw_ne h hq)]; exact h
/-- sums and counts of a row's first items -/
def sumF (f : Nat → Int32) : Nat → Int32
  | 0 => 0
  | n + 1 => sumF f n + f n
def cntF (g : Nat → Option Nat) (b : Nat) : Nat → Nat
  | 0 => 0
  | n + 1 => cntF g b n + if g n = some b then 1 else 0
theorem cntF_le (g : Nat → Option Nat) (b : Nat) : ∀ n, cntF g b n ≤ n
  | 0 => Nat.le_refl _
  | n + 1 => by
    have := cntF_le g b n
    simp only [cntF]
    split <;> omega
/-- which of two rows of numbers is less, from item t on -/
def cmpF (f g : Nat → Int32) (z z' : Nat) : Nat → Nat → Int32
  | 0, _ => if z = z' then 0 else if z < z' then -1 else 1
  | d + 1, t => if t < z ∧ t < z' then (if f t = g t then cmpF f g z z' d (t + 1) else if f t < g t then -1 else 1) else if z = z' then 0 else if z < z' then -1 else 1
section LP
variable {p : Program} {l : Launch} {e : Env} {R : Room} {s : State} {m : MethodId} {args : Array Value} {below : List Frame} {meth : Method} {c : Code} {cells slots : Nat} {Q : State → Prop} {pc : Nat}
/-- a loop, by a measure that falls -/
theorem lp_w {ι : Type} (μ : ι → Nat) (I : ι → Heap → List Loc → Array Slot → Prop)
    (step : ∀ (i : ι) (H : Heap) (locs : List Loc) (ls : Array Slot), I i H locs ls → (∀ (i' : ι) (H' : Heap) (locs' : List Loc) (ls' : Array Slot), I i' H' locs' ls' → μ i' < μ i → W p l e R s m args below meth c H' locs' cells slots Q (F0 m pc ls' [])) → W p l e R s m args below meth c H locs cells slots Q (F0 m pc ls []))
    (i : ι) (H : Heap) (locs : List Loc) (ls : Array Slot) (h : I i H locs ls) : W p l e R s m args below meth c H locs cells slots Q (F0 m pc ls []) := by
  have key : ∀ (d : Nat) (i : ι) (H : Heap) (locs : List Loc) (ls : Array Slot), μ i < d → I i H locs ls → W p l e R s m args below meth c H locs cells slots Q (F0 m pc ls []) := by
    intro d
    induction d with
    | zero => intro i H locs ls h; exact absurd h (Nat.not_lt_zero _)
    | succ d ih =>
      intro i H locs ls h hI
      exact step i H locs ls hI (fun i' H' locs' ls' hI' hlt => ih i' H' locs' ls' (by omega) hI')
  exact key (μ i + 1) i H locs ls (Nat.lt_succ_self _) h
end LP
end
section
/-! rows with natural numbers for indexes -/
abbrev nz (kd : Int32) (n : Nat) : Nat := if isN kd then n else 0
abbrev pz (kd : Int32) (n : Nat) : Nat := if isN kd then 0 else n
section WN
variable {p : Program} {l : Launch} {e : Env} {R : Room} {s : State} {m : MethodId} {args : Array Value} {below : List Frame} {meth : Method} {c : Code} {H : Heap} {locs : List Loc} {cells slots : Nat} {Q : State → Prop}
variable {cc : ByteArray} {pc : Nat} {ls : Array Slot} {rest : List Value} {E : En} {A : Nat → Prop} {a : Nat} {w : Wd} {H0 : Heap}
theorem wr_ialdN (hexec : p.tables.exec = Jvm.exec) (hb : c.code = cc) (hT : Tf E s) (hI : Hv E A w H) {n t : Nat} {f : Nat → Int32} (he : w a = some (.inl (E.2.1, n, .inl f))) (ht : t < n) (hn : n < 2 ^ 31) (hdg : decode cc pc = .ok (.iaload, 1))
    (kk : W p l e R s m args below meth c H locs cells slots Q (F0 m (pc + 1) ls (.int (f t) :: rest))) : W p l e R s m args below meth c H locs cells slots Q (F0 m pc ls (.int (nI t) :: .ref a :: rest)) := by
  refine wr_iald hexec hb hT hI he (vp_in_nI ht hn) hdg ?_
  rw [nI_clamp (by omega)]
  exact kk
theorem wr_iastN (hexec : p.tables.exec = Jvm.exec) (hb : c.code = cc) (hT : Tf E s) (hI : Hv E A w H) (hS : va_S A H0 H locs) {n t : Nat} {f : Nat → Int32} {x : Int32} (he : w a = some (.inl (E.2.1, n, .inl f))) (ht : t < n) (hn : n < 2 ^ 31) (hdg : decode cc pc = .ok (.iastore, 1))
    (kk : ∀ (H1 : Heap) (locs1 : List Loc), Hv E A (va_up w a (some (.inl (E.2.1, n, .inl (upd f t x))))) H1 → va_S A H0 H1 locs1 → W p l e R s m args below meth c H1 locs1 cells slots Q (F0 m (pc + 1) ls rest)) : W p l e R s m args below meth c H locs cells slots Q (F0 m pc ls (.int x :: .int (nI t) :: .ref a :: rest)) := by
  refine wr_iast hexec hb hT hI hS he (vp_in_nI ht hn) hdg (fun H1 locs1 h1 h2 => ?_)
  rw [nI_clamp (by omega)] at h1
  exact kk H1 locs1 h1 h2
theorem wr_aaldN (hexec : p.tables.exec = Jvm.exec) (hb : c.code = cc) (hT : Tf E s) (hI : Hv E A w H) {cA : ClassId} {n t : Nat} {f : Nat → Option Nat} (he : w a = some (.inl (cA, n, .inr (.inr (.inr (.inr f)))))) (t0 : Nat) {C : String} (hty : (tyE E)[t0]? = some (cA, .object C)) (ht : t < n) (hn : n < 2 ^ 31) (hdg : decode cc pc = .ok (.aaload, 1))
    (kk : W p l e R s m args below meth c H locs cells slots Q (F0 m (pc + 1) ls (va_rf (f t) :: rest))) : W p l e R s m args below meth c H locs cells slots Q (F0 m pc ls (.int (nI t) :: .ref a :: rest)) := by
  refine wr_aald hexec hb hT hI he t0 hty (vp_in_nI ht hn) hdg ?_
  rw [nI_clamp (by omega)]
  exact kk
theorem wr_aastV (hexec : p.tables.exec = Jvm.exec) (hb : c.code = cc) (hT : Tf E s) (hI : Hv E A w H) (hS : va_S A H0 H locs) {cA : ClassId} {n t : Nat} {o : Option Nat} {f : Nat → Option Nat} (he : w a = some (.inl (cA, n, .inr (.inr (.inr (.inr f)))))) (t0 : Nat) {C : String} (hty : (tyE E)[t0]? = some (cA, .object C)) (hr : ∀ v, o = some v → va_Any C s H v) (ht : t < n) (hn : n < 2 ^ 31) (hdg : decode cc pc = .ok (.aastore, 1))
    (kk : ∀ (H1 : Heap) (locs1 : List Loc), Hv E A (va_up w a (some (.inl (cA, n, .inr (.inr (.inr (.inr (va_up f t o)))))))) H1 → va_S A H0 H1 locs1 → W p l e R s m args below meth c H1 locs1 cells slots Q (F0 m (pc + 1) ls rest)) : W p l e R s m args below meth c H locs cells slots Q (F0 m pc ls (va_rf o :: .int (nI t) :: .ref a :: rest)) := by
  cases o with
  | none =>
    refine wr_aastN hexec hb hT hI hS he t0 hty (vp_in_nI ht hn) hdg (fun H1 locs1 h1 h2 => ?_)
    rw [nI_clamp (by omega)] at h1
    exact kk H1 locs1 h1 h2
  | some v =>
    refine wr_aast hexec hb hT hI hS he t0 hty (hr v rfl) (vp_in_nI ht hn) hdg (fun H1 locs1 h1 h2 => ?_)
    rw [nI_clamp (by omega)] at h1
    exact kk H1 locs1 h1 h2
theorem wr_copyiN (hexec : p.tables.exec = Jvm.exec) (hb : c.code = cc) (hml : c.maxLocals = ls.size) {own : String} {index : Nat} (hown : s.vm.findClass own = some m.cls) (hlink : (Cond.methodLink own index arraycopyName).before args s = true) (hnat : (Cond.native arraycopyName).before args s = true) (hstat : (Cond.static arraycopyName).before args s = true) (hini : (Cond.initialized "java/lang/System").before args s = true) (hT : Tf E s) (hI : Hv E A w H) (hS : va_S A H0 H locs) {a0 n0 n1 : Nat} {f g : Nat → Int32} (h0 : w a0 = some (.inl (E.2.1, n0, .inl f))) (h9 : w a = some (.inl (E.2.1, n1, .inl g))) {i j n : Nat} (hz0 : n0 < 2 ^ 31) (hz1 : n1 < 2 ^ 31) (h4 : i + n ≤ n0) (h5 : j + n ≤ n1) (hframes : 1 ≤ R.frames) (hlocals : (rest.map fun v => v.category).sum + (nativeFrameWords "java/lang/System" "arraycopy" 5 + 11) ≤ R.locals) (hdg : decode cc pc = .ok (.invokestatic index, 3))
    (kk : ∀ (H1 : Heap) (locs1 : List Loc), Hv E A (va_up w a (some (.inl (E.2.1, n1, .inl (va_cpy f g i j n))))) H1 → va_S A H0 H1 locs1 → W p l e R s m args below meth c H1 locs1 cells slots Q (F0 m (pc + 3) ls rest)) : W p l e R s m args below meth c H locs cells slots Q (F0 m pc ls (.int (nI n) :: .int (nI j) :: .ref a :: .int (nI i) :: .ref a0 :: rest)) := by
  have e1 := nI_clamp (n := i) (by omega)
  have e2 := nI_clamp (n := j) (by omega)
  have e3 := nI_clamp (n := n) (by omega)
  refine wr_copyi hexec hb hml hown hlink hnat hstat hini hT hI hS h0 h9 (nI_pos (by omega)) (nI_pos (by omega)) (nI_pos (by omega)) (by rw [e1, e3]; exact h4) (by rw [e2, e3]; exact h5) hframes hlocals hdg (fun H1 locs1 q1 q2 => ?_)
  rw [e1, e2, e3] at q1
  exact kk H1 locs1 q1 q2
theorem wr_copyqN (hexec : p.tables.exec = Jvm.exec) (hb : c.code = cc) (hml : c.maxLocals = ls.size) {own : String} {index : Nat} (hown : s.vm.findClass own = some m.cls) (hlink : (Cond.methodLink own index arraycopyName).before args s = true) (hnat : (Cond.native arraycopyName).before args s = true) (hstat : (Cond.static arraycopyName).before args s = true) (hini : (Cond.initialized "java/lang/System").before args s = true) (hT : Tf E s) (hI : Hv E A w H) (hS : va_S A H0 H locs) {a0 n0 n1 : Nat} {f g : Nat → Option Nat} (h0 : w a0 = some (.inl (E.2.2.1, n0, .inr (.inr (.inr (.inr f)))))) (h9 : w a = some (.inl (E.2.2.1, n1, .inr (.inr (.inr (.inr g)))))) {i j n : Nat} (hz0 : n0 < 2 ^ 31) (hz1 : n1 < 2 ^ 31) (h4 : i + n ≤ n0) (h5 : j + n ≤ n1) (hel : ∀ k : Nat, k < n → okW w (f (i + k))) (hframes : 1 ≤ R.frames) (hlocals : (rest.map fun v => v.category).sum + (nativeFrameWords "java/lang/System" "arraycopy" 5 + 11) ≤ R.locals) (hdg : decode cc pc = .ok (.invokestatic index, 3))
    (kk : ∀ (H1 : Heap) (locs1 : List Loc), Hv E A (va_up w a (some (.inl (E.2.2.1, n1, .inr (.inr (.inr (.inr (va_cpy f g i j n)))))))) H1 → va_S A H0 H1 locs1 → W p l e R s m args below meth c H1 locs1 cells slots Q (F0 m (pc + 3) ls rest)) : W p l e R s m args below meth c H locs cells slots Q (F0 m pc ls (.int (nI n) :: .int (nI j) :: .ref a :: .int (nI i) :: .ref a0 :: rest)) := by
  have e1 := nI_clamp (n := i) (by omega)
  have e2 := nI_clamp (n := j) (by omega)
  have e3 := nI_clamp (n := n) (by omega)
  refine wr_copyq hexec hb hml hown hlink hnat hstat hini hT hI hS h0 h9 (nI_pos (by omega)) (nI_pos (by omega)) (nI_pos (by omega)) (by rw [e1, e3]; exact h4) (by rw [e2, e3]; exact h5) (fun k hk y hy => ?_) hframes hlocals hdg (fun H1 locs1 q1 q2 => ?_)
  · rw [e3] at hk
    rw [e1] at hy
    rcases hel k hk y hy with ⟨c1, c2, h⟩ | ⟨c1, c2, c3, c4, h⟩
    · exact wr_any hT hI h (r := (RX2, TX2, 2)) rfl hT.2.2.2.2.2.2.2.2.1
    · exact wr_any hT hI h (r := (RX1, TX1, 4)) rfl hT.2.2.2.2.2.2.2.1
  · rw [e1, e2, e3] at q1
    exact kk H1 locs1 q1 q2
end WN
end
section
set_option maxHeartbeats 4000000 in
set_option maxRecDepth 100000 in
theorem cc_X0_init (l : Launch) (E : En) (A : Nat → Prop) (w : Wd) (h0 : Nat) : Ct l yX0_init wsX0_init ({ frames := 1, cells := 0, slots := 0, locals := 20 } : Room) E A w [.ref h0] (fun r w' => r = none ∧ w = w') 0 0 := by
  refine Met.ofW (cc := cX0_init) (maxL := 1) (ret := none) (by decide) rfl ?_
  intro pp0 ee0 s m args below meth cc0 s₁ B hml hv
  obtain ⟨rfl, hT, hI, hA⟩ := hv
  have hx := B.exec
  have hb := B.bytes
  have hr := B.returns
  have hts := atoms_spec (ws := wsX0_init) B.pre
  have hown : s.vm.findClass RX0 = some m.cls := findClass_of_methodNamed B.named
  have hlocks := B.notSynchronized
  have hin : meth.name = "<init>" := (name_of_methodNamed B.named B.method).1
  have hS : va_S A s.heap s.heap [] := va_S.rf
  have hl := lv_entry ([.ref h0]) (n := 1) (Nat.le_of_ble_eq_true rfl)
  rw [lg_entry_eq]
  generalize (lg_sl ([.ref h0]) ++ List.replicate (1 - (lg_sl ([.ref h0])).length) Slot.unset).toArray = ls at hl ⊢
  have hl : lv_has ls 1 [(0, .ref h0)] := hl
  refine lv_aload_n hx hb dX0_init_0 rfl (lv_at hl 0 rfl) ?_
  refine W.objInit hx hb hown (hts (.methodLink RX0 1 objectInit) (by decide +kernel)) (hts (.instanceMethod objectInit) (by decide +kernel)) (hts _ (List.mem_of_getElem? (i := 3) rfl)) rfl (by rw [hml]; exact hl.1) rfl dX0_init_1 (Nat.le_of_ble_eq_true rfl) (Nat.le_of_ble_eq_true rfl) ?_
  refine W.eq (g2 := F0 m 4 ls []) rfl ?_
  exact re_v hx hb hr hlocks hT hA hS hI (⟨rfl, rfl⟩) (Nat.le_of_ble_eq_true rfl) (Nat.le_of_ble_eq_true rfl) dX0_init_4

set_option maxHeartbeats 4000000 in
set_option maxRecDepth 100000 in
theorem cc_X2_init (l : Launch) (E : En) (A : Nat → Prop) (w : Wd) {h0 : Nat} {c0 n0 : Int32} (cv nv : Int32) (hc : w h0 = some (eTh c0 n0)) : Ct l yX2_init wsX2_init ({ frames := 2, cells := 0, slots := 0, locals := 40 } : Room) E A w [.ref h0, .int cv, .int nv] (fun r w' => r = none ∧ w' h0 = some (eTh cv nv) ∧ ∀ a, a ≠ h0 → w' a = w a) 0 0 := by
  refine Met.ofW (cc := cX2_init) (maxL := 3) (ret := none) (by decide) rfl ?_
  intro pp0 ee0 s m args below meth cc0 s₁ B hml hv
  obtain ⟨rfl, hT, hI, hA⟩ := hv
  have hx := B.exec
  have hb := B.bytes
  have hr := B.returns
  have hts := atoms_spec (ws := wsX2_init) B.pre
  have hown : s.vm.findClass RX2 = some m.cls := findClass_of_methodNamed B.named
  have hlocks := B.notSynchronized
  have hin : meth.name = "<init>" := (name_of_methodNamed B.named B.method).1
  have in_X2 : ∀ w ∈ wsX20, w ∈ wsX2_init := by decide +kernel
  have hS : va_S A s.heap s.heap [] := va_S.rf
  have hl := lv_entry ([.ref h0, .int cv, .int nv]) (n := 3) (Nat.le_of_ble_eq_true rfl)
  rw [lg_entry_eq]
  generalize (lg_sl ([.ref h0, .int cv, .int nv]) ++ List.replicate (3 - (lg_sl ([.ref h0, .int cv, .int nv])).length) Slot.unset).toArray = ls at hl ⊢
  have hl : lv_has ls 3 [(0, .ref h0), (1, .int cv), (2, .int nv)] := hl
  refine lv_aload_n hx hb dX2_init_0 rfl (lv_at hl 0 rfl) ?_
  refine ca_IN (As := []) (rest := []) ⟨hx, hb, hml, hown, hts⟩ (cc_X0_init l E A w h0) ⟨va_cnB 0 hts gX2_init_X0_init_n3 rfl rfl rfl hT.2.2.2.2.1 (hts (.initialized RX0) (by decide +kernel)) (by decide +kernel) ⟨(Nat.le_of_ble_eq_true rfl), (Nat.le_of_ble_eq_true rfl)⟩, rfl, hts (.instanceMethod yX0_init) (by decide +kernel)⟩ hT hI hA hS rfl rfl hl.1 (Nat.le_of_ble_eq_true rfl) dX2_init_1 ⟨(Nat.le_of_ble_eq_true rfl), (Nat.le_of_ble_eq_true rfl)⟩ (fun r w_2 H locs hp_1 hI hS => ?_)
  obtain ⟨rfl, rfl⟩ := hp_1
  refine W.eq (g2 := F0 m 4 ls []) rfl ?_
  refine lv_aload_n hx hb dX2_init_4 rfl (lv_at hl 0 rfl) ?_
  refine lv_iload_n hx hb dX2_init_5 rfl (lv_at hl 1 rfl) ?_
  refine wr_putF (ci := 1) (C := RX2) (T := TX2) (N := 2) (v := .int cv) (ty := .int) hx hb hts in_X2 tyX2 tyX2_ok nmX2 hown hT hI hS hc rfl 0 (by decide) (hts (.fieldLink RX2 9 "CopyRows$Thing" "cls" "I") (by decide +kernel)) rfl hin rfl (by decide +kernel) rfl rfl (Nat.le_of_ble_eq_true rfl) dX2_init_6 (fun H locs hI hS => ?_)
  refine lv_aload_n hx hb dX2_init_9 rfl (lv_at hl 0 rfl) ?_
  refine lv_iload_n hx hb dX2_init_10 rfl (lv_at hl 2 rfl) ?_
  refine wr_putF (ci := 1) (C := RX2) (T := TX2) (N := 2) (v := .int nv) (ty := .int) hx hb hts in_X2 tyX2 tyX2_ok nmX2 hown hT hI hS (va_up_self _ _ _) rfl 1 (by decide) (hts (.fieldLink RX2 15 "CopyRows$Thing" "number" "I") (by decide +kernel)) rfl hin rfl (by decide +kernel) rfl rfl (Nat.le_of_ble_eq_true rfl) dX2_init_11 (fun H locs hI hS => ?_)
  exact re_v hx hb hr hlocks hT hA hS hI (⟨rfl, va_up_self _ _ _, fun a ha => by simp [va_up, ha]⟩) (Nat.le_of_ble_eq_true rfl) (Nat.le_of_ble_eq_true rfl) dX2_init_14

set_option maxHeartbeats 4000000 in
set_option maxRecDepth 100000 in
theorem cc_X1_init_n (l : Launch) (E : En) (A : Nat → Prop) (w : Wd) {h0 : Nat} {c0 c1 : Int32} {v0 v1 : Value} (kd : Int32) (n : Nat) (hn : n ≤ 40) (hk : isN kd) (hc : w h0 = some (.inr (0, [.int c0, .int c1, v0, v1]))) : Ct l yX1_init wsX1_init ({ frames := 2, cells := 2, slots := 40, locals := 40 } : Room) E A w [.ref h0, .int kd, .int (nI n)] (fun r w' => r = none ∧ ∃ na qa, w na = none ∧ w qa = none ∧ na ≠ qa ∧ na ≠ h0 ∧ qa ≠ h0 ∧ w' h0 = some (eRow kd (nI n) na qa) ∧ w' na = some (eI E n (fun _ => 0)) ∧ w' qa = some (eP E 0 (fun _ => none)) ∧ ∀ a, a ≠ h0 → a ≠ na → a ≠ qa → w' a = w a) 2 40 := by
  refine Met.ofW (cc := cX1_init) (maxL := 4) (ret := none) (by decide) rfl ?_
  intro pp0 ee0 s m args below meth cc0 s₁ B hml hv
  obtain ⟨rfl, hT, hI, hA⟩ := hv
  have hx := B.exec
  have hb := B.bytes
  have hr := B.returns
  have hts := atoms_spec (ws := wsX1_init) B.pre
  have hown : s.vm.findClass RX1 = some m.cls := findClass_of_methodNamed B.named
  have hlocks := B.notSynchronized
  have hin : meth.name = "<init>" := (name_of_methodNamed B.named B.method).1
  have in_X1 : ∀ w ∈ wsX10, w ∈ wsX1_init := by decide +kernel
  have hS : va_S A s.heap s.heap [] := va_S.rf
  have hl := lv_entry ([.ref h0, .int kd, .int (nI n)]) (n := 4) (Nat.le_of_ble_eq_true rfl)
  rw [lg_entry_eq]
  generalize (lg_sl ([.ref h0, .int kd, .int (nI n)]) ++ List.replicate (4 - (lg_sl ([.ref h0, .int kd, .int (nI n)])).length) Slot.unset).toArray = ls at hl ⊢
  have hl : lv_has ls 4 [(0, .ref h0), (1, .int kd), (2, .int (nI n))] := hl
  refine lv_aload_n hx hb dX1_init_0 rfl (lv_at hl 0 rfl) ?_
  refine ca_IN (As := []) (rest := []) ⟨hx, hb, hml, hown, hts⟩ (cc_X0_init l E A w h0) ⟨va_cnB 0 hts gX1_init_X0_init_n3 rfl rfl rfl hT.2.2.2.1 (hts (.initialized RX0) (by decide +kernel)) (by decide +kernel) ⟨(Nat.le_of_ble_eq_true rfl), (Nat.le_of_ble_eq_true rfl)⟩, rfl, hts (.instanceMethod yX0_init) (by decide +kernel)⟩ hT hI hA hS rfl rfl hl.1 (Nat.le_of_ble_eq_true rfl) dX1_init_1 ⟨(Nat.le_of_ble_eq_true rfl), (Nat.le_of_ble_eq_true rfl)⟩ (fun r w_2 H locs hp_1 hI hS => ?_)
  obtain ⟨rfl, rfl⟩ := hp_1
  refine W.eq (g2 := F0 m 4 ls []) rfl ?_
  refine lv_iload_n hx hb dX1_init_4 rfl (lv_at hl 1 rfl) ?_
  refine lv_if_eq (tgt := 13) hx hb dX1_init_5 (by decide) (fun c_3 => ?_) (fun c_3 => ?_)
  · refine lv_iconst (v := 1) hx hb dX1_init_13 (by decide) ?_
    refine lv_goto (tgt := 18) hx hb dX1_init_14 (by decide) ?_
    refine lv_istore_n (lv' := [(3, .int 1), (0, .ref h0), (1, .int kd), (2, .int (nI n))]) hx hb dX1_init_18 rfl hl (by decide) rfl (fun ls hl => ?_)
    refine lv_aload_n hx hb dX1_init_19 rfl (lv_at hl 1 rfl) ?_
    refine lv_iload_n hx hb dX1_init_20 rfl (lv_at hl 2 rfl) ?_
    refine wr_putF (ci := 0) (C := RX1) (T := TX1) (N := 4) (v := .int kd) (ty := .int) hx hb hts in_X1 tyX1 tyX1_ok nmX1 hown hT hI hS hc rfl 0 (by decide) (hts (.fieldLink RX1 9 "CopyRows$Row" "kind" "I") (by decide +kernel)) rfl hin rfl (by decide +kernel) rfl rfl (Nat.le_of_ble_eq_true rfl) dX1_init_21 (fun H locs hI hS => ?_)
    refine lv_aload_n hx hb dX1_init_24 rfl (lv_at hl 1 rfl) ?_
    refine lv_iload_n hx hb dX1_init_25 rfl (lv_at hl 3 rfl) ?_
    refine wr_putF (ci := 0) (C := RX1) (T := TX1) (N := 4) (v := .int (nI n)) (ty := .int) hx hb hts in_X1 tyX1 tyX1_ok nmX1 hown hT hI hS (va_up_self _ _ _) rfl 1 (by decide) (hts (.fieldLink RX1 15 "CopyRows$Row" "length" "I") (by decide +kernel)) rfl hin rfl (by decide +kernel) rfl rfl (Nat.le_of_ble_eq_true rfl) dX1_init_26 (fun H locs hI hS => ?_)
    refine lv_aload_n hx hb dX1_init_29 rfl (lv_at hl 1 rfl) ?_
    refine lv_iload_n hx hb dX1_init_30 rfl (lv_at hl 0 rfl) ?_
    refine lv_if_eq (tgt := 38) hx hb dX1_init_31 (by decide) (fun c => absurd c (by decide)) (fun _ => ?_)
    refine lv_iload_n hx hb dX1_init_34 rfl (lv_at hl 3 rfl) ?_
    refine lv_goto (tgt := 39) hx hb dX1_init_35 (by decide) ?_
    refine wr_newi (N := n) hx hb (hts (.arrayClass .int) (by decide +kernel)) hT hI hS hA (nI_pos (by omega)) (nI_clamp (by omega)) (by omega) (Nat.le_of_ble_eq_true rfl) (by show 0 + n ≤ 40; omega) dX1_init_39 (fun na H hna hI hS => ?_)
    refine W.widen (k := 1) (n := 40) (Nat.le_of_ble_eq_true rfl) (by omega) ?_
    have hna0 : h0 ≠ na := (nw_ne (va_up_self _ _ _) hna)
    refine wr_putF (ci := 0) (C := RX1) (T := TX1) (N := 4) (v := .ref na) (ty := .array .int) hx hb hts in_X1 tyX1 tyX1_ok nmX1 hown hT hI hS ((va_up_ne _ _ hna0).trans (va_up_self _ _ _)) rfl 2 (by decide) (hts (.fieldLink RX1 18 "CopyRows$Row" "numbers" "[I") (by decide +kernel)) rfl hin rfl (by decide +kernel) rfl rfl (Nat.le_of_ble_eq_true rfl) dX1_init_41 (fun H locs hI hS => ?_)
    refine lv_aload_n hx hb dX1_init_44 rfl (lv_at hl 1 rfl) ?_
    refine lv_iload_n hx hb dX1_init_45 rfl (lv_at hl 0 rfl) ?_
    refine lv_if_eq (tgt := 53) hx hb dX1_init_46 (by decide) (fun c => absurd c (by decide)) (fun _ => ?_)
    refine lv_iconst (v := 0) hx hb dX1_init_49 (by decide) ?_
    refine lv_goto (tgt := 54) hx hb dX1_init_50 (by decide) ?_
    refine wr_newq (N := 0) hx hb hown (hts (.classLink RX1 4 RX0) (by decide +kernel)) hT.2.1 1 rfl hT hI hS hA (by decide) (by decide) (by omega) (Nat.le_of_ble_eq_true rfl) ((Nat.le_of_ble_eq_true rfl)) dX1_init_54 (fun qa H hqa hI hS => ?_)
    refine W.widen (k := 2) (n := 40) (Nat.le_of_ble_eq_true rfl) (by omega) ?_
    have hqa0 : h0 ≠ qa := nw_ne (va_up_self _ _ _) hqa
    have hqna : na ≠ qa := nw_ne ((va_up_ne _ _ hna0.symm).trans (va_up_self _ _ _)) hqa
    refine wr_putF (ci := 0) (C := RX1) (T := TX1) (N := 4) (v := .ref qa) (ty := .array (.object "CopyRows$Part")) hx hb hts in_X1 tyX1 tyX1_ok nmX1 hown hT hI hS ((va_up_ne _ _ hqa0).trans (va_up_self _ _ _)) rfl 3 (by decide) (hts (.fieldLink RX1 22 "CopyRows$Row" "parts" "[LCopyRows$Part;") (by decide +kernel)) rfl hin rfl (by decide +kernel) rfl rfl (Nat.le_of_ble_eq_true rfl) dX1_init_57 (fun H locs hI hS => ?_)
    exact re_v hx hb hr hlocks hT hA hS hI (by
            refine ⟨rfl, na, qa, ?_, ?_, hqna, hna0.symm, hqa0.symm, va_up_self _ _ _, ?_, ?_, ?_⟩
            · simpa [va_up, hna0.symm] using hna
            · simpa [va_up, hqa0.symm, hqna.symm] using hqa
            · simp [va_up, hna0.symm, hqna]
            · simp [va_up, hqa0.symm]
            · intro a h1 h2 h3; simp [va_up, h1, h2, h3]) (Nat.le_of_ble_eq_true rfl) (Nat.le_of_ble_eq_true rfl) dX1_init_60
  · refine lv_iload_n hx hb dX1_init_8 rfl (lv_at hl 1 rfl) ?_
    refine lv_iconst (v := 1) hx hb dX1_init_9 (by decide) ?_
    refine lv_icmp_ne (tgt := 17) hx hb dX1_init_10 (by decide) (fun c_8 => ?_) (fun c_8 => ?_)
    · exact absurd hk (by grind)
    · refine lv_iconst (v := 1) hx hb dX1_init_13 (by decide) ?_
      refine lv_goto (tgt := 18) hx hb dX1_init_14 (by decide) ?_
      refine lv_istore_n (lv' := [(3, .int 1), (0, .ref h0), (1, .int kd), (2, .int (nI n))]) hx hb dX1_init_18 rfl hl (by decide) rfl (fun ls hl => ?_)
      refine lv_aload_n hx hb dX1_init_19 rfl (lv_at hl 1 rfl) ?_
      refine lv_iload_n hx hb dX1_init_20 rfl (lv_at hl 2 rfl) ?_
      refine wr_putF (ci := 0) (C := RX1) (T := TX1) (N := 4) (v := .int kd) (ty := .int) hx hb hts in_X1 tyX1 tyX1_ok nmX1 hown hT hI hS hc rfl 0 (by decide) (hts (.fieldLink RX1 9 "CopyRows$Row" "kind" "I") (by decide +kernel)) rfl hin rfl (by decide +kernel) rfl rfl (Nat.le_of_ble_eq_true rfl) dX1_init_21 (fun H locs hI hS => ?_)
      refine lv_aload_n hx hb dX1_init_24 rfl (lv_at hl 1 rfl) ?_
      refine lv_iload_n hx hb dX1_init_25 rfl (lv_at hl 3 rfl) ?_
      refine wr_putF (ci := 0) (C := RX1) (T := TX1) (N := 4) (v := .int (nI n)) (ty := .int) hx hb hts in_X1 tyX1 tyX1_ok nmX1 hown hT hI hS (va_up_self _ _ _) rfl 1 (by decide) (hts (.fieldLink RX1 15 "CopyRows$Row" "length" "I") (by decide +kernel)) rfl hin rfl (by decide +kernel) rfl rfl (Nat.le_of_ble_eq_true rfl) dX1_init_26 (fun H locs hI hS => ?_)
      refine lv_aload_n hx hb dX1_init_29 rfl (lv_at hl 1 rfl) ?_
      refine lv_iload_n hx hb dX1_init_30 rfl (lv_at hl 0 rfl) ?_
      refine lv_if_eq (tgt := 38) hx hb dX1_init_31 (by decide) (fun c => absurd c (by decide)) (fun _ => ?_)
      refine lv_iload_n hx hb dX1_init_34 rfl (lv_at hl 3 rfl) ?_
      refine lv_goto (tgt := 39) hx hb dX1_init_35 (by decide) ?_
      refine wr_newi (N := n) hx hb (hts (.arrayClass .int) (by decide +kernel)) hT hI hS hA (nI_pos (by omega)) (nI_clamp (by omega)) (by omega) (Nat.le_of_ble_eq_true rfl) (by show 0 + n ≤ 40; omega) dX1_init_39 (fun na H hna hI hS => ?_)
      refine W.widen (k := 1) (n := 40) (Nat.le_of_ble_eq_true rfl) (by omega) ?_
      have hna0 : h0 ≠ na := (nw_ne (va_up_self _ _ _) hna)
      refine wr_putF (ci := 0) (C := RX1) (T := TX1) (N := 4) (v := .ref na) (ty := .array .int) hx hb hts in_X1 tyX1 tyX1_ok nmX1 hown hT hI hS ((va_up_ne _ _ hna0).trans (va_up_self _ _ _)) rfl 2 (by decide) (hts (.fieldLink RX1 18 "CopyRows$Row" "numbers" "[I") (by decide +kernel)) rfl hin rfl (by decide +kernel) rfl rfl (Nat.le_of_ble_eq_true rfl) dX1_init_41 (fun H locs hI hS => ?_)
      refine lv_aload_n hx hb dX1_init_44 rfl (lv_at hl 1 rfl) ?_
      refine lv_iload_n hx hb dX1_init_45 rfl (lv_at hl 0 rfl) ?_
      refine lv_if_eq (tgt := 53) hx hb dX1_init_46 (by decide) (fun c => absurd c (by decide)) (fun _ => ?_)
      refine lv_iconst (v := 0) hx hb dX1_init_49 (by decide) ?_
      refine lv_goto (tgt := 54) hx hb dX1_init_50 (by decide) ?_
      refine wr_newq (N := 0) hx hb hown (hts (.classLink RX1 4 RX0) (by decide +kernel)) hT.2.1 1 rfl hT hI hS hA (by decide) (by decide) (by omega) (Nat.le_of_ble_eq_true rfl) ((Nat.le_of_ble_eq_true rfl)) dX1_init_54 (fun qa H hqa hI hS => ?_)
      refine W.widen (k := 2) (n := 40) (Nat.le_of_ble_eq_true rfl) (by omega) ?_
      have hqa0 : h0 ≠ qa := nw_ne (va_up_self _ _ _) hqa
      have hqna : na ≠ qa := nw_ne ((va_up_ne _ _ hna0.symm).trans (va_up_self _ _ _)) hqa
      refine wr_putF (ci := 0) (C := RX1) (T := TX1) (N := 4) (v := .ref qa) (ty := .array (.object "CopyRows$Part")) hx hb hts in_X1 tyX1 tyX1_ok nmX1 hown hT hI hS ((va_up_ne _ _ hqa0).trans (va_up_self _ _ _)) rfl 3 (by decide) (hts (.fieldLink RX1 22 "CopyRows$Row" "parts" "[LCopyRows$Part;") (by decide +kernel)) rfl hin rfl (by decide +kernel) rfl rfl (Nat.le_of_ble_eq_true rfl) dX1_init_57 (fun H locs hI hS => ?_)
      exact re_v hx hb hr hlocks hT hA hS hI (by
                refine ⟨rfl, na, qa, ?_, ?_, hqna, hna0.symm, hqa0.symm, va_up_self _ _ _, ?_, ?_, ?_⟩
                · simpa [va_up, hna0.symm] using hna
                · simpa [va_up, hqa0.symm, hqna.symm] using hqa
                · simp [va_up, hna0.symm, hqna]
                · simp [va_up, hqa0.symm]
                · intro a h1 h2 h3; simp [va_up, h1, h2, h3]) (Nat.le_of_ble_eq_true rfl) (Nat.le_of_ble_eq_true rfl) dX1_init_60

set_option maxHeartbeats 4000000 in
set_option maxRecDepth 100000 in
theorem cc_X1_init_p (l : Launch) (E : En) (A : Nat → Prop) (w : Wd) {h0 : Nat} {c0 c1 : Int32} {v0 v1 : Value} (kd : Int32) (n : Nat) (hn : n ≤ 40) (hk : ¬ isN kd) (hc : w h0 = some (.inr (0, [.int c0, .int c1, v0, v1]))) : Ct l yX1_init wsX1_init ({ frames := 2, cells := 2, slots := 40, locals := 40 } : Room) E A w [.ref h0, .int kd, .int (nI n)] (fun r w' => r = none ∧ ∃ na qa, w na = none ∧ w qa = none ∧ na ≠ qa ∧ na ≠ h0 ∧ qa ≠ h0 ∧ w' h0 = some (eRow kd (nI n) na qa) ∧ w' na = some (eI E 0 (fun _ => 0)) ∧ w' qa = some (eP E n (fun _ => none)) ∧ ∀ a, a ≠ h0 → a ≠ na → a ≠ qa → w' a = w a) 2 40 := by
  refine Met.ofW (cc := cX1_init) (maxL := 4) (ret := none) (by decide) rfl ?_
  intro pp0 ee0 s m args below meth cc0 s₁ B hml hv
  obtain ⟨rfl, hT, hI, hA⟩ := hv
  have hx := B.exec
  have hb := B.bytes
  have hr := B.returns
  have hts := atoms_spec (ws := wsX1_init) B.pre
  have hown : s.vm.findClass RX1 = some m.cls := findClass_of_methodNamed B.named
  have hlocks := B.notSynchronized
  have hin : meth.name = "<init>" := (name_of_methodNamed B.named B.method).1
  have in_X1 : ∀ w ∈ wsX10, w ∈ wsX1_init := by decide +kernel
  have hS : va_S A s.heap s.heap [] := va_S.rf
  have hl := lv_entry ([.ref h0, .int kd, .int (nI n)]) (n := 4) (Nat.le_of_ble_eq_true rfl)
  rw [lg_entry_eq]
  generalize (lg_sl ([.ref h0, .int kd, .int (nI n)]) ++ List.replicate (4 - (lg_sl ([.ref h0, .int kd, .int (nI n)])).length) Slot.unset).toArray = ls at hl ⊢
  have hl : lv_has ls 4 [(0, .ref h0), (1, .int kd), (2, .int (nI n))] := hl
  refine lv_aload_n hx hb dX1_init_0 rfl (lv_at hl 0 rfl) ?_
  refine ca_IN (As := []) (rest := []) ⟨hx, hb, hml, hown, hts⟩ (cc_X0_init l E A w h0) ⟨va_cnB 0 hts gX1_init_X0_init_n3 rfl rfl rfl hT.2.2.2.1 (hts (.initialized RX0) (by decide +kernel)) (by decide +kernel) ⟨(Nat.le_of_ble_eq_true rfl), (Nat.le_of_ble_eq_true rfl)⟩, rfl, hts (.instanceMethod yX0_init) (by decide +kernel)⟩ hT hI hA hS rfl rfl hl.1 (Nat.le_of_ble_eq_true rfl) dX1_init_1 ⟨(Nat.le_of_ble_eq_true rfl), (Nat.le_of_ble_eq_true rfl)⟩ (fun r w_2 H locs hp_1 hI hS => ?_)
  obtain ⟨rfl, rfl⟩ := hp_1
  refine W.eq (g2 := F0 m 4 ls []) rfl ?_
  refine lv_iload_n hx hb dX1_init_4 rfl (lv_at hl 1 rfl) ?_
  refine lv_if_eq (tgt := 13) hx hb dX1_init_5 (by decide) (fun c_3 => ?_) (fun c_3 => ?_)
  · exact absurd hk (by grind)
  · refine lv_iload_n hx hb dX1_init_8 rfl (lv_at hl 1 rfl) ?_
    refine lv_iconst (v := 1) hx hb dX1_init_9 (by decide) ?_
    refine lv_icmp_ne (tgt := 17) hx hb dX1_init_10 (by decide) (fun c_4 => ?_) (fun c_4 => ?_)
    · refine lv_iconst (v := 0) hx hb dX1_init_17 (by decide) ?_
      refine lv_istore_n (lv' := [(3, .int 0), (0, .ref h0), (1, .int kd), (2, .int (nI n))]) hx hb dX1_init_18 rfl hl (by decide) rfl (fun ls hl => ?_)
      refine lv_aload_n hx hb dX1_init_19 rfl (lv_at hl 1 rfl) ?_
      refine lv_iload_n hx hb dX1_init_20 rfl (lv_at hl 2 rfl) ?_
      refine wr_putF (ci := 0) (C := RX1) (T := TX1) (N := 4) (v := .int kd) (ty := .int) hx hb hts in_X1 tyX1 tyX1_ok nmX1 hown hT hI hS hc rfl 0 (by decide) (hts (.fieldLink RX1 9 "CopyRows$Row" "kind" "I") (by decide +kernel)) rfl hin rfl (by decide +kernel) rfl rfl (Nat.le_of_ble_eq_true rfl) dX1_init_21 (fun H locs hI hS => ?_)
      refine lv_aload_n hx hb dX1_init_24 rfl (lv_at hl 1 rfl) ?_
      refine lv_iload_n hx hb dX1_init_25 rfl (lv_at hl 3 rfl) ?_
      refine wr_putF (ci := 0) (C := RX1) (T := TX1) (N := 4) (v := .int (nI n)) (ty := .int) hx hb hts in_X1 tyX1 tyX1_ok nmX1 hown hT hI hS (va_up_self _ _ _) rfl 1 (by decide) (hts (.fieldLink RX1 15 "CopyRows$Row" "length" "I") (by decide +kernel)) rfl hin rfl (by decide +kernel) rfl rfl (Nat.le_of_ble_eq_true rfl) dX1_init_26 (fun H locs hI hS => ?_)
      refine lv_aload_n hx hb dX1_init_29 rfl (lv_at hl 1 rfl) ?_
      refine lv_iload_n hx hb dX1_init_30 rfl (lv_at hl 0 rfl) ?_
      refine lv_if_eq (tgt := 38) hx hb dX1_init_31 (by decide) (fun _ => ?_) (fun c => absurd c (by decide))
      refine lv_iconst (v := 0) hx hb dX1_init_38 (by decide) ?_
      refine wr_newi (N := 0) hx hb (hts (.arrayClass .int) (by decide +kernel)) hT hI hS hA (by decide) (by decide) (by omega) (Nat.le_of_ble_eq_true rfl) ((Nat.le_of_ble_eq_true rfl)) dX1_init_39 (fun na H hna hI hS => ?_)
      refine W.widen (k := 1) (n := 0) (Nat.le_of_ble_eq_true rfl) (by omega) ?_
      have hna0 : h0 ≠ na := (nw_ne (va_up_self _ _ _) hna)
      refine wr_putF (ci := 0) (C := RX1) (T := TX1) (N := 4) (v := .ref na) (ty := .array .int) hx hb hts in_X1 tyX1 tyX1_ok nmX1 hown hT hI hS ((va_up_ne _ _ hna0).trans (va_up_self _ _ _)) rfl 2 (by decide) (hts (.fieldLink RX1 18 "CopyRows$Row" "numbers" "[I") (by decide +kernel)) rfl hin rfl (by decide +kernel) rfl rfl (Nat.le_of_ble_eq_true rfl) dX1_init_41 (fun H locs hI hS => ?_)
      refine lv_aload_n hx hb dX1_init_44 rfl (lv_at hl 1 rfl) ?_
      refine lv_iload_n hx hb dX1_init_45 rfl (lv_at hl 0 rfl) ?_
      refine lv_if_eq (tgt := 53) hx hb dX1_init_46 (by decide) (fun _ => ?_) (fun c => absurd c (by decide))
      refine lv_iload_n hx hb dX1_init_53 rfl (lv_at hl 3 rfl) ?_
      refine wr_newq (N := n) hx hb hown (hts (.classLink RX1 4 RX0) (by decide +kernel)) hT.2.1 1 rfl hT hI hS hA (nI_pos (by omega)) (nI_clamp (by omega)) (by omega) (Nat.le_of_ble_eq_true rfl) (by show 0 + n ≤ 40; omega) dX1_init_54 (fun qa H hqa hI hS => ?_)
      refine W.widen (k := 2) (n := 40) (Nat.le_of_ble_eq_true rfl) (by omega) ?_
      have hqa0 : h0 ≠ qa := nw_ne (va_up_self _ _ _) hqa
      have hqna : na ≠ qa := nw_ne ((va_up_ne _ _ hna0.symm).trans (va_up_self _ _ _)) hqa
      refine wr_putF (ci := 0) (C := RX1) (T := TX1) (N := 4) (v := .ref qa) (ty := .array (.object "CopyRows$Part")) hx hb hts in_X1 tyX1 tyX1_ok nmX1 hown hT hI hS ((va_up_ne _ _ hqa0).trans (va_up_self _ _ _)) rfl 3 (by decide) (hts (.fieldLink RX1 22 "CopyRows$Row" "parts" "[LCopyRows$Part;") (by decide +kernel)) rfl hin rfl (by decide +kernel) rfl rfl (Nat.le_of_ble_eq_true rfl) dX1_init_57 (fun H locs hI hS => ?_)
      exact re_v hx hb hr hlocks hT hA hS hI (by
                refine ⟨rfl, na, qa, ?_, ?_, hqna, hna0.symm, hqa0.symm, va_up_self _ _ _, ?_, ?_, ?_⟩
                · simpa [va_up, hna0.symm] using hna
                · simpa [va_up, hqa0.symm, hqna.symm] using hqa
                · simp [va_up, hna0.symm, hqna]
                · simp [va_up, hqa0.symm]
                · intro a h1 h2 h3; simp [va_up, h1, h2, h3]) (Nat.le_of_ble_eq_true rfl) (Nat.le_of_ble_eq_true rfl) dX1_init_60
    · exact absurd hk (by grind)

set_option maxHeartbeats 4000000 in
set_option maxRecDepth 100000 in
theorem cc_X1_fitsInto (l : Launch) (E : En) (A : Nat → Prop) (w : Wd) {h0 : Nat} (k : Int32) : Ct l yX1_fitsInto wsX1_fitsInto ({ frames := 0, cells := 0, slots := 0, locals := 0 } : Room) E A w [.ref h0, .int k] (fun r w' => w = w' ∧ (((k = 2) ∧ r = some (.int 1)) ∨ (¬ (k = 2) ∧ r = some (.int 0)))) 0 0 := by
  refine Met.ofW (cc := cX1_fitsInto) (maxL := 2) (ret := (some .boolean)) (by decide) rfl ?_
  intro pp0 ee0 s m args below meth cc0 s₁ B hml hv
  obtain ⟨rfl, hT, hI, hA⟩ := hv
  have hx := B.exec
  have hb := B.bytes
  have hr := B.returns
  have hts := atoms_spec (ws := wsX1_fitsInto) B.pre
  have hown : s.vm.findClass RX1 = some m.cls := findClass_of_methodNamed B.named
  have hlocks := B.notSynchronized
  have hS : va_S A s.heap s.heap [] := va_S.rf
  have hl := lv_entry ([.ref h0, .int k]) (n := 2) (Nat.le_of_ble_eq_true rfl)
  rw [lg_entry_eq]
  generalize (lg_sl ([.ref h0, .int k]) ++ List.replicate (2 - (lg_sl ([.ref h0, .int k])).length) Slot.unset).toArray = ls at hl ⊢
  have hl : lv_has ls 2 [(0, .ref h0), (1, .int k)] := hl
  refine lv_iload_n hx hb dX1_fitsInto_0 rfl (lv_at hl 1 rfl) ?_
  refine lv_iconst (v := 2) hx hb dX1_fitsInto_1 (by decide) ?_
  refine lv_icmp_ne (tgt := 9) hx hb dX1_fitsInto_2 (by decide) (fun c_1 => ?_) (fun c_1 => ?_)
  · refine lv_iconst (v := 0) hx hb dX1_fitsInto_9 (by decide) ?_
    exact re_z hx hb hr hlocks hT hA hS hI (by decide) (by refine ⟨rfl, Or.inr ⟨?_, rfl⟩⟩; grind) (Nat.le_of_ble_eq_true rfl) (Nat.le_of_ble_eq_true rfl) dX1_fitsInto_10
  · refine lv_iconst (v := 1) hx hb dX1_fitsInto_5 (by decide) ?_
    refine lv_goto (tgt := 10) hx hb dX1_fitsInto_6 (by decide) ?_
    exact re_z hx hb hr hlocks hT hA hS hI (by decide) (by refine ⟨rfl, Or.inl ⟨?_, rfl⟩⟩; grind) (Nat.le_of_ble_eq_true rfl) (Nat.le_of_ble_eq_true rfl) dX1_fitsInto_10

set_option maxHeartbeats 4000000 in
set_option maxRecDepth 100000 in
theorem cc_X1_shown (l : Launch) (E : En) (A : Nat → Prop) (w : Wd) {h0 na qa : Nat} {kd ln : Int32} (hc : w h0 = some (eRow kd ln na qa)) : Ct l yX1_shown wsX1_shown ({ frames := 0, cells := 0, slots := 0, locals := 0 } : Room) E A w [.ref h0] (fun r w' => w = w' ∧ r = some (.int ln)) 0 0 := by
  refine Met.ofW (cc := cX1_shown) (maxL := 1) (ret := (some .int)) (by decide) rfl ?_
  intro pp0 ee0 s m args below meth cc0 s₁ B hml hv
  obtain ⟨rfl, hT, hI, hA⟩ := hv
  have hx := B.exec
  have hb := B.bytes
  have hr := B.returns
  have hts := atoms_spec (ws := wsX1_shown) B.pre
  have hown : s.vm.findClass RX1 = some m.cls := findClass_of_methodNamed B.named
  have hlocks := B.notSynchronized
  have in_X1 : ∀ w ∈ wsX10, w ∈ wsX1_shown := by decide +kernel
  have hS : va_S A s.heap s.heap [] := va_S.rf
  have hl := lv_entry ([.ref h0]) (n := 1) (Nat.le_of_ble_eq_true rfl)
  rw [lg_entry_eq]
  generalize (lg_sl ([.ref h0]) ++ List.replicate (1 - (lg_sl ([.ref h0])).length) Slot.unset).toArray = ls at hl ⊢
  have hl : lv_has ls 1 [(0, .ref h0)] := hl
  refine lv_aload_n hx hb dX1_shown_0 rfl (lv_at hl 0 rfl) ?_
  refine wr_get (ci := 0) (C := RX1) (T := TX1) (N := 4) (v := .int ln) hx hb hts in_X1 hown hT hI hc rfl 1 (by decide) (hts (.fieldLink RX1 15 "CopyRows$Row" "length" "I") (by decide +kernel)) rfl dX1_shown_1 ?_
  exact re_i hx hb hr hlocks hT hA hS hI (⟨rfl, rfl⟩) (Nat.le_of_ble_eq_true rfl) (Nat.le_of_ble_eq_true rfl) dX1_shown_4

set_option maxHeartbeats 4000000 in
set_option maxRecDepth 100000 in
theorem cc_X1_isOfNumbers (l : Launch) (E : En) (A : Nat → Prop) (w : Wd) {h0 na qa : Nat} {kd ln : Int32} (hc : w h0 = some (eRow kd ln na qa)) : Ct l yX1_isOfNumbers wsX1_isOfNumbers ({ frames := 0, cells := 0, slots := 0, locals := 0 } : Room) E A w [.ref h0] (fun r w' => w = w' ∧ (((isN kd) ∧ r = some (.int 1)) ∨ (¬ (isN kd) ∧ r = some (.int 0)))) 0 0 := by
  refine Met.ofW (cc := cX1_isOfNumbers) (maxL := 1) (ret := (some .boolean)) (by decide) rfl ?_
  intro pp0 ee0 s m args below meth cc0 s₁ B hml hv
  obtain ⟨rfl, hT, hI, hA⟩ := hv
  have hx := B.exec
  have hb := B.bytes
  have hr := B.returns
  have hts := atoms_spec (ws := wsX1_isOfNumbers) B.pre
  have hown : s.vm.findClass RX1 = some m.cls := findClass_of_methodNamed B.named
  have hlocks := B.notSynchronized
  have in_X1 : ∀ w ∈ wsX10, w ∈ wsX1_isOfNumbers := by decide +kernel
  have hS : va_S A s.heap s.heap [] := va_S.rf
  have hl := lv_entry ([.ref h0]) (n := 1) (Nat.le_of_ble_eq_true rfl)
  rw [lg_entry_eq]
  generalize (lg_sl ([.ref h0]) ++ List.replicate (1 - (lg_sl ([.ref h0])).length) Slot.unset).toArray = ls at hl ⊢
  have hl : lv_has ls 1 [(0, .ref h0)] := hl
  refine lv_aload_n hx hb dX1_isOfNumbers_0 rfl (lv_at hl 0 rfl) ?_
  refine wr_get (ci := 0) (C := RX1) (T := TX1) (N := 4) (v := .int kd) hx hb hts in_X1 hown hT hI hc rfl 0 (by decide) (hts (.fieldLink RX1 9 "CopyRows$Row" "kind" "I") (by decide +kernel)) rfl dX1_isOfNumbers_1 ?_
  refine lv_if_eq (tgt := 15) hx hb dX1_isOfNumbers_4 (by decide) (fun c_1 => ?_) (fun c_1 => ?_)
  · refine lv_iconst (v := 1) hx hb dX1_isOfNumbers_15 (by decide) ?_
    refine lv_goto (tgt := 20) hx hb dX1_isOfNumbers_16 (by decide) ?_
    exact re_z hx hb hr hlocks hT hA hS hI (by decide) (by refine ⟨rfl, Or.inl ⟨?_, rfl⟩⟩; grind) (Nat.le_of_ble_eq_true rfl) (Nat.le_of_ble_eq_true rfl) dX1_isOfNumbers_20
  · refine lv_aload_n hx hb dX1_isOfNumbers_7 rfl (lv_at hl 0 rfl) ?_
    refine wr_get (ci := 0) (C := RX1) (T := TX1) (N := 4) (v := .int kd) hx hb hts in_X1 hown hT hI hc rfl 0 (by decide) (hts (.fieldLink RX1 9 "CopyRows$Row" "kind" "I") (by decide +kernel)) rfl dX1_isOfNumbers_8 ?_
    refine lv_iconst (v := 1) hx hb dX1_isOfNumbers_11 (by decide) ?_
    refine lv_icmp_ne (tgt := 19) hx hb dX1_isOfNumbers_12 (by decide) (fun c_2 => ?_) (fun c_2 => ?_)
    · refine lv_iconst (v := 0) hx hb dX1_isOfNumbers_19 (by decide) ?_
      exact re_z hx hb hr hlocks hT hA hS hI (by decide) (by refine ⟨rfl, Or.inr ⟨?_, rfl⟩⟩; grind) (Nat.le_of_ble_eq_true rfl) (Nat.le_of_ble_eq_true rfl) dX1_isOfNumbers_20
    · refine lv_iconst (v := 1) hx hb dX1_isOfNumbers_15 (by decide) ?_
      refine lv_goto (tgt := 20) hx hb dX1_isOfNumbers_16 (by decide) ?_
      exact re_z hx hb hr hlocks hT hA hS hI (by decide) (by refine ⟨rfl, Or.inl ⟨?_, rfl⟩⟩; grind) (Nat.le_of_ble_eq_true rfl) (Nat.le_of_ble_eq_true rfl) dX1_isOfNumbers_20

set_option maxHeartbeats 4000000 in
set_option maxRecDepth 100000 in
theorem cc_X1_has (l : Launch) (E : En) (A : Nat → Prop) (w : Wd) {h0 na qa : Nat} {kd ln : Int32} (k : Int32) (hc : w h0 = some (eRow kd ln na qa)) : Ct l yX1_has wsX1_has ({ frames := 0, cells := 0, slots := 0, locals := 0 } : Room) E A w [.ref h0, .int k] (fun r w' => w = w' ∧ (((¬ k < 0 ∧ ¬ ln ≤ k) ∧ r = some (.int 1)) ∨ (¬ (¬ k < 0 ∧ ¬ ln ≤ k) ∧ r = some (.int 0)))) 0 0 := by
  refine Met.ofW (cc := cX1_has) (maxL := 2) (ret := (some .boolean)) (by decide) rfl ?_
  intro pp0 ee0 s m args below meth cc0 s₁ B hml hv
  obtain ⟨rfl, hT, hI, hA⟩ := hv
  have hx := B.exec
  have hb := B.bytes
  have hr := B.returns
  have hts := atoms_spec (ws := wsX1_has) B.pre
  have hown : s.vm.findClass RX1 = some m.cls := findClass_of_methodNamed B.named
  have hlocks := B.notSynchronized
  have in_X1 : ∀ w ∈ wsX10, w ∈ wsX1_has := by decide +kernel
  have hS : va_S A s.heap s.heap [] := va_S.rf
  have hl := lv_entry ([.ref h0, .int k]) (n := 2) (Nat.le_of_ble_eq_true rfl)
  rw [lg_entry_eq]
  generalize (lg_sl ([.ref h0, .int k]) ++ List.replicate (2 - (lg_sl ([.ref h0, .int k])).length) Slot.unset).toArray = ls at hl ⊢
  have hl : lv_has ls 2 [(0, .ref h0), (1, .int k)] := hl
  refine lv_iload_n hx hb dX1_has_0 rfl (lv_at hl 1 rfl) ?_
  refine lv_if_lt (tgt := 16) hx hb dX1_has_1 (by decide) (fun c_1 => ?_) (fun c_1 => ?_)
  · refine lv_iconst (v := 0) hx hb dX1_has_16 (by decide) ?_
    exact re_z hx hb hr hlocks hT hA hS hI (by decide) (by refine ⟨rfl, Or.inr ⟨?_, rfl⟩⟩; grind) (Nat.le_of_ble_eq_true rfl) (Nat.le_of_ble_eq_true rfl) dX1_has_17
  · refine lv_iload_n hx hb dX1_has_4 rfl (lv_at hl 1 rfl) ?_
    refine lv_aload_n hx hb dX1_has_5 rfl (lv_at hl 0 rfl) ?_
    refine wr_get (ci := 0) (C := RX1) (T := TX1) (N := 4) (v := .int ln) hx hb hts in_X1 hown hT hI hc rfl 1 (by decide) (hts (.fieldLink RX1 15 "CopyRows$Row" "length" "I") (by decide +kernel)) rfl dX1_has_6 ?_
    refine lv_icmp_ge (tgt := 16) hx hb dX1_has_9 (by decide) (fun c_2 => ?_) (fun c_2 => ?_)
    · refine lv_iconst (v := 0) hx hb dX1_has_16 (by decide) ?_
      exact re_z hx hb hr hlocks hT hA hS hI (by decide) (by refine ⟨rfl, Or.inr ⟨?_, rfl⟩⟩; grind) (Nat.le_of_ble_eq_true rfl) (Nat.le_of_ble_eq_true rfl) dX1_has_17
    · refine lv_iconst (v := 1) hx hb dX1_has_12 (by decide) ?_
      refine lv_goto (tgt := 17) hx hb dX1_has_13 (by decide) ?_
      exact re_z hx hb hr hlocks hT hA hS hI (by decide) (by refine ⟨rfl, Or.inl ⟨?_, rfl⟩⟩; grind) (Nat.le_of_ble_eq_true rfl) (Nat.le_of_ble_eq_true rfl) dX1_has_17

set_option maxHeartbeats 4000000 in
set_option maxRecDepth 100000 in
theorem cc_X1_hasRange (l : Launch) (E : En) (A : Nat → Prop) (w : Wd) {h0 na qa : Nat} {kd ln : Int32} (i n : Int32) (hc : w h0 = some (eRow kd ln na qa)) : Ct l yX1_hasRange wsX1_hasRange ({ frames := 0, cells := 0, slots := 0, locals := 0 } : Room) E A w [.ref h0, .int i, .int n] (fun r w' => w = w' ∧ (((¬ i < 0 ∧ ¬ n < 0 ∧ ¬ ln < i ∧ ¬ ln - i < n) ∧ r = some (.int 1)) ∨ (¬ (¬ i < 0 ∧ ¬ n < 0 ∧ ¬ ln < i ∧ ¬ ln - i < n) ∧ r = some (.int 0)))) 0 0 := by
  refine Met.ofW (cc := cX1_hasRange) (maxL := 3) (ret := (some .boolean)) (by decide) rfl ?_
  intro pp0 ee0 s m args below meth cc0 s₁ B hml hv
  obtain ⟨rfl, hT, hI, hA⟩ := hv
  have hx := B.exec
  have hb := B.bytes
  have hr := B.returns
  have hts := atoms_spec (ws := wsX1_hasRange) B.pre
  have hown : s.vm.findClass RX1 = some m.cls := findClass_of_methodNamed B.named
  have hlocks := B.notSynchronized
  have in_X1 : ∀ w ∈ wsX10, w ∈ wsX1_hasRange := by decide +kernel
  have hS : va_S A s.heap s.heap [] := va_S.rf
  have hl := lv_entry ([.ref h0, .int i, .int n]) (n := 3) (Nat.le_of_ble_eq_true rfl)
  rw [lg_entry_eq]
  generalize (lg_sl ([.ref h0, .int i, .int n]) ++ List.replicate (3 - (lg_sl ([.ref h0, .int i, .int n])).length) Slot.unset).toArray = ls at hl ⊢
  have hl : lv_has ls 3 [(0, .ref h0), (1, .int i), (2, .int n)] := hl
  refine lv_iload_n hx hb dX1_hasRange_0 rfl (lv_at hl 1 rfl) ?_
  refine lv_if_lt (tgt := 30) hx hb dX1_hasRange_1 (by decide) (fun c_1 => ?_) (fun c_1 => ?_)
  · refine lv_iconst (v := 0) hx hb dX1_hasRange_30 (by decide) ?_
    exact re_z hx hb hr hlocks hT hA hS hI (by decide) (by refine ⟨rfl, Or.inr ⟨?_, rfl⟩⟩; grind) (Nat.le_of_ble_eq_true rfl) (Nat.le_of_ble_eq_true rfl) dX1_hasRange_31
  · refine lv_iload_n hx hb dX1_hasRange_4 rfl (lv_at hl 2 rfl) ?_
    refine lv_if_lt (tgt := 30) hx hb dX1_hasRange_5 (by decide) (fun c_2 => ?_) (fun c_2 => ?_)
    · refine lv_iconst (v := 0) hx hb dX1_hasRange_30 (by decide) ?_
      exact re_z hx hb hr hlocks hT hA hS hI (by decide) (by refine ⟨rfl, Or.inr ⟨?_, rfl⟩⟩; grind) (Nat.le_of_ble_eq_true rfl) (Nat.le_of_ble_eq_true rfl) dX1_hasRange_31
    · refine lv_iload_n hx hb dX1_hasRange_8 rfl (lv_at hl 1 rfl) ?_
      refine lv_aload_n hx hb dX1_hasRange_9 rfl (lv_at hl 0 rfl) ?_
      refine wr_get (ci := 0) (C := RX1) (T := TX1) (N := 4) (v := .int ln) hx hb hts in_X1 hown hT hI hc rfl 1 (by decide) (hts (.fieldLink RX1 15 "CopyRows$Row" "length" "I") (by decide +kernel)) rfl dX1_hasRange_10 ?_
      refine lv_icmp_gt (tgt := 30) hx hb dX1_hasRange_13 (by decide) (fun c_3 => ?_) (fun c_3 => ?_)
      · refine lv_iconst (v := 0) hx hb dX1_hasRange_30 (by decide) ?_
        exact re_z hx hb hr hlocks hT hA hS hI (by decide) (by refine ⟨rfl, Or.inr ⟨?_, rfl⟩⟩; grind) (Nat.le_of_ble_eq_true rfl) (Nat.le_of_ble_eq_true rfl) dX1_hasRange_31
      · refine lv_iload_n hx hb dX1_hasRange_16 rfl (lv_at hl 2 rfl) ?_
        refine lv_aload_n hx hb dX1_hasRange_17 rfl (lv_at hl 0 rfl) ?_
        refine wr_get (ci := 0) (C := RX1) (T := TX1) (N := 4) (v := .int ln) hx hb hts in_X1 hown hT hI hc rfl 1 (by decide) (hts (.fieldLink RX1 15 "CopyRows$Row" "length" "I") (by decide +kernel)) rfl dX1_hasRange_18 ?_
        refine lv_iload_n hx hb dX1_hasRange_21 rfl (lv_at hl 1 rfl) ?_
        refine lv_isub hx hb dX1_hasRange_22 ?_
        refine lv_icmp_gt (tgt := 30) hx hb dX1_hasRange_23 (by decide) (fun c_4 => ?_) (fun c_4 => ?_)
        · refine lv_iconst (v := 0) hx hb dX1_hasRange_30 (by decide) ?_
          exact re_z hx hb hr hlocks hT hA hS hI (by decide) (by refine ⟨rfl, Or.inr ⟨?_, rfl⟩⟩; grind) (Nat.le_of_ble_eq_true rfl) (Nat.le_of_ble_eq_true rfl) dX1_hasRange_31
        · refine lv_iconst (v := 1) hx hb dX1_hasRange_26 (by decide) ?_
          refine lv_goto (tgt := 31) hx hb dX1_hasRange_27 (by decide) ?_
          exact re_z hx hb hr hlocks hT hA hS hI (by decide) (by refine ⟨rfl, Or.inl ⟨?_, rfl⟩⟩; grind) (Nat.le_of_ble_eq_true rfl) (Nat.le_of_ble_eq_true rfl) dX1_hasRange_31

set_option maxHeartbeats 4000000 in
set_option maxRecDepth 100000 in
theorem cc_X2_fitsInto (l : Launch) (E : En) (A : Nat → Prop) (w : Wd) {h0 : Nat} {cv nv : Int32} (k : Int32) (hc : w h0 = some (eTh cv nv)) : Ct l yX2_fitsInto wsX2_fitsInto ({ frames := 0, cells := 0, slots := 0, locals := 0 } : Room) E A w [.ref h0, .int k] (fun r w' => w = w' ∧ (((fT k cv) ∧ r = some (.int 1)) ∨ (¬ (fT k cv) ∧ r = some (.int 0)))) 0 0 := by
  refine Met.ofW (cc := cX2_fitsInto) (maxL := 2) (ret := (some .boolean)) (by decide) rfl ?_
  intro pp0 ee0 s m args below meth cc0 s₁ B hml hv
  obtain ⟨rfl, hT, hI, hA⟩ := hv
  have hx := B.exec
  have hb := B.bytes
  have hr := B.returns
  have hts := atoms_spec (ws := wsX2_fitsInto) B.pre
  have hown : s.vm.findClass RX2 = some m.cls := findClass_of_methodNamed B.named
  have hlocks := B.notSynchronized
  have in_X2 : ∀ w ∈ wsX20, w ∈ wsX2_fitsInto := by decide +kernel
  have hS : va_S A s.heap s.heap [] := va_S.rf
  have hl := lv_entry ([.ref h0, .int k]) (n := 2) (Nat.le_of_ble_eq_true rfl)
  rw [lg_entry_eq]
  generalize (lg_sl ([.ref h0, .int k]) ++ List.replicate (2 - (lg_sl ([.ref h0, .int k])).length) Slot.unset).toArray = ls at hl ⊢
  have hl : lv_has ls 2 [(0, .ref h0), (1, .int k)] := hl
  refine lv_iload_n hx hb dX2_fitsInto_0 rfl (lv_at hl 1 rfl) ?_
  refine lv_iconst (v := 3) hx hb dX2_fitsInto_1 (by decide) ?_
  refine lv_icmp_eq (tgt := 31) hx hb dX2_fitsInto_2 (by decide) (fun c_1 => ?_) (fun c_1 => ?_)
  · refine lv_iconst (v := 1) hx hb dX2_fitsInto_31 (by decide) ?_
    refine lv_goto (tgt := 36) hx hb dX2_fitsInto_32 (by decide) ?_
    exact re_z hx hb hr hlocks hT hA hS hI (by decide) (by refine ⟨rfl, Or.inl ⟨?_, rfl⟩⟩; grind) (Nat.le_of_ble_eq_true rfl) (Nat.le_of_ble_eq_true rfl) dX2_fitsInto_36
  · refine lv_iload_n hx hb dX2_fitsInto_5 rfl (lv_at hl 1 rfl) ?_
    refine lv_iconst (v := 4) hx hb dX2_fitsInto_6 (by decide) ?_
    refine lv_icmp_ne (tgt := 18) hx hb dX2_fitsInto_7 (by decide) (fun c_2 => ?_) (fun c_2 => ?_)
    · refine lv_iload_n hx hb dX2_fitsInto_18 rfl (lv_at hl 1 rfl) ?_
      refine lv_iconst (v := 5) hx hb dX2_fitsInto_19 (by decide) ?_
      refine lv_icmp_ne (tgt := 35) hx hb dX2_fitsInto_20 (by decide) (fun c_3 => ?_) (fun c_3 => ?_)
      · refine lv_iconst (v := 0) hx hb dX2_fitsInto_35 (by decide) ?_
        exact re_z hx hb hr hlocks hT hA hS hI (by decide) (by refine ⟨rfl, Or.inr ⟨?_, rfl⟩⟩; grind) (Nat.le_of_ble_eq_true rfl) (Nat.le_of_ble_eq_true rfl) dX2_fitsInto_36
      · refine lv_aload_n hx hb dX2_fitsInto_23 rfl (lv_at hl 0 rfl) ?_
        refine wr_get (ci := 1) (C := RX2) (T := TX2) (N := 2) (v := .int cv) hx hb hts in_X2 hown hT hI hc rfl 0 (by decide) (hts (.fieldLink RX2 9 "CopyRows$Thing" "cls" "I") (by decide +kernel)) rfl dX2_fitsInto_24 ?_
        refine lv_iconst (v := 2) hx hb dX2_fitsInto_27 (by decide) ?_
        refine lv_icmp_ne (tgt := 35) hx hb dX2_fitsInto_28 (by decide) (fun c_4 => ?_) (fun c_4 => ?_)
        · refine lv_iconst (v := 0) hx hb dX2_fitsInto_35 (by decide) ?_
          exact re_z hx hb hr hlocks hT hA hS hI (by decide) (by refine ⟨rfl, Or.inr ⟨?_, rfl⟩⟩; grind) (Nat.le_of_ble_eq_true rfl) (Nat.le_of_ble_eq_true rfl) dX2_fitsInto_36
        · refine lv_iconst (v := 1) hx hb dX2_fitsInto_31 (by decide) ?_
          refine lv_goto (tgt := 36) hx hb dX2_fitsInto_32 (by decide) ?_
          exact re_z hx hb hr hlocks hT hA hS hI (by decide) (by refine ⟨rfl, Or.inl ⟨?_, rfl⟩⟩; grind) (Nat.le_of_ble_eq_true rfl) (Nat.le_of_ble_eq_true rfl) dX2_fitsInto_36
    · refine lv_aload_n hx hb dX2_fitsInto_10 rfl (lv_at hl 0 rfl) ?_
      refine wr_get (ci := 1) (C := RX2) (T := TX2) (N := 2) (v := .int cv) hx hb hts in_X2 hown hT hI hc rfl 0 (by decide) (hts (.fieldLink RX2 9 "CopyRows$Thing" "cls" "I") (by decide +kernel)) rfl dX2_fitsInto_11 ?_
      refine lv_iconst (v := 1) hx hb dX2_fitsInto_14 (by decide) ?_
      refine lv_icmp_eq (tgt := 31) hx hb dX2_fitsInto_15 (by decide) (fun c_5 => ?_) (fun c_5 => ?_)
      · refine lv_iconst (v := 1) hx hb dX2_fitsInto_31 (by decide) ?_
        refine lv_goto (tgt := 36) hx hb dX2_fitsInto_32 (by decide) ?_
        exact re_z hx hb hr hlocks hT hA hS hI (by decide) (by refine ⟨rfl, Or.inl ⟨?_, rfl⟩⟩; grind) (Nat.le_of_ble_eq_true rfl) (Nat.le_of_ble_eq_true rfl) dX2_fitsInto_36
      · refine lv_iload_n hx hb dX2_fitsInto_18 rfl (lv_at hl 1 rfl) ?_
        refine lv_iconst (v := 5) hx hb dX2_fitsInto_19 (by decide) ?_
        refine lv_icmp_ne (tgt := 35) hx hb dX2_fitsInto_20 (by decide) (fun c_6 => ?_) (fun c_6 => ?_)
        · refine lv_iconst (v := 0) hx hb dX2_fitsInto_35 (by decide) ?_
          exact re_z hx hb hr hlocks hT hA hS hI (by decide) (by refine ⟨rfl, Or.inr ⟨?_, rfl⟩⟩; grind) (Nat.le_of_ble_eq_true rfl) (Nat.le_of_ble_eq_true rfl) dX2_fitsInto_36
        · refine lv_aload_n hx hb dX2_fitsInto_23 rfl (lv_at hl 0 rfl) ?_
          refine wr_get (ci := 1) (C := RX2) (T := TX2) (N := 2) (v := .int cv) hx hb hts in_X2 hown hT hI hc rfl 0 (by decide) (hts (.fieldLink RX2 9 "CopyRows$Thing" "cls" "I") (by decide +kernel)) rfl dX2_fitsInto_24 ?_
          refine lv_iconst (v := 2) hx hb dX2_fitsInto_27 (by decide) ?_
          refine lv_icmp_ne (tgt := 35) hx hb dX2_fitsInto_28 (by decide) (fun c_7 => ?_) (fun c_7 => ?_)
          · refine lv_iconst (v := 0) hx hb dX2_fitsInto_35 (by decide) ?_
            exact re_z hx hb hr hlocks hT hA hS hI (by decide) (by refine ⟨rfl, Or.inr ⟨?_, rfl⟩⟩; grind) (Nat.le_of_ble_eq_true rfl) (Nat.le_of_ble_eq_true rfl) dX2_fitsInto_36
          · refine lv_iconst (v := 1) hx hb dX2_fitsInto_31 (by decide) ?_
            refine lv_goto (tgt := 36) hx hb dX2_fitsInto_32 (by decide) ?_
            exact re_z hx hb hr hlocks hT hA hS hI (by decide) (by refine ⟨rfl, Or.inl ⟨?_, rfl⟩⟩; grind) (Nat.le_of_ble_eq_true rfl) (Nat.le_of_ble_eq_true rfl) dX2_fitsInto_36

set_option maxHeartbeats 4000000 in
set_option maxRecDepth 100000 in
theorem cc_X2_shown (l : Launch) (E : En) (A : Nat → Prop) (w : Wd) {h0 : Nat} {cv nv : Int32} (hc : w h0 = some (eTh cv nv)) : Ct l yX2_shown wsX2_shown ({ frames := 0, cells := 0, slots := 0, locals := 0 } : Room) E A w [.ref h0] (fun r w' => w = w' ∧ r = some (.int nv)) 0 0 := by
  refine Met.ofW (cc := cX2_shown) (maxL := 1) (ret := (some .int)) (by decide) rfl ?_
  intro pp0 ee0 s m args below meth cc0 s₁ B hml hv
  obtain ⟨rfl, hT, hI, hA⟩ := hv
  have hx := B.exec
  have hb := B.bytes
  have hr := B.returns
  have hts := atoms_spec (ws := wsX2_shown) B.pre
  have hown : s.vm.findClass RX2 = some m.cls := findClass_of_methodNamed B.named
  have hlocks := B.notSynchronized
  have in_X2 : ∀ w ∈ wsX20, w ∈ wsX2_shown := by decide +kernel
  have hS : va_S A s.heap s.heap [] := va_S.rf
  have hl := lv_entry ([.ref h0]) (n := 1) (Nat.le_of_ble_eq_true rfl)
  rw [lg_entry_eq]
  generalize (lg_sl ([.ref h0]) ++ List.replicate (1 - (lg_sl ([.ref h0])).length) Slot.unset).toArray = ls at hl ⊢
  have hl : lv_has ls 1 [(0, .ref h0)] := hl
  refine lv_aload_n hx hb dX2_shown_0 rfl (lv_at hl 0 rfl) ?_
  refine wr_get (ci := 1) (C := RX2) (T := TX2) (N := 2) (v := .int nv) hx hb hts in_X2 hown hT hI hc rfl 1 (by decide) (hts (.fieldLink RX2 15 "CopyRows$Thing" "number" "I") (by decide +kernel)) rfl dX2_shown_1 ?_
  exact re_i hx hb hr hlocks hT hA hS hI (⟨rfl, rfl⟩) (Nat.le_of_ble_eq_true rfl) (Nat.le_of_ble_eq_true rfl) dX2_shown_4

set_option maxHeartbeats 4000000 in
set_option maxRecDepth 100000 in
theorem cc_X1_takes_N (l : Launch) (E : En) (A : Nat → Prop) (w : Wd) {h0 na qa : Nat} {kd ln : Int32} (hc : w h0 = some (eRow kd ln na qa)) : Ct l yX1_takes wsX1_takes ({ frames := 1, cells := 0, slots := 0, locals := 21 } : Room) E A w [.ref h0, .null] (fun r w' => w = w' ∧ r = some (.int 1)) 0 0 := by
  refine Met.ofW (cc := cX1_takes) (maxL := 2) (ret := (some .boolean)) (by decide) rfl ?_
  intro pp0 ee0 s m args below meth cc0 s₁ B hml hv
  obtain ⟨rfl, hT, hI, hA⟩ := hv
  have hx := B.exec
  have hb := B.bytes
  have hr := B.returns
  have hts := atoms_spec (ws := wsX1_takes) B.pre
  have hown : s.vm.findClass RX1 = some m.cls := findClass_of_methodNamed B.named
  have hlocks := B.notSynchronized
  have hS : va_S A s.heap s.heap [] := va_S.rf
  have hl := lv_entry ([.ref h0, .null]) (n := 2) (Nat.le_of_ble_eq_true rfl)
  rw [lg_entry_eq]
  generalize (lg_sl ([.ref h0, .null]) ++ List.replicate (2 - (lg_sl ([.ref h0, .null])).length) Slot.unset).toArray = ls at hl ⊢
  have hl : lv_has ls 2 [(0, .ref h0), (1, .null)] := hl
  refine lv_aload_nN hx hb dX1_takes_0 rfl (lv_at hl 1 rfl) ?_
  refine lv_ifnullN (tgt := 15) hx hb dX1_takes_1 (by decide) ?_
  refine lv_iconst (v := 1) hx hb dX1_takes_15 (by decide) ?_
  refine lv_goto (tgt := 20) hx hb dX1_takes_16 (by decide) ?_
  exact re_z hx hb hr hlocks hT hA hS hI (by decide) (⟨rfl, rfl⟩) (Nat.le_of_ble_eq_true rfl) (Nat.le_of_ble_eq_true rfl) dX1_takes_20

set_option maxHeartbeats 4000000 in
set_option maxRecDepth 100000 in
theorem cc_X1_takes_R (l : Launch) (E : En) (A : Nat → Prop) (w : Wd) {h0 na qa : Nat} {kd ln : Int32} {b xb yb : Nat} {kb lb : Int32} (hc : w h0 = some (eRow kd ln na qa)) (hbc : w b = some (eRow kb lb xb yb)) : Ct l yX1_takes wsX1_takes ({ frames := 1, cells := 0, slots := 0, locals := 21 } : Room) E A w [.ref h0, .ref b] (fun r w' => w = w' ∧ (((kd = 2) ∧ r = some (.int 1)) ∨ (¬ (kd = 2) ∧ r = some (.int 0)))) 0 0 := by
  refine Met.ofW (cc := cX1_takes) (maxL := 2) (ret := (some .boolean)) (by decide) rfl ?_
  intro pp0 ee0 s m args below meth cc0 s₁ B hml hv
  obtain ⟨rfl, hT, hI, hA⟩ := hv
  have hx := B.exec
  have hb := B.bytes
  have hr := B.returns
  have hts := atoms_spec (ws := wsX1_takes) B.pre
  have hown : s.vm.findClass RX1 = some m.cls := findClass_of_methodNamed B.named
  have hlocks := B.notSynchronized
  have in_X1 : ∀ w ∈ wsX10, w ∈ wsX1_takes := by decide +kernel
  have hS : va_S A s.heap s.heap [] := va_S.rf
  have hl := lv_entry ([.ref h0, .ref b]) (n := 2) (Nat.le_of_ble_eq_true rfl)
  rw [lg_entry_eq]
  generalize (lg_sl ([.ref h0, .ref b]) ++ List.replicate (2 - (lg_sl ([.ref h0, .ref b])).length) Slot.unset).toArray = ls at hl ⊢
  have hl : lv_has ls 2 [(0, .ref h0), (1, .ref b)] := hl
  refine lv_aload_n hx hb dX1_takes_0 rfl (lv_at hl 1 rfl) ?_
  refine lv_ifnull hx hb dX1_takes_1 ?_
  refine lv_aload_n hx hb dX1_takes_4 rfl (lv_at hl 1 rfl) ?_
  refine lv_aload_n hx hb dX1_takes_5 rfl (lv_at hl 0 rfl) ?_
  refine wr_get (ci := 0) (C := RX1) (T := TX1) (N := 4) (v := .int kd) hx hb hts in_X1 hown hT hI hc rfl 0 (by decide) (hts (.fieldLink RX1 9 "CopyRows$Row" "kind" "I") (by decide +kernel)) rfl dX1_takes_6 ?_
  refine ca_U (As := [.int kd]) (rest := []) (r0 := (RX1, TX1, 4)) (ci := 0) ⟨hx, hb, hml, hown, hts⟩ (cc_X1_fitsInto l E A _ kd) (va_cwA 1 hts gX1_takes_X1_fitsInto_u26X1 rfl rfl rfl hT.2.2.2.2.2.1 (by decide +kernel) ⟨(Nat.le_of_ble_eq_true rfl), (Nat.le_of_ble_eq_true rfl)⟩) hT hI hA hS rfl hbc rfl rfl hl.1 (Nat.le_of_ble_eq_true rfl) dX1_takes_9 ⟨(Nat.le_of_ble_eq_true rfl), (Nat.le_of_ble_eq_true rfl)⟩ (fun r w_2 H locs hp_1 hI hS => ?_)
  obtain ⟨rfl, ⟨hb_3, rfl⟩ | ⟨hb_3, rfl⟩⟩ := hp_1
  · refine W.eq (g2 := F0 m 12 ls [.int 1]) rfl ?_
    refine lv_if_eq (tgt := 19) hx hb dX1_takes_12 (by decide) (fun c => absurd c (by decide)) (fun _ => ?_)
    refine lv_iconst (v := 1) hx hb dX1_takes_15 (by decide) ?_
    refine lv_goto (tgt := 20) hx hb dX1_takes_16 (by decide) ?_
    exact re_z hx hb hr hlocks hT hA hS hI (by decide) (by refine ⟨rfl, Or.inl ⟨?_, rfl⟩⟩; grind) (Nat.le_of_ble_eq_true rfl) (Nat.le_of_ble_eq_true rfl) dX1_takes_20
  · refine W.eq (g2 := F0 m 12 ls [.int 0]) rfl ?_
    refine lv_if_eq (tgt := 19) hx hb dX1_takes_12 (by decide) (fun _ => ?_) (fun c => absurd c (by decide))
    refine lv_iconst (v := 0) hx hb dX1_takes_19 (by decide) ?_
    exact re_z hx hb hr hlocks hT hA hS hI (by decide) (by refine ⟨rfl, Or.inr ⟨?_, rfl⟩⟩; grind) (Nat.le_of_ble_eq_true rfl) (Nat.le_of_ble_eq_true rfl) dX1_takes_20

set_option maxHeartbeats 4000000 in
set_option maxRecDepth 100000 in
theorem cc_X1_takes_T (l : Launch) (E : En) (A : Nat → Prop) (w : Wd) {h0 na qa : Nat} {kd ln : Int32} {b : Nat} {cb nb : Int32} (hc : w h0 = some (eRow kd ln na qa)) (hbc : w b = some (eTh cb nb)) : Ct l yX1_takes wsX1_takes ({ frames := 1, cells := 0, slots := 0, locals := 21 } : Room) E A w [.ref h0, .ref b] (fun r w' => w = w' ∧ (((fT kd cb) ∧ r = some (.int 1)) ∨ (¬ (fT kd cb) ∧ r = some (.int 0)))) 0 0 := by
  refine Met.ofW (cc := cX1_takes) (maxL := 2) (ret := (some .boolean)) (by decide) rfl ?_
  intro pp0 ee0 s m args below meth cc0 s₁ B hml hv
  obtain ⟨rfl, hT, hI, hA⟩ := hv
  have hx := B.exec
  have hb := B.bytes
  have hr := B.returns
  have hts := atoms_spec (ws := wsX1_takes) B.pre
  have hown : s.vm.findClass RX1 = some m.cls := findClass_of_methodNamed B.named
  have hlocks := B.notSynchronized
  have in_X1 : ∀ w ∈ wsX10, w ∈ wsX1_takes := by decide +kernel
  have hS : va_S A s.heap s.heap [] := va_S.rf
  have hl := lv_entry ([.ref h0, .ref b]) (n := 2) (Nat.le_of_ble_eq_true rfl)
  rw [lg_entry_eq]
  generalize (lg_sl ([.ref h0, .ref b]) ++ List.replicate (2 - (lg_sl ([.ref h0, .ref b])).length) Slot.unset).toArray = ls at hl ⊢
  have hl : lv_has ls 2 [(0, .ref h0), (1, .ref b)] := hl
  refine lv_aload_n hx hb dX1_takes_0 rfl (lv_at hl 1 rfl) ?_
  refine lv_ifnull hx hb dX1_takes_1 ?_
  refine lv_aload_n hx hb dX1_takes_4 rfl (lv_at hl 1 rfl) ?_
  refine lv_aload_n hx hb dX1_takes_5 rfl (lv_at hl 0 rfl) ?_
  refine wr_get (ci := 0) (C := RX1) (T := TX1) (N := 4) (v := .int kd) hx hb hts in_X1 hown hT hI hc rfl 0 (by decide) (hts (.fieldLink RX1 9 "CopyRows$Row" "kind" "I") (by decide +kernel)) rfl dX1_takes_6 ?_
  refine ca_U (As := [.int kd]) (rest := []) (r0 := (RX2, TX2, 2)) (ci := 1) ⟨hx, hb, hml, hown, hts⟩ (cc_X2_fitsInto l E A _ kd hbc) (va_cwA 1 hts gX1_takes_X2_fitsInto_u26X2 rfl rfl rfl hT.2.2.2.2.2.1 (by decide +kernel) ⟨(Nat.le_of_ble_eq_true rfl), (Nat.le_of_ble_eq_true rfl)⟩) hT hI hA hS rfl hbc rfl rfl hl.1 (Nat.le_of_ble_eq_true rfl) dX1_takes_9 ⟨(Nat.le_of_ble_eq_true rfl), (Nat.le_of_ble_eq_true rfl)⟩ (fun r w_2 H locs hp_1 hI hS => ?_)
  obtain ⟨rfl, ⟨hb_3, rfl⟩ | ⟨hb_3, rfl⟩⟩ := hp_1
  · refine W.eq (g2 := F0 m 12 ls [.int 1]) rfl ?_
    refine lv_if_eq (tgt := 19) hx hb dX1_takes_12 (by decide) (fun c => absurd c (by decide)) (fun _ => ?_)
    refine lv_iconst (v := 1) hx hb dX1_takes_15 (by decide) ?_
    refine lv_goto (tgt := 20) hx hb dX1_takes_16 (by decide) ?_
    exact re_z hx hb hr hlocks hT hA hS hI (by decide) (by refine ⟨rfl, Or.inl ⟨?_, rfl⟩⟩; grind) (Nat.le_of_ble_eq_true rfl) (Nat.le_of_ble_eq_true rfl) dX1_takes_20
  · refine W.eq (g2 := F0 m 12 ls [.int 0]) rfl ?_
    refine lv_if_eq (tgt := 19) hx hb dX1_takes_12 (by decide) (fun _ => ?_) (fun c => absurd c (by decide))
    refine lv_iconst (v := 0) hx hb dX1_takes_19 (by decide) ?_
    exact re_z hx hb hr hlocks hT hA hS hI (by decide) (by refine ⟨rfl, Or.inr ⟨?_, rfl⟩⟩; grind) (Nat.le_of_ble_eq_true rfl) (Nat.le_of_ble_eq_true rfl) dX1_takes_20

theorem cc_X1_takes (l : Launch) (E : En) (A : Nat → Prop) (w : Wd) {h0 na qa : Nat} {kd ln : Int32} (o : Option Nat) (ho : okW w o) (hc : w h0 = some (eRow kd ln na qa)) : Ct l yX1_takes wsX1_takes ({ frames := 1, cells := 0, slots := 0, locals := 21 } : Room) E A w [.ref h0, va_rf o] (fun r w' => w = w' ∧ (((fitW w kd o) ∧ r = some (.int 1)) ∨ (¬ (fitW w kd o) ∧ r = some (.int 0)))) 0 0 := by
  cases o with
  | none =>
    refine Ct.mono (cc_X1_takes_N l E A w hc) (fun r w' h => ⟨h.1, Or.inl ⟨fitW_none, h.2⟩⟩)
  | some b =>
    rcases ho b rfl with ⟨c, n, h⟩ | ⟨k, l1, x, y, h⟩
    · refine Ct.mono (cc_X1_takes_T l E A w hc h) (fun r w' q => ⟨q.1, ?_⟩)
      rw [fitW_th h]; exact q.2
    · refine Ct.mono (cc_X1_takes_R l E A w hc h) (fun r w' q => ⟨q.1, ?_⟩)
      rw [fitW_row h]; exact q.2

set_option maxHeartbeats 4000000 in
set_option maxRecDepth 100000 in
theorem cc_X1_mayTakeOf (l : Launch) (E : En) (A : Nat → Prop) (w : Wd) {h0 na qa : Nat} {kd ln : Int32} {h1 na1 qa1 : Nat} {kf lf : Int32} (hc : w h0 = some (eRow kd ln na qa)) (hc1 : w h1 = some (eRow kf lf na1 qa1)) : Ct l yX1_mayTakeOf wsX1_mayTakeOf ({ frames := 1, cells := 0, slots := 0, locals := 20 } : Room) E A w [.ref h0, .ref h1] (fun r w' => w = w' ∧ (((¬ (kd = 6 ∨ kf = 6) ∧ (kd = kf ∨ ¬ isN kd ∧ ¬ isN kf)) ∧ r = some (.int 1)) ∨ (¬ (¬ (kd = 6 ∨ kf = 6) ∧ (kd = kf ∨ ¬ isN kd ∧ ¬ isN kf)) ∧ r = some (.int 0)))) 0 0 := by
  refine Met.ofW (cc := cX1_mayTakeOf) (maxL := 2) (ret := (some .boolean)) (by decide) rfl ?_
  intro pp0 ee0 s m args below meth cc0 s₁ B hml hv
  obtain ⟨rfl, hT, hI, hA⟩ := hv
  have hx := B.exec
  have hb := B.bytes
  have hr := B.returns
  have hts := atoms_spec (ws := wsX1_mayTakeOf) B.pre
  have hown : s.vm.findClass RX1 = some m.cls := findClass_of_methodNamed B.named
  have hlocks := B.notSynchronized
  have in_X1 : ∀ w ∈ wsX10, w ∈ wsX1_mayTakeOf := by decide +kernel
  have hS : va_S A s.heap s.heap [] := va_S.rf
  have hl := lv_entry ([.ref h0, .ref h1]) (n := 2) (Nat.le_of_ble_eq_true rfl)
  rw [lg_entry_eq]
  generalize (lg_sl ([.ref h0, .ref h1]) ++ List.replicate (2 - (lg_sl ([.ref h0, .ref h1])).length) Slot.unset).toArray = ls at hl ⊢
  have hl : lv_has ls 2 [(0, .ref h0), (1, .ref h1)] := hl
  refine lv_aload_n hx hb dX1_mayTakeOf_0 rfl (lv_at hl 0 rfl) ?_
  refine wr_get (ci := 0) (C := RX1) (T := TX1) (N := 4) (v := .int kd) hx hb hts in_X1 hown hT hI hc rfl 0 (by decide) (hts (.fieldLink RX1 9 "CopyRows$Row" "kind" "I") (by decide +kernel)) rfl dX1_mayTakeOf_1 ?_
  refine lv_bipush (v := 6) hx hb dX1_mayTakeOf_4 (by decide) ?_
  refine lv_icmp_eq (tgt := 18) hx hb dX1_mayTakeOf_6 (by decide) (fun c_1 => ?_) (fun c_1 => ?_)
  · refine lv_iconst (v := 0) hx hb dX1_mayTakeOf_18 (by decide) ?_
    exact re_z hx hb hr hlocks hT hA hS hI (by decide) (by refine ⟨rfl, Or.inr ⟨?_, rfl⟩⟩; grind) (Nat.le_of_ble_eq_true rfl) (Nat.le_of_ble_eq_true rfl) dX1_mayTakeOf_19
  · refine lv_aload_n hx hb dX1_mayTakeOf_9 rfl (lv_at hl 1 rfl) ?_
    refine wr_get (ci := 0) (C := RX1) (T := TX1) (N := 4) (v := .int kf) hx hb hts in_X1 hown hT hI hc1 rfl 0 (by decide) (hts (.fieldLink RX1 9 "CopyRows$Row" "kind" "I") (by decide +kernel)) rfl dX1_mayTakeOf_10 ?_
    refine lv_bipush (v := 6) hx hb dX1_mayTakeOf_13 (by decide) ?_
    refine lv_icmp_ne (tgt := 20) hx hb dX1_mayTakeOf_15 (by decide) (fun c_2 => ?_) (fun c_2 => ?_)
    · refine lv_aload_n hx hb dX1_mayTakeOf_20 rfl (lv_at hl 0 rfl) ?_
      refine wr_get (ci := 0) (C := RX1) (T := TX1) (N := 4) (v := .int kd) hx hb hts in_X1 hown hT hI hc rfl 0 (by decide) (hts (.fieldLink RX1 9 "CopyRows$Row" "kind" "I") (by decide +kernel)) rfl dX1_mayTakeOf_21 ?_
      refine lv_aload_n hx hb dX1_mayTakeOf_24 rfl (lv_at hl 1 rfl) ?_
      refine wr_get (ci := 0) (C := RX1) (T := TX1) (N := 4) (v := .int kf) hx hb hts in_X1 hown hT hI hc1 rfl 0 (by decide) (hts (.fieldLink RX1 9 "CopyRows$Row" "kind" "I") (by decide +kernel)) rfl dX1_mayTakeOf_25 ?_
      refine lv_icmp_eq (tgt := 45) hx hb dX1_mayTakeOf_28 (by decide) (fun c_3 => ?_) (fun c_3 => ?_)
      · refine lv_iconst (v := 1) hx hb dX1_mayTakeOf_45 (by decide) ?_
        refine lv_goto (tgt := 50) hx hb dX1_mayTakeOf_46 (by decide) ?_
        exact re_z hx hb hr hlocks hT hA hS hI (by decide) (by refine ⟨rfl, Or.inl ⟨?_, rfl⟩⟩; grind) (Nat.le_of_ble_eq_true rfl) (Nat.le_of_ble_eq_true rfl) dX1_mayTakeOf_50
      · refine lv_aload_n hx hb dX1_mayTakeOf_31 rfl (lv_at hl 0 rfl) ?_
        refine ca_V (As := []) (rest := []) (r0 := (RX1, TX1, 4)) (ci := 0) ⟨hx, hb, hml, hown, hts⟩ (cc_X1_isOfNumbers l E A _ hc) (cwV 0 hts gX1_mayTakeOf_X1_isOfNumbers rfl rfl rfl (by decide +kernel) ⟨(Nat.le_of_ble_eq_true rfl), (Nat.le_of_ble_eq_true rfl)⟩) hT hI hA hS rfl hc rfl rfl hl.1 (Nat.le_of_ble_eq_true rfl) dX1_mayTakeOf_32 ⟨(Nat.le_of_ble_eq_true rfl), (Nat.le_of_ble_eq_true rfl)⟩ (fun r w_5 H locs hp_4 hI hS => ?_)
        obtain ⟨rfl, ⟨hb_6, rfl⟩ | ⟨hb_6, rfl⟩⟩ := hp_4
        · refine W.eq (g2 := F0 m 35 ls [.int 1]) rfl ?_
          refine lv_if_ne (tgt := 49) hx hb dX1_mayTakeOf_35 (by decide) (fun _ => ?_) (fun c => absurd c (by decide))
          refine lv_iconst (v := 0) hx hb dX1_mayTakeOf_49 (by decide) ?_
          exact re_z hx hb hr hlocks hT hA hS hI (by decide) (by refine ⟨rfl, Or.inr ⟨?_, rfl⟩⟩; grind) (Nat.le_of_ble_eq_true rfl) (Nat.le_of_ble_eq_true rfl) dX1_mayTakeOf_50
        · refine W.eq (g2 := F0 m 35 ls [.int 0]) rfl ?_
          refine lv_if_ne (tgt := 49) hx hb dX1_mayTakeOf_35 (by decide) (fun c => absurd c (by decide)) (fun _ => ?_)
          refine lv_aload_n hx hb dX1_mayTakeOf_38 rfl (lv_at hl 1 rfl) ?_
          refine ca_V (As := []) (rest := []) (r0 := (RX1, TX1, 4)) (ci := 0) ⟨hx, hb, hml, hown, hts⟩ (cc_X1_isOfNumbers l E A _ hc1) (cwV 0 hts gX1_mayTakeOf_X1_isOfNumbers rfl rfl rfl (by decide +kernel) ⟨(Nat.le_of_ble_eq_true rfl), (Nat.le_of_ble_eq_true rfl)⟩) hT hI hA hS rfl hc1 rfl rfl hl.1 (Nat.le_of_ble_eq_true rfl) dX1_mayTakeOf_39 ⟨(Nat.le_of_ble_eq_true rfl), (Nat.le_of_ble_eq_true rfl)⟩ (fun r w_8 H locs hp_7 hI hS => ?_)
          obtain ⟨rfl, ⟨hb_9, rfl⟩ | ⟨hb_9, rfl⟩⟩ := hp_7
          · refine W.eq (g2 := F0 m 42 ls [.int 1]) rfl ?_
            refine lv_if_ne (tgt := 49) hx hb dX1_mayTakeOf_42 (by decide) (fun _ => ?_) (fun c => absurd c (by decide))
            refine lv_iconst (v := 0) hx hb dX1_mayTakeOf_49 (by decide) ?_
            exact re_z hx hb hr hlocks hT hA hS hI (by decide) (by refine ⟨rfl, Or.inr ⟨?_, rfl⟩⟩; grind) (Nat.le_of_ble_eq_true rfl) (Nat.le_of_ble_eq_true rfl) dX1_mayTakeOf_50
          · refine W.eq (g2 := F0 m 42 ls [.int 0]) rfl ?_
            refine lv_if_ne (tgt := 49) hx hb dX1_mayTakeOf_42 (by decide) (fun c => absurd c (by decide)) (fun _ => ?_)
            refine lv_iconst (v := 1) hx hb dX1_mayTakeOf_45 (by decide) ?_
            refine lv_goto (tgt := 50) hx hb dX1_mayTakeOf_46 (by decide) ?_
            exact re_z hx hb hr hlocks hT hA hS hI (by decide) (by refine ⟨rfl, Or.inl ⟨?_, rfl⟩⟩; grind) (Nat.le_of_ble_eq_true rfl) (Nat.le_of_ble_eq_true rfl) dX1_mayTakeOf_50
    · refine lv_iconst (v := 0) hx hb dX1_mayTakeOf_18 (by decide) ?_
      exact re_z hx hb hr hlocks hT hA hS hI (by decide) (by refine ⟨rfl, Or.inr ⟨?_, rfl⟩⟩; grind) (Nat.le_of_ble_eq_true rfl) (Nat.le_of_ble_eq_true rfl) dX1_mayTakeOf_19
end
section
theorem cc_X1_isOfNumbers_n (l : Launch) (E : En) (A : Nat → Prop) (w : Wd) {h0 na qa : Nat} {kd ln : Int32} (hk : isN kd) (hc : w h0 = some (eRow kd ln na qa)) : Ct l yX1_isOfNumbers wsX1_isOfNumbers ({ frames := 0, cells := 0, slots := 0, locals := 0 } : Room) E A w [.ref h0] (fun r w' => w = w' ∧ r = some (.int 1)) 0 0 :=
  Ct.mono (cc_X1_isOfNumbers l E A w hc) (fun r w' h => ⟨h.1, h.2.elim (fun q => q.2) (fun q => absurd hk q.1)⟩)
theorem cc_X1_isOfNumbers_p (l : Launch) (E : En) (A : Nat → Prop) (w : Wd) {h0 na qa : Nat} {kd ln : Int32} (hk : ¬ isN kd) (hc : w h0 = some (eRow kd ln na qa)) : Ct l yX1_isOfNumbers wsX1_isOfNumbers ({ frames := 0, cells := 0, slots := 0, locals := 0 } : Room) E A w [.ref h0] (fun r w' => w = w' ∧ r = some (.int 0)) 0 0 :=
  Ct.mono (cc_X1_isOfNumbers l E A w hc) (fun r w' h => ⟨h.1, h.2.elim (fun q => absurd q.1 hk) (fun q => q.2)⟩)

set_option maxHeartbeats 4000000 in
set_option maxRecDepth 100000 in
theorem cc_X1_countTaken_n (l : Launch) (E : En) (A : Nat → Prop) (w : Wd) {h0 na qa : Nat} {kd ln : Int32} (h1 : Nat) (i n : Int32) (hk : isN kd) (hc : w h0 = some (eRow kd ln na qa)) : Ct l yX1_countTaken wsX1_countTaken ({ frames := 2, cells := 0, slots := 0, locals := 42 } : Room) E A w [.ref h0, .ref h1, .int i, .int n] (fun r w' => w = w' ∧ r = some (.int n)) 0 0 := by
  refine Met.ofW (cc := cX1_countTaken) (maxL := 5) (ret := (some .int)) (by decide) rfl ?_
  intro pp0 ee0 s m args below meth cc0 s₁ B hml hv
  obtain ⟨rfl, hT, hI, hA⟩ := hv
  have hx := B.exec
  have hb := B.bytes
  have hr := B.returns
  have hts := atoms_spec (ws := wsX1_countTaken) B.pre
  have hown : s.vm.findClass RX1 = some m.cls := findClass_of_methodNamed B.named
  have hlocks := B.notSynchronized
  have hS : va_S A s.heap s.heap [] := va_S.rf
  have hl := lv_entry ([.ref h0, .ref h1, .int i, .int n]) (n := 5) (Nat.le_of_ble_eq_true rfl)
  rw [lg_entry_eq]
  generalize (lg_sl ([.ref h0, .ref h1, .int i, .int n]) ++ List.replicate (5 - (lg_sl ([.ref h0, .ref h1, .int i, .int n])).length) Slot.unset).toArray = ls at hl ⊢
  have hl : lv_has ls 5 [(0, .ref h0), (1, .ref h1), (2, .int i), (3, .int n)] := hl
  refine lv_aload_n hx hb dX1_countTaken_0 rfl (lv_at hl 0 rfl) ?_
  refine ca_V (As := []) (rest := []) (r0 := (RX1, TX1, 4)) (ci := 0) ⟨hx, hb, hml, hown, hts⟩ (cc_X1_isOfNumbers_n l E A _ hk hc) (cwV 0 hts gX1_countTaken_X1_isOfNumbers rfl rfl rfl (by decide +kernel) ⟨(Nat.le_of_ble_eq_true rfl), (Nat.le_of_ble_eq_true rfl)⟩) hT hI hA hS rfl hc rfl rfl hl.1 (Nat.le_of_ble_eq_true rfl) dX1_countTaken_1 ⟨(Nat.le_of_ble_eq_true rfl), (Nat.le_of_ble_eq_true rfl)⟩ (fun r w_2 H locs hp_1 hI hS => ?_)
  obtain ⟨rfl, rfl⟩ := hp_1
  refine W.eq (g2 := F0 m 4 ls [.int 1]) rfl ?_
  refine lv_if_eq (tgt := 9) hx hb dX1_countTaken_4 (by decide) (fun c => absurd c (by decide)) (fun _ => ?_)
  refine lv_iload_n hx hb dX1_countTaken_7 rfl (lv_at hl 3 rfl) ?_
  exact re_i hx hb hr hlocks hT hA hS hI (⟨rfl, rfl⟩) (Nat.le_of_ble_eq_true rfl) (Nat.le_of_ble_eq_true rfl) dX1_countTaken_8

set_option maxHeartbeats 4000000 in
set_option maxRecDepth 100000 in
theorem cc_X1_countTaken_p (l : Launch) (E : En) (A : Nat → Prop) (w : Wd) {h0 na qa : Nat} {kd ln : Int32} {h1 na1 qa1 z : Nat} {kf lf : Int32} {g : Nat → Option Nat} (i n : Nat) (hz : z < 2 ^ 30) (hin9 : i + n ≤ z) (hk : ¬ isN kd) (hc : w h0 = some (eRow kd ln na qa)) (hc1 : w h1 = some (eRow kf lf na1 qa1)) (hq1 : w qa1 = some (eP E z g)) (hok : ∀ k, k < n → okW w (g (i + k))) : Ct l yX1_countTaken wsX1_countTaken ({ frames := 2, cells := 0, slots := 0, locals := 42 } : Room) E A w [.ref h0, .ref h1, .int (nI i), .int (nI n)] (fun r w' => w = w' ∧ ∃ cn : Nat, r = some (.int (nI cn)) ∧ cn ≤ n ∧ (∀ k, k < cn → fitW w kd (g (i + k))) ∧ (cn < n → ¬ fitW w kd (g (i + cn)))) 0 0 := by
  refine Met.ofW (cc := cX1_countTaken) (maxL := 5) (ret := (some .int)) (by decide) rfl ?_
  intro pp0 ee0 s m args below meth cc0 s₁ B hml hv
  obtain ⟨rfl, hT, hI, hA⟩ := hv
  have hx := B.exec
  have hb := B.bytes
  have hr := B.returns
  have hts := atoms_spec (ws := wsX1_countTaken) B.pre
  have hown : s.vm.findClass RX1 = some m.cls := findClass_of_methodNamed B.named
  have hlocks := B.notSynchronized
  have in_X1 : ∀ w ∈ wsX10, w ∈ wsX1_countTaken := by decide +kernel
  have hS : va_S A s.heap s.heap [] := va_S.rf
  have hl := lv_entry ([.ref h0, .ref h1, .int (nI i), .int (nI n)]) (n := 5) (Nat.le_of_ble_eq_true rfl)
  rw [lg_entry_eq]
  generalize (lg_sl ([.ref h0, .ref h1, .int (nI i), .int (nI n)]) ++ List.replicate (5 - (lg_sl ([.ref h0, .ref h1, .int (nI i), .int (nI n)])).length) Slot.unset).toArray = ls at hl ⊢
  have hl : lv_has ls 5 [(0, .ref h0), (1, .ref h1), (2, .int (nI i)), (3, .int (nI n))] := hl
  refine lv_aload_n hx hb dX1_countTaken_0 rfl (lv_at hl 0 rfl) ?_
  refine ca_V (As := []) (rest := []) (r0 := (RX1, TX1, 4)) (ci := 0) ⟨hx, hb, hml, hown, hts⟩ (cc_X1_isOfNumbers_p l E A _ hk hc) (cwV 0 hts gX1_countTaken_X1_isOfNumbers rfl rfl rfl (by decide +kernel) ⟨(Nat.le_of_ble_eq_true rfl), (Nat.le_of_ble_eq_true rfl)⟩) hT hI hA hS rfl hc rfl rfl hl.1 (Nat.le_of_ble_eq_true rfl) dX1_countTaken_1 ⟨(Nat.le_of_ble_eq_true rfl), (Nat.le_of_ble_eq_true rfl)⟩ (fun r w_2 H locs hp_1 hI hS => ?_)
  obtain ⟨rfl, rfl⟩ := hp_1
  refine W.eq (g2 := F0 m 4 ls [.int 0]) rfl ?_
  refine lv_if_eq (tgt := 9) hx hb dX1_countTaken_4 (by decide) (fun _ => ?_) (fun c => absurd c (by decide))
  refine lv_iconst (v := 0) hx hb dX1_countTaken_9 (by decide) ?_
  refine lv_istore (lv' := [(4, .int 0), (0, .ref h0), (1, .ref h1), (2, .int (nI i)), (3, .int (nI n))]) hx hb dX1_countTaken_10 hl (by decide) rfl (fun ls hl => ?_)
  refine lp_w (ι := Nat) (fun t => n - t) (fun t H locs ls => (t ≤ n ∧ ∀ k, k < t → fitW w kd (g (i + k))) ∧ Hv E A w H ∧ va_S A s.heap H locs ∧ lv_has ls 5 [(0, .ref h0), (1, .ref h1), (2, .int (nI i)), (3, .int (nI n)), (4, .int (nI t))]) ?_ 0 _ _ _ ⟨⟨Nat.zero_le _, fun k hk => absurd hk (Nat.not_lt_zero _)⟩, hI, hS, lv_sub hl [1, 2, 3, 4, 0] (rfl)⟩
  intro t H locs ls hq ih
  obtain ⟨⟨ht, hft⟩, hI, hS, hl⟩ := hq
  refine lv_iload hx hb dX1_countTaken_12 (lv_at hl 4 rfl) ?_
  refine lv_iload_n hx hb dX1_countTaken_14 rfl (lv_at hl 3 rfl) ?_
  refine lv_icmp_ge (tgt := 43) hx hb dX1_countTaken_15 (by decide) (fun c_3 => ?_) (fun c_3 => ?_)
  · have c_3 : n ≤ t := (nI_leI (a := n) (b := t) (by omega) (by omega)).mp c_3
    refine lv_iload_n hx hb dX1_countTaken_43 rfl (lv_at hl 3 rfl) ?_
    exact re_i hx hb hr hlocks hT hA hS hI (by
            have e : t = n := by omega
            subst e
            exact ⟨rfl, t, rfl, Nat.le_refl _, hft, fun q => absurd q (Nat.lt_irrefl _)⟩) (Nat.le_of_ble_eq_true rfl) (Nat.le_of_ble_eq_true rfl) dX1_countTaken_44
  · have c_3 : ¬ n ≤ t := fun q => c_3 ((nI_leI (a := n) (b := t) (by omega) (by omega)).mpr q)
    refine lv_aload_n hx hb dX1_countTaken_18 rfl (lv_at hl 0 rfl) ?_
    refine lv_aload_n hx hb dX1_countTaken_19 rfl (lv_at hl 1 rfl) ?_
    refine wr_get (ci := 0) (C := RX1) (T := TX1) (N := 4) (v := .ref qa1) hx hb hts in_X1 hown hT hI hc1 rfl 3 (by decide) (hts (.fieldLink RX1 22 "CopyRows$Row" "parts" "[LCopyRows$Part;") (by decide +kernel)) rfl dX1_countTaken_20 ?_
    refine lv_iload_n hx hb dX1_countTaken_23 rfl (lv_at hl 2 rfl) ?_
    refine lv_iload hx hb dX1_countTaken_24 (lv_at hl 4 rfl) ?_
    refine lv_iadd hx hb dX1_countTaken_26 ?_
    refine W.eq (g2 := F0 m 27 ls [.int (nI (i + t)), .ref qa1, .ref h0]) (by rw [show (nI i : Int32) + nI t = nI (i + t) from nI_add _ _]) ?_
    refine wr_aaldN (t := i + t) (n := z) (f := g) hx hb hT hI hq1 1 rfl (by omega) (by omega) dX1_countTaken_27 ?_
    refine ca_V (As := [va_rf (g (i + t))]) (rest := []) (r0 := (RX1, TX1, 4)) (ci := 0) ⟨hx, hb, hml, hown, hts⟩ (cc_X1_takes l E A _ (g (i + t)) (hok t (by omega)) hc) (cwV 1 hts gX1_countTaken_X1_takes rfl rfl rfl (by decide +kernel) ⟨(Nat.le_of_ble_eq_true rfl), (Nat.le_of_ble_eq_true rfl)⟩) hT hI hA hS rfl hc rfl rfl hl.1 (Nat.le_of_ble_eq_true rfl) dX1_countTaken_28 ⟨(Nat.le_of_ble_eq_true rfl), (Nat.le_of_ble_eq_true rfl)⟩ (fun r w_5 H locs hp_4 hI hS => ?_)
    obtain ⟨rfl, ⟨hb_6, rfl⟩ | ⟨hb_6, rfl⟩⟩ := hp_4
    · refine W.eq (g2 := F0 m 31 ls [.int 1]) rfl ?_
      refine lv_if_ne (tgt := 37) hx hb dX1_countTaken_31 (by decide) (fun _ => ?_) (fun c => absurd c (by decide))
      refine lv_iinc (v := nI (t + 1)) (lv' := [(4, .int (nI (t + 1))), (0, .ref h0), (1, .ref h1), (2, .int (nI i)), (3, .int (nI n))]) hx hb dX1_countTaken_37 hl (k := 4) rfl (nI_1 _) (by decide) rfl (fun ls hl => ?_)
      refine lv_goto (tgt := 12) hx hb dX1_countTaken_40 (by decide) ?_
      exact ih (t + 1) _ _ _ ⟨⟨by omega, fun k hk9 => by rcases Nat.lt_or_ge k t with q | q; exact hft k q; rw [show k = t by omega]; exact hb_6⟩, hI, hS, lv_sub hl [1, 2, 3, 4, 0] (rfl)⟩ (by omega)
    · refine W.eq (g2 := F0 m 31 ls [.int 0]) rfl ?_
      refine lv_if_ne (tgt := 37) hx hb dX1_countTaken_31 (by decide) (fun c => absurd c (by decide)) (fun _ => ?_)
      refine lv_iload hx hb dX1_countTaken_34 (lv_at hl 4 rfl) ?_
      exact re_i hx hb hr hlocks hT hA hS hI (⟨rfl, t, rfl, ht, hft, fun _ => hb_6⟩) (Nat.le_of_ble_eq_true rfl) (Nat.le_of_ble_eq_true rfl) dX1_countTaken_36

set_option maxHeartbeats 4000000 in
set_option maxRecDepth 100000 in
theorem cc_X1_take_n (l : Launch) (E : En) (A : Nat → Prop) (w : Wd) {h0 na qa : Nat} {kd ln : Int32} {h1 na1 qa1 z z1 : Nat} {kf lf : Int32} {f g : Nat → Int32} (i j n : Nat) (hz : z < 2 ^ 30) (hz1 : z1 < 2 ^ 30) (h4 : i + n ≤ z1) (h5 : j + n ≤ z) (hk : isN kd) (hc : w h0 = some (eRow kd ln na qa)) (hc1 : w h1 = some (eRow kf lf na1 qa1)) (hn : w na = some (eI E z g)) (hn1 : w na1 = some (eI E z1 f)) : Ct l yX1_take wsX1_take ({ frames := 1, cells := 0, slots := 0, locals := 20 } : Room) E A w [.ref h0, .ref h1, .int (nI i), .int (nI j), .int (nI n)] (fun r w' => r = none ∧ va_up w na (some (eI E z (va_cpy f g i j n))) = w') 0 0 := by
  refine Met.ofW (cc := cX1_take) (maxL := 5) (ret := none) (by decide) rfl ?_
  intro pp0 ee0 s m args below meth cc0 s₁ B hml hv
  obtain ⟨rfl, hT, hI, hA⟩ := hv
  have hx := B.exec
  have hb := B.bytes
  have hr := B.returns
  have hts := atoms_spec (ws := wsX1_take) B.pre
  have hown : s.vm.findClass RX1 = some m.cls := findClass_of_methodNamed B.named
  have hlocks := B.notSynchronized
  have in_X1 : ∀ w ∈ wsX10, w ∈ wsX1_take := by decide +kernel
  have hS : va_S A s.heap s.heap [] := va_S.rf
  have hl := lv_entry ([.ref h0, .ref h1, .int (nI i), .int (nI j), .int (nI n)]) (n := 5) (Nat.le_of_ble_eq_true rfl)
  rw [lg_entry_eq]
  generalize (lg_sl ([.ref h0, .ref h1, .int (nI i), .int (nI j), .int (nI n)]) ++ List.replicate (5 - (lg_sl ([.ref h0, .ref h1, .int (nI i), .int (nI j), .int (nI n)])).length) Slot.unset).toArray = ls at hl ⊢
  have hl : lv_has ls 5 [(0, .ref h0), (1, .ref h1), (2, .int (nI i)), (3, .int (nI j)), (4, .int (nI n))] := hl
  refine lv_aload_n hx hb dX1_take_0 rfl (lv_at hl 0 rfl) ?_
  refine ca_V (As := []) (rest := []) (r0 := (RX1, TX1, 4)) (ci := 0) ⟨hx, hb, hml, hown, hts⟩ (cc_X1_isOfNumbers_n l E A _ hk hc) (cwV 0 hts gX1_take_X1_isOfNumbers rfl rfl rfl (by decide +kernel) ⟨(Nat.le_of_ble_eq_true rfl), (Nat.le_of_ble_eq_true rfl)⟩) hT hI hA hS rfl hc rfl rfl hl.1 (Nat.le_of_ble_eq_true rfl) dX1_take_1 ⟨(Nat.le_of_ble_eq_true rfl), (Nat.le_of_ble_eq_true rfl)⟩ (fun r w_2 H locs hp_1 hI hS => ?_)
  obtain ⟨rfl, rfl⟩ := hp_1
  refine W.eq (g2 := F0 m 4 ls [.int 1]) rfl ?_
  refine lv_if_eq (tgt := 25) hx hb dX1_take_4 (by decide) (fun c => absurd c (by decide)) (fun _ => ?_)
  refine lv_aload_n hx hb dX1_take_7 rfl (lv_at hl 1 rfl) ?_
  refine wr_get (ci := 0) (C := RX1) (T := TX1) (N := 4) (v := .ref na1) hx hb hts in_X1 hown hT hI hc1 rfl 2 (by decide) (hts (.fieldLink RX1 18 "CopyRows$Row" "numbers" "[I") (by decide +kernel)) rfl dX1_take_8 ?_
  refine lv_iload_n hx hb dX1_take_11 rfl (lv_at hl 2 rfl) ?_
  refine lv_aload_n hx hb dX1_take_12 rfl (lv_at hl 0 rfl) ?_
  refine wr_get (ci := 0) (C := RX1) (T := TX1) (N := 4) (v := .ref na) hx hb hts in_X1 hown hT hI hc rfl 2 (by decide) (hts (.fieldLink RX1 18 "CopyRows$Row" "numbers" "[I") (by decide +kernel)) rfl dX1_take_13 ?_
  refine lv_iload_n hx hb dX1_take_16 rfl (lv_at hl 3 rfl) ?_
  refine lv_iload hx hb dX1_take_17 (lv_at hl 4 rfl) ?_
  refine wr_copyiN hx hb (hml.trans hl.1.symm) hown (hts (.methodLink RX1 38 arraycopyName) (by decide +kernel)) (hts (.native arraycopyName) (by decide +kernel)) (hts (.static arraycopyName) (by decide +kernel)) (hts (.initialized "java/lang/System") (by decide +kernel)) hT hI hS hn1 hn (by omega) (by omega) h4 h5 (Nat.le_of_ble_eq_true rfl) (Nat.le_of_ble_eq_true rfl) dX1_take_19 (fun H locs hI hS => ?_)
  refine lv_goto (tgt := 40) hx hb dX1_take_22 (by decide) ?_
  exact re_v hx hb hr hlocks hT hA hS hI (⟨rfl, rfl⟩) (Nat.le_of_ble_eq_true rfl) (Nat.le_of_ble_eq_true rfl) dX1_take_40

set_option maxHeartbeats 4000000 in
set_option maxRecDepth 100000 in
theorem cc_X1_take_p (l : Launch) (E : En) (A : Nat → Prop) (w : Wd) {h0 na qa : Nat} {kd ln : Int32} {h1 na1 qa1 z z1 : Nat} {kf lf : Int32} {f g : Nat → Option Nat} (i j n : Nat) (hz : z < 2 ^ 30) (hz1 : z1 < 2 ^ 30) (h4 : i + n ≤ z1) (h5 : j + n ≤ z) (hk : ¬ isN kd) (hc : w h0 = some (eRow kd ln na qa)) (hc1 : w h1 = some (eRow kf lf na1 qa1)) (hn : w qa = some (eP E z g)) (hn1 : w qa1 = some (eP E z1 f)) (hel : ∀ k, k < n → okW w (f (i + k))) : Ct l yX1_take wsX1_take ({ frames := 1, cells := 0, slots := 0, locals := 20 } : Room) E A w [.ref h0, .ref h1, .int (nI i), .int (nI j), .int (nI n)] (fun r w' => r = none ∧ va_up w qa (some (eP E z (va_cpy f g i j n))) = w') 0 0 := by
  refine Met.ofW (cc := cX1_take) (maxL := 5) (ret := none) (by decide) rfl ?_
  intro pp0 ee0 s m args below meth cc0 s₁ B hml hv
  obtain ⟨rfl, hT, hI, hA⟩ := hv
  have hx := B.exec
  have hb := B.bytes
  have hr := B.returns
  have hts := atoms_spec (ws := wsX1_take) B.pre
  have hown : s.vm.findClass RX1 = some m.cls := findClass_of_methodNamed B.named
  have hlocks := B.notSynchronized
  have in_X1 : ∀ w ∈ wsX10, w ∈ wsX1_take := by decide +kernel
  have hS : va_S A s.heap s.heap [] := va_S.rf
  have hl := lv_entry ([.ref h0, .ref h1, .int (nI i), .int (nI j), .int (nI n)]) (n := 5) (Nat.le_of_ble_eq_true rfl)
  rw [lg_entry_eq]
  generalize (lg_sl ([.ref h0, .ref h1, .int (nI i), .int (nI j), .int (nI n)]) ++ List.replicate (5 - (lg_sl ([.ref h0, .ref h1, .int (nI i), .int (nI j), .int (nI n)])).length) Slot.unset).toArray = ls at hl ⊢
  have hl : lv_has ls 5 [(0, .ref h0), (1, .ref h1), (2, .int (nI i)), (3, .int (nI j)), (4, .int (nI n))] := hl
  refine lv_aload_n hx hb dX1_take_0 rfl (lv_at hl 0 rfl) ?_
  refine ca_V (As := []) (rest := []) (r0 := (RX1, TX1, 4)) (ci := 0) ⟨hx, hb, hml, hown, hts⟩ (cc_X1_isOfNumbers_p l E A _ hk hc) (cwV 0 hts gX1_take_X1_isOfNumbers rfl rfl rfl (by decide +kernel) ⟨(Nat.le_of_ble_eq_true rfl), (Nat.le_of_ble_eq_true rfl)⟩) hT hI hA hS rfl hc rfl rfl hl.1 (Nat.le_of_ble_eq_true rfl) dX1_take_1 ⟨(Nat.le_of_ble_eq_true rfl), (Nat.le_of_ble_eq_true rfl)⟩ (fun r w_2 H locs hp_1 hI hS => ?_)
  obtain ⟨rfl, rfl⟩ := hp_1
  refine W.eq (g2 := F0 m 4 ls [.int 0]) rfl ?_
  refine lv_if_eq (tgt := 25) hx hb dX1_take_4 (by decide) (fun _ => ?_) (fun c => absurd c (by decide))
  refine lv_aload_n hx hb dX1_take_25 rfl (lv_at hl 1 rfl) ?_
  refine wr_get (ci := 0) (C := RX1) (T := TX1) (N := 4) (v := .ref qa1) hx hb hts in_X1 hown hT hI hc1 rfl 3 (by decide) (hts (.fieldLink RX1 22 "CopyRows$Row" "parts" "[LCopyRows$Part;") (by decide +kernel)) rfl dX1_take_26 ?_
  refine lv_iload_n hx hb dX1_take_29 rfl (lv_at hl 2 rfl) ?_
  refine lv_aload_n hx hb dX1_take_30 rfl (lv_at hl 0 rfl) ?_
  refine wr_get (ci := 0) (C := RX1) (T := TX1) (N := 4) (v := .ref qa) hx hb hts in_X1 hown hT hI hc rfl 3 (by decide) (hts (.fieldLink RX1 22 "CopyRows$Row" "parts" "[LCopyRows$Part;") (by decide +kernel)) rfl dX1_take_31 ?_
  refine lv_iload_n hx hb dX1_take_34 rfl (lv_at hl 3 rfl) ?_
  refine lv_iload hx hb dX1_take_35 (lv_at hl 4 rfl) ?_
  refine wr_copyqN hx hb (hml.trans hl.1.symm) hown (hts (.methodLink RX1 38 arraycopyName) (by decide +kernel)) (hts (.native arraycopyName) (by decide +kernel)) (hts (.static arraycopyName) (by decide +kernel)) (hts (.initialized "java/lang/System") (by decide +kernel)) hT hI hS hn1 hn (by omega) (by omega) h4 h5 hel (Nat.le_of_ble_eq_true rfl) (Nat.le_of_ble_eq_true rfl) dX1_take_37 (fun H locs hI hS => ?_)
  exact re_v hx hb hr hlocks hT hA hS hI (⟨rfl, rfl⟩) (Nat.le_of_ble_eq_true rfl) (Nat.le_of_ble_eq_true rfl) dX1_take_40

set_option maxHeartbeats 4000000 in
set_option maxRecDepth 100000 in
theorem cc_X1_total (l : Launch) (E : En) (A : Nat → Prop) (w : Wd) {h0 na qa : Nat} {kd ln : Int32} {z : Nat} {f : Nat → Int32} (hz : z < 2 ^ 30) (hc : w h0 = some (eRow kd ln na qa)) (hn : w na = some (eI E z f)) : Ct l yX1_total wsX1_total ({ frames := 0, cells := 0, slots := 0, locals := 0 } : Room) E A w [.ref h0] (fun r w' => w = w' ∧ r = some (.int (sumF f z))) 0 0 := by
  refine Met.ofW (cc := cX1_total) (maxL := 3) (ret := (some .int)) (by decide) rfl ?_
  intro pp0 ee0 s m args below meth cc0 s₁ B hml hv
  obtain ⟨rfl, hT, hI, hA⟩ := hv
  have hx := B.exec
  have hb := B.bytes
  have hr := B.returns
  have hts := atoms_spec (ws := wsX1_total) B.pre
  have hown : s.vm.findClass RX1 = some m.cls := findClass_of_methodNamed B.named
  have hlocks := B.notSynchronized
  have in_X1 : ∀ w ∈ wsX10, w ∈ wsX1_total := by decide +kernel
  have hS : va_S A s.heap s.heap [] := va_S.rf
  have hl := lv_entry ([.ref h0]) (n := 3) (Nat.le_of_ble_eq_true rfl)
  rw [lg_entry_eq]
  generalize (lg_sl ([.ref h0]) ++ List.replicate (3 - (lg_sl ([.ref h0])).length) Slot.unset).toArray = ls at hl ⊢
  have hl : lv_has ls 3 [(0, .ref h0)] := hl
  refine lv_iconst (v := 0) hx hb dX1_total_0 (by decide) ?_
  refine lv_istore_n (lv' := [(1, .int 0), (0, .ref h0)]) hx hb dX1_total_1 rfl hl (by decide) rfl (fun ls hl => ?_)
  refine lv_iconst (v := 0) hx hb dX1_total_2 (by decide) ?_
  refine lv_istore_n (lv' := [(2, .int 0), (1, .int 0), (0, .ref h0)]) hx hb dX1_total_3 rfl hl (by decide) rfl (fun ls hl => ?_)
  refine lp_w (ι := Nat) (fun t => z - t) (fun t H locs ls => (t ≤ z) ∧ Hv E A w H ∧ va_S A s.heap H locs ∧ lv_has ls 3 [(0, .ref h0), (1, .int (sumF f t)), (2, .int (nI t))]) ?_ 0 _ _ _ ⟨Nat.zero_le _, hI, hS, lv_sub hl [2, 1, 0] (rfl)⟩
  intro t H locs ls hq ih
  obtain ⟨ht, hI, hS, hl⟩ := hq
  refine lv_iload_n hx hb dX1_total_4 rfl (lv_at hl 2 rfl) ?_
  refine lv_aload_n hx hb dX1_total_5 rfl (lv_at hl 0 rfl) ?_
  refine wr_get (ci := 0) (C := RX1) (T := TX1) (N := 4) (v := .ref na) hx hb hts in_X1 hown hT hI hc rfl 2 (by decide) (hts (.fieldLink RX1 18 "CopyRows$Row" "numbers" "[I") (by decide +kernel)) rfl dX1_total_6 ?_
  refine wr_alen hx hb hT hI hn 0 rfl dX1_total_9 ?_
  refine lv_icmp_ge (tgt := 28) hx hb dX1_total_10 (by decide) (fun c_1 => ?_) (fun c_1 => ?_)
  · have c_1 : z ≤ t := (nI_leI (a := z) (b := t) (by omega) (by omega)).mp c_1
    refine lv_iload_n hx hb dX1_total_28 rfl (lv_at hl 1 rfl) ?_
    exact re_i hx hb hr hlocks hT hA hS hI (by
            have e : t = z := by omega
            subst e
            exact ⟨rfl, rfl⟩) (Nat.le_of_ble_eq_true rfl) (Nat.le_of_ble_eq_true rfl) dX1_total_29
  · have c_1 : ¬ z ≤ t := fun q => c_1 ((nI_leI (a := z) (b := t) (by omega) (by omega)).mpr q)
    refine lv_iload_n hx hb dX1_total_13 rfl (lv_at hl 1 rfl) ?_
    refine lv_aload_n hx hb dX1_total_14 rfl (lv_at hl 0 rfl) ?_
    refine wr_get (ci := 0) (C := RX1) (T := TX1) (N := 4) (v := .ref na) hx hb hts in_X1 hown hT hI hc rfl 2 (by decide) (hts (.fieldLink RX1 18 "CopyRows$Row" "numbers" "[I") (by decide +kernel)) rfl dX1_total_15 ?_
    refine lv_iload_n hx hb dX1_total_18 rfl (lv_at hl 2 rfl) ?_
    refine wr_ialdN (t := t) (n := z) (f := f) hx hb hT hI hn (by omega) (by omega) dX1_total_19 ?_
    refine lv_iadd hx hb dX1_total_20 ?_
    refine lv_istore_n (lv' := [(1, .int ((sumF f t) + (f t))), (0, .ref h0), (2, .int (nI t))]) hx hb dX1_total_21 rfl hl (by decide) rfl (fun ls hl => ?_)
    refine lv_iinc (v := nI (t + 1)) (lv' := [(2, .int (nI (t + 1))), (1, .int ((sumF f t) + (f t))), (0, .ref h0)]) hx hb dX1_total_22 hl (k := 2) rfl (nI_1 _) (by decide) rfl (fun ls hl => ?_)
    refine lv_goto (tgt := 4) hx hb dX1_total_25 (by decide) ?_
    exact ih (t + 1) _ _ _ ⟨by omega, hI, hS, lv_sub hl [2, 1, 0] (rfl)⟩ (by omega)

set_option maxHeartbeats 4000000 in
set_option maxRecDepth 100000 in
theorem cc_X1_order (l : Launch) (E : En) (A : Nat → Prop) (w : Wd) {h0 h1 na qa na1 qa1 n n1 : Nat} {kd kf : Int32} {f f1 : Nat → Int32} (hz : n < 2 ^ 30) (hz1 : n1 < 2 ^ 30) (hc : w h0 = some (eRow kd (nI n) na qa)) (hc1 : w h1 = some (eRow kf (nI n1) na1 qa1)) (hn : w na = some (eI E n f)) (hn1 : w na1 = some (eI E n1 f1)) : Ct l yX1_order wsX1_order ({ frames := 0, cells := 0, slots := 0, locals := 0 } : Room) E A w [.ref h0, .ref h1] (fun r w' => w = w' ∧ r = some (.int (cmpF f f1 n n1 n 0))) 0 0 := by
  refine Met.ofW (cc := cX1_order) (maxL := 3) (ret := (some .int)) (by decide) rfl ?_
  intro pp0 ee0 s m args below meth cc0 s₁ B hml hv
  obtain ⟨rfl, hT, hI, hA⟩ := hv
  have hx := B.exec
  have hb := B.bytes
  have hr := B.returns
  have hts := atoms_spec (ws := wsX1_order) B.pre
  have hown : s.vm.findClass RX1 = some m.cls := findClass_of_methodNamed B.named
  have hlocks := B.notSynchronized
  have in_X1 : ∀ w ∈ wsX10, w ∈ wsX1_order := by decide +kernel
  have hS : va_S A s.heap s.heap [] := va_S.rf
  have hl := lv_entry ([.ref h0, .ref h1]) (n := 3) (Nat.le_of_ble_eq_true rfl)
  rw [lg_entry_eq]
  generalize (lg_sl ([.ref h0, .ref h1]) ++ List.replicate (3 - (lg_sl ([.ref h0, .ref h1])).length) Slot.unset).toArray = ls at hl ⊢
  have hl : lv_has ls 3 [(0, .ref h0), (1, .ref h1)] := hl
  refine lv_iconst (v := 0) hx hb dX1_order_0 (by decide) ?_
  refine lv_istore_n (lv' := [(2, .int 0), (0, .ref h0), (1, .ref h1)]) hx hb dX1_order_1 rfl hl (by decide) rfl (fun ls hl => ?_)
  refine lp_w (ι := Nat) (fun t => n - t) (fun t H locs ls => (t ≤ n ∧ cmpF f f1 n n1 n 0 = cmpF f f1 n n1 (n - t) t) ∧ Hv E A w H ∧ va_S A s.heap H locs ∧ lv_has ls 3 [(0, .ref h0), (1, .ref h1), (2, .int (nI t))]) ?_ 0 _ _ _ ⟨⟨Nat.zero_le _, rfl⟩, hI, hS, lv_sub hl [1, 2, 0] (rfl)⟩
  intro t H locs ls hq ih
  obtain ⟨⟨ht, hcm⟩, hI, hS, hl⟩ := hq
  refine lv_iload_n hx hb dX1_order_2 rfl (lv_at hl 2 rfl) ?_
  refine lv_aload_n hx hb dX1_order_3 rfl (lv_at hl 0 rfl) ?_
  refine wr_get (ci := 0) (C := RX1) (T := TX1) (N := 4) (v := .ref na) hx hb hts in_X1 hown hT hI hc rfl 2 (by decide) (hts (.fieldLink RX1 18 "CopyRows$Row" "numbers" "[I") (by decide +kernel)) rfl dX1_order_4 ?_
  refine wr_alen hx hb hT hI hn 0 rfl dX1_order_7 ?_
  refine lv_icmp_ge (tgt := 62) hx hb dX1_order_8 (by decide) (fun c_1 => ?_) (fun c_1 => ?_)
  · have c_1 : n ≤ t := (nI_leI (a := n) (b := t) (by omega) (by omega)).mp c_1
    refine lv_aload_n hx hb dX1_order_62 rfl (lv_at hl 0 rfl) ?_
    refine wr_get (ci := 0) (C := RX1) (T := TX1) (N := 4) (v := .int (nI n)) hx hb hts in_X1 hown hT hI hc rfl 1 (by decide) (hts (.fieldLink RX1 15 "CopyRows$Row" "length" "I") (by decide +kernel)) rfl dX1_order_63 ?_
    refine lv_aload_n hx hb dX1_order_66 rfl (lv_at hl 1 rfl) ?_
    refine wr_get (ci := 0) (C := RX1) (T := TX1) (N := 4) (v := .int (nI n1)) hx hb hts in_X1 hown hT hI hc1 rfl 1 (by decide) (hts (.fieldLink RX1 15 "CopyRows$Row" "length" "I") (by decide +kernel)) rfl dX1_order_67 ?_
    refine lv_icmp_ne (tgt := 75) hx hb dX1_order_70 (by decide) (fun c_2 => ?_) (fun c_2 => ?_)
    · have c_2 : ¬ n = n1 := fun q => c_2 ((nI_eq (a := n) (b := n1) (by omega) (by omega)).mpr q)
      refine lv_aload_n hx hb dX1_order_75 rfl (lv_at hl 0 rfl) ?_
      refine wr_get (ci := 0) (C := RX1) (T := TX1) (N := 4) (v := .int (nI n)) hx hb hts in_X1 hown hT hI hc rfl 1 (by decide) (hts (.fieldLink RX1 15 "CopyRows$Row" "length" "I") (by decide +kernel)) rfl dX1_order_76 ?_
      refine lv_aload_n hx hb dX1_order_79 rfl (lv_at hl 1 rfl) ?_
      refine wr_get (ci := 0) (C := RX1) (T := TX1) (N := 4) (v := .int (nI n1)) hx hb hts in_X1 hown hT hI hc1 rfl 1 (by decide) (hts (.fieldLink RX1 15 "CopyRows$Row" "length" "I") (by decide +kernel)) rfl dX1_order_80 ?_
      refine lv_icmp_ge (tgt := 90) hx hb dX1_order_83 (by decide) (fun c_3 => ?_) (fun c_3 => ?_)
      · have c_3 : n1 ≤ n := (nI_leI (a := n1) (b := n) (by omega) (by omega)).mp c_3
        refine lv_iconst (v := 1) hx hb dX1_order_90 (by decide) ?_
        exact re_i hx hb hr hlocks hT hA hS hI (by
                    refine ⟨rfl, ?_⟩
                    rw [hcm]
                    cases hd : n - t with
                    | zero => simp only [cmpF]; first | (exfalso; omega) | rw [if_pos (by omega)] | rw [if_neg (by omega), if_pos (by omega)] | rw [if_neg (by omega), if_neg (by omega)]
                    | succ d => simp only [cmpF]; rw [if_neg (by omega)]; first | (exfalso; omega) | rw [if_pos (by omega)] | rw [if_neg (by omega), if_pos (by omega)] | rw [if_neg (by omega), if_neg (by omega)]) (Nat.le_of_ble_eq_true rfl) (Nat.le_of_ble_eq_true rfl) dX1_order_91
      · have c_3 : ¬ n1 ≤ n := fun q => c_3 ((nI_leI (a := n1) (b := n) (by omega) (by omega)).mpr q)
        refine lv_iconst (v := -1) hx hb dX1_order_86 (by decide) ?_
        refine lv_goto (tgt := 91) hx hb dX1_order_87 (by decide) ?_
        exact re_i hx hb hr hlocks hT hA hS hI (by
                    refine ⟨rfl, ?_⟩
                    rw [hcm]
                    cases hd : n - t with
                    | zero => simp only [cmpF]; first | (exfalso; omega) | rw [if_pos (by omega)] | rw [if_neg (by omega), if_pos (by omega)] | rw [if_neg (by omega), if_neg (by omega)]
                    | succ d => simp only [cmpF]; rw [if_neg (by omega)]; first | (exfalso; omega) | rw [if_pos (by omega)] | rw [if_neg (by omega), if_pos (by omega)] | rw [if_neg (by omega), if_neg (by omega)]) (Nat.le_of_ble_eq_true rfl) (Nat.le_of_ble_eq_true rfl) dX1_order_91
    · have c_2 : n = n1 := (nI_eq (a := n) (b := n1) (by omega) (by omega)).mp c_2
      refine lv_iconst (v := 0) hx hb dX1_order_73 (by decide) ?_
      exact re_i hx hb hr hlocks hT hA hS hI (by
                refine ⟨rfl, ?_⟩
                rw [hcm]
                cases hd : n - t with
                | zero => simp only [cmpF]; first | (exfalso; omega) | rw [if_pos (by omega)] | rw [if_neg (by omega), if_pos (by omega)] | rw [if_neg (by omega), if_neg (by omega)]
                | succ d => simp only [cmpF]; rw [if_neg (by omega)]; first | (exfalso; omega) | rw [if_pos (by omega)] | rw [if_neg (by omega), if_pos (by omega)] | rw [if_neg (by omega), if_neg (by omega)]) (Nat.le_of_ble_eq_true rfl) (Nat.le_of_ble_eq_true rfl) dX1_order_74
  · have c_1 : ¬ n ≤ t := fun q => c_1 ((nI_leI (a := n) (b := t) (by omega) (by omega)).mpr q)
    refine lv_iload_n hx hb dX1_order_11 rfl (lv_at hl 2 rfl) ?_
    refine lv_aload_n hx hb dX1_order_12 rfl (lv_at hl 1 rfl) ?_
    refine wr_get (ci := 0) (C := RX1) (T := TX1) (N := 4) (v := .ref na1) hx hb hts in_X1 hown hT hI hc1 rfl 2 (by decide) (hts (.fieldLink RX1 18 "CopyRows$Row" "numbers" "[I") (by decide +kernel)) rfl dX1_order_13 ?_
    refine wr_alen hx hb hT hI hn1 0 rfl dX1_order_16 ?_
    refine lv_icmp_ge (tgt := 62) hx hb dX1_order_17 (by decide) (fun c_4 => ?_) (fun c_4 => ?_)
    · have c_4 : n1 ≤ t := (nI_leI (a := n1) (b := t) (by omega) (by omega)).mp c_4
      refine lv_aload_n hx hb dX1_order_62 rfl (lv_at hl 0 rfl) ?_
      refine wr_get (ci := 0) (C := RX1) (T := TX1) (N := 4) (v := .int (nI n)) hx hb hts in_X1 hown hT hI hc rfl 1 (by decide) (hts (.fieldLink RX1 15 "CopyRows$Row" "length" "I") (by decide +kernel)) rfl dX1_order_63 ?_
      refine lv_aload_n hx hb dX1_order_66 rfl (lv_at hl 1 rfl) ?_
      refine wr_get (ci := 0) (C := RX1) (T := TX1) (N := 4) (v := .int (nI n1)) hx hb hts in_X1 hown hT hI hc1 rfl 1 (by decide) (hts (.fieldLink RX1 15 "CopyRows$Row" "length" "I") (by decide +kernel)) rfl dX1_order_67 ?_
      refine lv_icmp_ne (tgt := 75) hx hb dX1_order_70 (by decide) (fun c_5 => ?_) (fun c_5 => ?_)
      · have c_5 : ¬ n = n1 := fun q => c_5 ((nI_eq (a := n) (b := n1) (by omega) (by omega)).mpr q)
        refine lv_aload_n hx hb dX1_order_75 rfl (lv_at hl 0 rfl) ?_
        refine wr_get (ci := 0) (C := RX1) (T := TX1) (N := 4) (v := .int (nI n)) hx hb hts in_X1 hown hT hI hc rfl 1 (by decide) (hts (.fieldLink RX1 15 "CopyRows$Row" "length" "I") (by decide +kernel)) rfl dX1_order_76 ?_
        refine lv_aload_n hx hb dX1_order_79 rfl (lv_at hl 1 rfl) ?_
        refine wr_get (ci := 0) (C := RX1) (T := TX1) (N := 4) (v := .int (nI n1)) hx hb hts in_X1 hown hT hI hc1 rfl 1 (by decide) (hts (.fieldLink RX1 15 "CopyRows$Row" "length" "I") (by decide +kernel)) rfl dX1_order_80 ?_
        refine lv_icmp_ge (tgt := 90) hx hb dX1_order_83 (by decide) (fun c_6 => ?_) (fun c_6 => ?_)
        · have c_6 : n1 ≤ n := (nI_leI (a := n1) (b := n) (by omega) (by omega)).mp c_6
          refine lv_iconst (v := 1) hx hb dX1_order_90 (by decide) ?_
          exact re_i hx hb hr hlocks hT hA hS hI (by
                        refine ⟨rfl, ?_⟩
                        rw [hcm]
                        cases hd : n - t with
                        | zero => simp only [cmpF]; first | (exfalso; omega) | rw [if_pos (by omega)] | rw [if_neg (by omega), if_pos (by omega)] | rw [if_neg (by omega), if_neg (by omega)]
                        | succ d => simp only [cmpF]; rw [if_neg (by omega)]; first | (exfalso; omega) | rw [if_pos (by omega)] | rw [if_neg (by omega), if_pos (by omega)] | rw [if_neg (by omega), if_neg (by omega)]) (Nat.le_of_ble_eq_true rfl) (Nat.le_of_ble_eq_true rfl) dX1_order_91
        · have c_6 : ¬ n1 ≤ n := fun q => c_6 ((nI_leI (a := n1) (b := n) (by omega) (by omega)).mpr q)
          refine lv_iconst (v := -1) hx hb dX1_order_86 (by decide) ?_
          refine lv_goto (tgt := 91) hx hb dX1_order_87 (by decide) ?_
          exact re_i hx hb hr hlocks hT hA hS hI (by
                        refine ⟨rfl, ?_⟩
                        rw [hcm]
                        cases hd : n - t with
                        | zero => simp only [cmpF]; first | (exfalso; omega) | rw [if_pos (by omega)] | rw [if_neg (by omega), if_pos (by omega)] | rw [if_neg (by omega), if_neg (by omega)]
                        | succ d => simp only [cmpF]; rw [if_neg (by omega)]; first | (exfalso; omega) | rw [if_pos (by omega)] | rw [if_neg (by omega), if_pos (by omega)] | rw [if_neg (by omega), if_neg (by omega)]) (Nat.le_of_ble_eq_true rfl) (Nat.le_of_ble_eq_true rfl) dX1_order_91
      · have c_5 : n = n1 := (nI_eq (a := n) (b := n1) (by omega) (by omega)).mp c_5
        refine lv_iconst (v := 0) hx hb dX1_order_73 (by decide) ?_
        exact re_i hx hb hr hlocks hT hA hS hI (by
                    refine ⟨rfl, ?_⟩
                    rw [hcm]
                    cases hd : n - t with
                    | zero => simp only [cmpF]; first | (exfalso; omega) | rw [if_pos (by omega)] | rw [if_neg (by omega), if_pos (by omega)] | rw [if_neg (by omega), if_neg (by omega)]
                    | succ d => simp only [cmpF]; rw [if_neg (by omega)]; first | (exfalso; omega) | rw [if_pos (by omega)] | rw [if_neg (by omega), if_pos (by omega)] | rw [if_neg (by omega), if_neg (by omega)]) (Nat.le_of_ble_eq_true rfl) (Nat.le_of_ble_eq_true rfl) dX1_order_74
    · have c_4 : ¬ n1 ≤ t := fun q => c_4 ((nI_leI (a := n1) (b := t) (by omega) (by omega)).mpr q)
      refine lv_aload_n hx hb dX1_order_20 rfl (lv_at hl 0 rfl) ?_
      refine wr_get (ci := 0) (C := RX1) (T := TX1) (N := 4) (v := .ref na) hx hb hts in_X1 hown hT hI hc rfl 2 (by decide) (hts (.fieldLink RX1 18 "CopyRows$Row" "numbers" "[I") (by decide +kernel)) rfl dX1_order_21 ?_
      refine lv_iload_n hx hb dX1_order_24 rfl (lv_at hl 2 rfl) ?_
      refine wr_ialdN (t := t) (n := n) (f := f) hx hb hT hI hn (by omega) (by omega) dX1_order_25 ?_
      refine lv_aload_n hx hb dX1_order_26 rfl (lv_at hl 1 rfl) ?_
      refine wr_get (ci := 0) (C := RX1) (T := TX1) (N := 4) (v := .ref na1) hx hb hts in_X1 hown hT hI hc1 rfl 2 (by decide) (hts (.fieldLink RX1 18 "CopyRows$Row" "numbers" "[I") (by decide +kernel)) rfl dX1_order_27 ?_
      refine lv_iload_n hx hb dX1_order_30 rfl (lv_at hl 2 rfl) ?_
      refine wr_ialdN (t := t) (n := n1) (f := f1) hx hb hT hI hn1 (by omega) (by omega) dX1_order_31 ?_
      refine lv_icmp_eq (tgt := 56) hx hb dX1_order_32 (by decide) (fun c_7 => ?_) (fun c_7 => ?_)
      · refine lv_iinc (v := nI (t + 1)) (lv' := [(2, .int (nI (t + 1))), (0, .ref h0), (1, .ref h1)]) hx hb dX1_order_56 hl (k := 2) rfl (nI_1 _) (by decide) rfl (fun ls hl => ?_)
        refine lv_goto (tgt := 2) hx hb dX1_order_59 (by decide) ?_
        exact ih (t + 1) _ _ _ ⟨⟨by omega, by rw [hcm]; obtain ⟨d, hd⟩ : ∃ d, n - t = d + 1 := ⟨n - t - 1, by omega⟩; rw [hd, show n - (t + 1) = d by omega]; simp only [cmpF]; rw [if_pos (by omega), if_pos c_7]⟩, hI, hS, lv_sub hl [1, 2, 0] (rfl)⟩ (by omega)
      · refine lv_aload_n hx hb dX1_order_35 rfl (lv_at hl 0 rfl) ?_
        refine wr_get (ci := 0) (C := RX1) (T := TX1) (N := 4) (v := .ref na) hx hb hts in_X1 hown hT hI hc rfl 2 (by decide) (hts (.fieldLink RX1 18 "CopyRows$Row" "numbers" "[I") (by decide +kernel)) rfl dX1_order_36 ?_
        refine lv_iload_n hx hb dX1_order_39 rfl (lv_at hl 2 rfl) ?_
        refine wr_ialdN (t := t) (n := n) (f := f) hx hb hT hI hn (by omega) (by omega) dX1_order_40 ?_
        refine lv_aload_n hx hb dX1_order_41 rfl (lv_at hl 1 rfl) ?_
        refine wr_get (ci := 0) (C := RX1) (T := TX1) (N := 4) (v := .ref na1) hx hb hts in_X1 hown hT hI hc1 rfl 2 (by decide) (hts (.fieldLink RX1 18 "CopyRows$Row" "numbers" "[I") (by decide +kernel)) rfl dX1_order_42 ?_
        refine lv_iload_n hx hb dX1_order_45 rfl (lv_at hl 2 rfl) ?_
        refine wr_ialdN (t := t) (n := n1) (f := f1) hx hb hT hI hn1 (by omega) (by omega) dX1_order_46 ?_
        refine lv_icmp_ge (tgt := 54) hx hb dX1_order_47 (by decide) (fun c_8 => ?_) (fun c_8 => ?_)
        · refine lv_iconst (v := 1) hx hb dX1_order_54 (by decide) ?_
          exact re_i hx hb hr hlocks hT hA hS hI (by
                        refine ⟨rfl, ?_⟩
                        rw [hcm]
                        obtain ⟨d, hd⟩ : ∃ d, n - t = d + 1 := ⟨n - t - 1, by omega⟩
                        rw [hd]; simp only [cmpF]; rw [if_pos (by omega), if_neg c_7, if_neg (Int32.not_lt.mpr c_8)]) (Nat.le_of_ble_eq_true rfl) (Nat.le_of_ble_eq_true rfl) dX1_order_55
        · refine lv_iconst (v := -1) hx hb dX1_order_50 (by decide) ?_
          refine lv_goto (tgt := 55) hx hb dX1_order_51 (by decide) ?_
          exact re_i hx hb hr hlocks hT hA hS hI (by
                        refine ⟨rfl, ?_⟩
                        rw [hcm]
                        obtain ⟨d, hd⟩ : ∃ d, n - t = d + 1 := ⟨n - t - 1, by omega⟩
                        rw [hd]; simp only [cmpF]; rw [if_pos (by omega), if_neg c_7, if_pos (Int32.not_le.mp c_8)]) (Nat.le_of_ble_eq_true rfl) (Nat.le_of_ble_eq_true rfl) dX1_order_55

set_option maxHeartbeats 4000000 in
set_option maxRecDepth 100000 in
theorem cc_X1_countOf (l : Launch) (E : En) (A : Nat → Prop) (w : Wd) {h0 na qa : Nat} {kd ln : Int32} {z : Nat} {g : Nat → Option Nat} (b : Nat) (hz : z < 2 ^ 30) (hc : w h0 = some (eRow kd ln na qa)) (hn : w qa = some (eP E z g)) : Ct l yX1_countOf wsX1_countOf ({ frames := 0, cells := 0, slots := 0, locals := 0 } : Room) E A w [.ref h0, .ref b] (fun r w' => w = w' ∧ r = some (.int (nI (cntF g b z)))) 0 0 := by
  refine Met.ofW (cc := cX1_countOf) (maxL := 4) (ret := (some .int)) (by decide) rfl ?_
  intro pp0 ee0 s m args below meth cc0 s₁ B hml hv
  obtain ⟨rfl, hT, hI, hA⟩ := hv
  have hx := B.exec
  have hb := B.bytes
  have hr := B.returns
  have hts := atoms_spec (ws := wsX1_countOf) B.pre
  have hown : s.vm.findClass RX1 = some m.cls := findClass_of_methodNamed B.named
  have hlocks := B.notSynchronized
  have in_X1 : ∀ w ∈ wsX10, w ∈ wsX1_countOf := by decide +kernel
  have hS : va_S A s.heap s.heap [] := va_S.rf
  have hl := lv_entry ([.ref h0, .ref b]) (n := 4) (Nat.le_of_ble_eq_true rfl)
  rw [lg_entry_eq]
  generalize (lg_sl ([.ref h0, .ref b]) ++ List.replicate (4 - (lg_sl ([.ref h0, .ref b])).length) Slot.unset).toArray = ls at hl ⊢
  have hl : lv_has ls 4 [(0, .ref h0), (1, .ref b)] := hl
  refine lv_iconst (v := 0) hx hb dX1_countOf_0 (by decide) ?_
  refine lv_istore_n (lv' := [(2, .int 0), (0, .ref h0), (1, .ref b)]) hx hb dX1_countOf_1 rfl hl (by decide) rfl (fun ls hl => ?_)
  refine lv_iconst (v := 0) hx hb dX1_countOf_2 (by decide) ?_
  refine lv_istore_n (lv' := [(3, .int 0), (2, .int 0), (0, .ref h0), (1, .ref b)]) hx hb dX1_countOf_3 rfl hl (by decide) rfl (fun ls hl => ?_)
  refine lp_w (ι := Nat) (fun t => z - t) (fun t H locs ls => (t ≤ z) ∧ Hv E A w H ∧ va_S A s.heap H locs ∧ lv_has ls 4 [(0, .ref h0), (1, .ref b), (2, .int (nI (cntF g b t))), (3, .int (nI t))]) ?_ 0 _ _ _ ⟨Nat.zero_le _, hI, hS, lv_sub hl [2, 3, 1, 0] (rfl)⟩
  intro t H locs ls hq ih
  obtain ⟨ht, hI, hS, hl⟩ := hq
  refine lv_iload_n hx hb dX1_countOf_4 rfl (lv_at hl 3 rfl) ?_
  refine lv_aload_n hx hb dX1_countOf_5 rfl (lv_at hl 0 rfl) ?_
  refine wr_get (ci := 0) (C := RX1) (T := TX1) (N := 4) (v := .ref qa) hx hb hts in_X1 hown hT hI hc rfl 3 (by decide) (hts (.fieldLink RX1 22 "CopyRows$Row" "parts" "[LCopyRows$Part;") (by decide +kernel)) rfl dX1_countOf_6 ?_
  refine wr_alen hx hb hT hI hn 1 rfl dX1_countOf_9 ?_
  refine lv_icmp_ge (tgt := 32) hx hb dX1_countOf_10 (by decide) (fun c_1 => ?_) (fun c_1 => ?_)
  · have c_1 : z ≤ t := (nI_leI (a := z) (b := t) (by omega) (by omega)).mp c_1
    refine lv_iload_n hx hb dX1_countOf_32 rfl (lv_at hl 2 rfl) ?_
    exact re_i hx hb hr hlocks hT hA hS hI (by
            have e : t = z := by omega
            subst e
            exact ⟨rfl, rfl⟩) (Nat.le_of_ble_eq_true rfl) (Nat.le_of_ble_eq_true rfl) dX1_countOf_33
  · have c_1 : ¬ z ≤ t := fun q => c_1 ((nI_leI (a := z) (b := t) (by omega) (by omega)).mpr q)
    refine lv_aload_n hx hb dX1_countOf_13 rfl (lv_at hl 0 rfl) ?_
    refine wr_get (ci := 0) (C := RX1) (T := TX1) (N := 4) (v := .ref qa) hx hb hts in_X1 hown hT hI hc rfl 3 (by decide) (hts (.fieldLink RX1 22 "CopyRows$Row" "parts" "[LCopyRows$Part;") (by decide +kernel)) rfl dX1_countOf_14 ?_
    refine lv_iload_n hx hb dX1_countOf_17 rfl (lv_at hl 3 rfl) ?_
    refine wr_aaldN (t := t) (n := z) (f := g) hx hb hT hI hn 1 rfl (by omega) (by omega) dX1_countOf_18 ?_
    refine lv_aload_n hx hb dX1_countOf_19 rfl (lv_at hl 1 rfl) ?_
    refine W.eq (g2 := F0 m 20 ls (va_rf (some b) :: va_rf (g t) :: [])) rfl ?_
    refine lv_acmp_ne (tgt := 26) hx hb dX1_countOf_20 (by decide) (fun c_2 => ?_) (fun c_2 => ?_)
    · refine lv_iinc (v := nI (t + 1)) (lv' := [(3, .int (nI (t + 1))), (0, .ref h0), (1, .ref b), (2, .int (nI (cntF g b t)))]) hx hb dX1_countOf_26 hl (k := 3) rfl (nI_1 _) (by decide) rfl (fun ls hl => ?_)
      refine lv_goto (tgt := 4) hx hb dX1_countOf_29 (by decide) ?_
      exact ih (t + 1) _ _ _ ⟨by omega, hI, hS, lv_sub hl [1, 2, 3, 0] (by simp [lv_pick, cntF, c_2])⟩ (by omega)
    · refine lv_iinc (v := nI (cntF g b t + 1)) (lv' := [(2, .int (nI (cntF g b t + 1))), (0, .ref h0), (1, .ref b), (3, .int (nI t))]) hx hb dX1_countOf_23 hl (k := 2) rfl (nI_1 _) (by decide) rfl (fun ls hl => ?_)
      refine lv_iinc (v := nI (t + 1)) (lv' := [(3, .int (nI (t + 1))), (2, .int (nI (cntF g b t + 1))), (0, .ref h0), (1, .ref b)]) hx hb dX1_countOf_26 hl (k := 3) rfl (nI_1 _) (by decide) rfl (fun ls hl => ?_)
      refine lv_goto (tgt := 4) hx hb dX1_countOf_29 (by decide) ?_
      exact ih (t + 1) _ _ _ ⟨by omega, hI, hS, lv_sub hl [2, 3, 1, 0] (by simp [lv_pick, cntF, c_2])⟩ (by omega)
end
section
/-- a row that was made: its three cells are new, nothing else has changed -/
def NewRow (E : En) (w w' : Wd) (q na qa : Nat) (kd : Int32) (n zn : Nat) (f : Nat → Int32) (zp : Nat) (g : Nat → Option Nat) : Prop :=
  w q = none ∧ w na = none ∧ w qa = none ∧ q ≠ na ∧ q ≠ qa ∧ na ≠ qa ∧ w' q = some (eRow kd (nI n) na qa) ∧ w' na = some (eI E zn f) ∧ w' qa = some (eP E zp g) ∧ ∀ a, a ≠ q → a ≠ na → a ≠ qa → w' a = w a
theorem NewRow.keeps {E : En} {w w' : Wd} {q na qa : Nat} {kd : Int32} {n zn zp : Nat} {f : Nat → Int32} {g : Nat → Option Nat} (h : NewRow E w w' q na qa kd n zn f zp g) {a : Nat} {x : va_E} (ha : w a = some x) : w' a = some x := by
  obtain ⟨h1, h2, h3, -, -, -, -, -, -, h9⟩ := h
  rw [h9 a (nw_ne ha h1) (nw_ne ha h2) (nw_ne ha h3)]
  exact ha
theorem okW.mono {w w' : Wd} {o : Option Nat} (h : okW w o) (hw : ∀ a x, w a = some x → w' a = some x) : okW w' o := by
  intro b e
  rcases h b e with ⟨c, n, h⟩ | ⟨k, l, x, y, h⟩
  · exact Or.inl ⟨c, n, hw _ _ h⟩
  · exact Or.inr ⟨k, l, x, y, hw _ _ h⟩
/-- behind 'new' and the constructor -/
theorem NewRow.of {E : En} {w w' : Wd} {q : Nat} {fs : va_E} {kd : Int32} {n zn zp : Nat} {f : Nat → Int32} {g : Nat → Option Nat} (hq : w q = none)
    (h : ∃ na qa, va_up w q (some fs) na = none ∧ va_up w q (some fs) qa = none ∧ na ≠ qa ∧ na ≠ q ∧ qa ≠ q ∧ w' q = some (eRow kd (nI n) na qa) ∧ w' na = some (eI E zn f) ∧ w' qa = some (eP E zp g) ∧ ∀ a, a ≠ q → a ≠ na → a ≠ qa → w' a = va_up w q (some fs) a) : ∃ na qa, NewRow E w w' q na qa kd n zn f zp g := by
  obtain ⟨na, qa, h1, h2, h3, h4, h5, h6, h7, h8, h9⟩ := h
  refine ⟨na, qa, hq, ?_, ?_, h4.symm, h5.symm, h3, h6, h7, h8, fun a e1 e2 e3 => ?_⟩
  · rwa [va_up_ne _ _ h4] at h1
  · rwa [va_up_ne _ _ h5] at h2
  · rw [h9 a e1 e2 e3, va_up_ne _ _ e1]
theorem NewRow.fillN {E : En} {w w' : Wd} {q na qa : Nat} {kd : Int32} {n zn zp : Nat} {f f2 : Nat → Int32} {g : Nat → Option Nat} (h : NewRow E w w' q na qa kd n zn f zp g) : NewRow E w (va_up w' na (some (eI E zn f2))) q na qa kd n zn f2 zp g := by
  obtain ⟨h1, h2, h3, h4, h5, h6, h7, h8, h9, h10⟩ := h
  refine ⟨h1, h2, h3, h4, h5, h6, ?_, va_up_self _ _ _, ?_, fun a e1 e2 e3 => ?_⟩
  · rw [va_up_ne _ _ h4]; exact h7
  · rw [va_up_ne _ _ h6.symm]; exact h9
  · rw [va_up_ne _ _ e2]; exact h10 a e1 e2 e3
theorem NewRow.fillP {E : En} {w w' : Wd} {q na qa : Nat} {kd : Int32} {n zn zp : Nat} {f : Nat → Int32} {g g2 : Nat → Option Nat} (h : NewRow E w w' q na qa kd n zn f zp g) : NewRow E w (va_up w' qa (some (eP E zp g2))) q na qa kd n zn f zp g2 := by
  obtain ⟨h1, h2, h3, h4, h5, h6, h7, h8, h9, h10⟩ := h
  refine ⟨h1, h2, h3, h4, h5, h6, ?_, ?_, va_up_self _ _ _, fun a e1 e2 e3 => ?_⟩
  · rw [va_up_ne _ _ h5]; exact h7
  · rw [va_up_ne _ _ h6]; exact h8
  · rw [va_up_ne _ _ e3]; exact h10 a e1 e2 e3
set_option maxHeartbeats 4000000 in
set_option maxRecDepth 100000 in
theorem cc_X1_cut_n (l : Launch) (E : En) (A : Nat → Prop) (w : Wd) {h0 na qa : Nat} {kd ln : Int32} {z : Nat} {f : Nat → Int32} (i n : Nat) (hz : z < 2 ^ 30) (hn : n ≤ 40) (hin9 : i + n ≤ z) (hk : isN kd) (hc : w h0 = some (eRow kd ln na qa)) (hn1 : w na = some (eI E z f)) : Ct l yX1_cut wsX1_cut ({ frames := 3, cells := 3, slots := 44, locals := 63 } : Room) E A w [.ref h0, .int (nI i), .int (nI n)] (fun r w' => ∃ q na2 qa2, r = some (.ref q) ∧ NewRow E w w' q na2 qa2 kd n n (va_cpy f (fun _ => 0) i 0 n) 0 (fun _ => none)) 3 44 := by
  refine Met.ofW (cc := cX1_cut) (maxL := 4) (ret := (some (.object "CopyRows$Row"))) (by decide) rfl ?_
  intro pp0 ee0 s m args below meth cc0 s₁ B hml hv
  obtain ⟨rfl, hT, hI, hA⟩ := hv
  have hx := B.exec
  have hb := B.bytes
  have hr := B.returns
  have hts := atoms_spec (ws := wsX1_cut) B.pre
  have hown : s.vm.findClass RX1 = some m.cls := findClass_of_methodNamed B.named
  have hlocks := B.notSynchronized
  have in_X1 : ∀ w ∈ wsX10, w ∈ wsX1_cut := by decide +kernel
  have hS : va_S A s.heap s.heap [] := va_S.rf
  have hl := lv_entry ([.ref h0, .int (nI i), .int (nI n)]) (n := 4) (Nat.le_of_ble_eq_true rfl)
  rw [lg_entry_eq]
  generalize (lg_sl ([.ref h0, .int (nI i), .int (nI n)]) ++ List.replicate (4 - (lg_sl ([.ref h0, .int (nI i), .int (nI n)])).length) Slot.unset).toArray = ls at hl ⊢
  have hl : lv_has ls 4 [(0, .ref h0), (1, .int (nI i)), (2, .int (nI n))] := hl
  refine wr_new (ci := 0) (fs := [.int 0, .int 0, .null, .null]) (C := RX1) (T := TX1) (N := 4) hx hb hts in_X1 tyX1 tyX1_ok hown (hts (.classLink RX1 10 RX1) (by decide +kernel)) (hts (.instantiable RX1 4) (by decide +kernel)) (hts (.initialized RX1) (by decide +kernel)) hT hI hS hA rfl (fun j hj => by rcases (show j = 0 ∨ j = 1 ∨ j = 2 ∨ j = 3 by omega) with rfl | rfl | rfl | rfl <;> rfl) (Nat.le_of_ble_eq_true rfl) (Nat.le_of_ble_eq_true rfl) dX1_cut_0 (fun q0 H hq0 hI hS => ?_)
  refine W.widen (k := 1) (n := 4) (Nat.le_of_ble_eq_true rfl) (Nat.le_of_ble_eq_true rfl) ?_
  refine lv_dup hx hb dX1_cut_3 rfl ?_
  refine lv_aload_n hx hb dX1_cut_4 rfl (lv_at hl 0 rfl) ?_
  refine wr_get (ci := 0) (C := RX1) (T := TX1) (N := 4) (v := .int kd) hx hb hts in_X1 hown hT hI (nw_in hc hq0) rfl 0 (by decide) (hts (.fieldLink RX1 9 "CopyRows$Row" "kind" "I") (by decide +kernel)) rfl dX1_cut_5 ?_
  refine lv_iload_n hx hb dX1_cut_8 rfl (lv_at hl 2 rfl) ?_
  refine ca_I (As := [.int kd, .int (nI n)]) (rest := [.ref q0]) ⟨hx, hb, hml, hown, hts⟩ (cc_X1_init_n l E A _ kd n hn hk (va_up_self _ _ _)) (cwI 2 hts gX1_cut_X1_init rfl rfl rfl (hts (.initialized RX1) (by decide +kernel)) (hts (.methodLink RX1 44 yX1_init) (by decide +kernel)) (hts (.instanceMethod yX1_init) (by decide +kernel)) rfl (by decide +kernel) ⟨(Nat.le_of_ble_eq_true rfl), (Nat.le_of_ble_eq_true rfl)⟩) hT hI hA hS rfl rfl hl.1 (Nat.le_of_ble_eq_true rfl) dX1_cut_9 ⟨(Nat.le_of_ble_eq_true rfl), (Nat.le_of_ble_eq_true rfl)⟩ (fun r w_2 H locs hp_1 hI hS => ?_)
  obtain ⟨rfl, hp_1⟩ := hp_1
  obtain ⟨q0n, q0p, hNq0⟩ := NewRow.of hq0 hp_1
  refine W.eq (g2 := F0 m 12 ls [.ref q0]) rfl ?_
  refine lv_astore_n (lv' := [(3, .ref q0), (0, .ref h0), (1, .int (nI i)), (2, .int (nI n))]) hx hb dX1_cut_12 rfl hl (by decide) rfl (fun ls hl => ?_)
  refine lv_aload_n hx hb dX1_cut_13 rfl (lv_at hl 0 rfl) ?_
  refine lv_aload_n hx hb dX1_cut_14 rfl (lv_at hl 1 rfl) ?_
  refine lv_iload_n hx hb dX1_cut_15 rfl (lv_at hl 2 rfl) ?_
  refine lv_iconst (v := 0) hx hb dX1_cut_16 (by decide) ?_
  refine lv_iload_n hx hb dX1_cut_17 rfl (lv_at hl 3 rfl) ?_
  refine ca_V (As := [.ref h0, .int (nI i), .int 0, .int (nI n)]) (rest := []) (r0 := (RX1, TX1, 4)) (ci := 0) ⟨hx, hb, hml, hown, hts⟩ (cc_X1_take_n l E A _ i 0 n (by omega) (by omega) hin9 (by omega) hk hNq0.2.2.2.2.2.2.1 (hNq0.keeps hc) hNq0.2.2.2.2.2.2.2.1 (hNq0.keeps hn1)) (cwV 4 hts gX1_cut_X1_take rfl rfl rfl (by decide +kernel) ⟨(Nat.le_of_ble_eq_true rfl), (Nat.le_of_ble_eq_true rfl)⟩) hT hI hA hS rfl hNq0.2.2.2.2.2.2.1 rfl rfl hl.1 (Nat.le_of_ble_eq_true rfl) dX1_cut_18 ⟨(Nat.le_of_ble_eq_true rfl), (Nat.le_of_ble_eq_true rfl)⟩ (fun r w_4 H locs hp_3 hI hS => ?_)
  obtain ⟨rfl, rfl⟩ := hp_3
  refine W.eq (g2 := F0 m 21 ls []) rfl ?_
  refine lv_aload_n hx hb dX1_cut_21 rfl (lv_at hl 0 rfl) ?_
  exact re_a hx hb hr hlocks hT hA hS hI (Or.inr ⟨_, rfl⟩) (⟨q0, q0n, q0p, rfl, hNq0.fillN⟩) (Nat.le_of_ble_eq_true rfl) (Nat.le_of_ble_eq_true rfl) dX1_cut_22

set_option maxHeartbeats 4000000 in
set_option maxRecDepth 100000 in
theorem cc_X1_cut_p (l : Launch) (E : En) (A : Nat → Prop) (w : Wd) {h0 na qa : Nat} {kd ln : Int32} {z : Nat} {f : Nat → Option Nat} (i n : Nat) (hz : z < 2 ^ 30) (hn : n ≤ 40) (hin9 : i + n ≤ z) (hk : ¬ isN kd) (hc : w h0 = some (eRow kd ln na qa)) (hn1 : w qa = some (eP E z f)) (hok : ∀ k, k < n → okW w (f (i + k))) : Ct l yX1_cut wsX1_cut ({ frames := 3, cells := 3, slots := 44, locals := 63 } : Room) E A w [.ref h0, .int (nI i), .int (nI n)] (fun r w' => ∃ q na2 qa2, r = some (.ref q) ∧ NewRow E w w' q na2 qa2 kd n 0 (fun _ => 0) n (va_cpy f (fun _ => none) i 0 n)) 3 44 := by
  refine Met.ofW (cc := cX1_cut) (maxL := 4) (ret := (some (.object "CopyRows$Row"))) (by decide) rfl ?_
  intro pp0 ee0 s m args below meth cc0 s₁ B hml hv
  obtain ⟨rfl, hT, hI, hA⟩ := hv
  have hx := B.exec
  have hb := B.bytes
  have hr := B.returns
  have hts := atoms_spec (ws := wsX1_cut) B.pre
  have hown : s.vm.findClass RX1 = some m.cls := findClass_of_methodNamed B.named
  have hlocks := B.notSynchronized
  have in_X1 : ∀ w ∈ wsX10, w ∈ wsX1_cut := by decide +kernel
  have hS : va_S A s.heap s.heap [] := va_S.rf
  have hl := lv_entry ([.ref h0, .int (nI i), .int (nI n)]) (n := 4) (Nat.le_of_ble_eq_true rfl)
  rw [lg_entry_eq]
  generalize (lg_sl ([.ref h0, .int (nI i), .int (nI n)]) ++ List.replicate (4 - (lg_sl ([.ref h0, .int (nI i), .int (nI n)])).length) Slot.unset).toArray = ls at hl ⊢
  have hl : lv_has ls 4 [(0, .ref h0), (1, .int (nI i)), (2, .int (nI n))] := hl
  refine wr_new (ci := 0) (fs := [.int 0, .int 0, .null, .null]) (C := RX1) (T := TX1) (N := 4) hx hb hts in_X1 tyX1 tyX1_ok hown (hts (.classLink RX1 10 RX1) (by decide +kernel)) (hts (.instantiable RX1 4) (by decide +kernel)) (hts (.initialized RX1) (by decide +kernel)) hT hI hS hA rfl (fun j hj => by rcases (show j = 0 ∨ j = 1 ∨ j = 2 ∨ j = 3 by omega) with rfl | rfl | rfl | rfl <;> rfl) (Nat.le_of_ble_eq_true rfl) (Nat.le_of_ble_eq_true rfl) dX1_cut_0 (fun q0 H hq0 hI hS => ?_)
  refine W.widen (k := 1) (n := 4) (Nat.le_of_ble_eq_true rfl) (Nat.le_of_ble_eq_true rfl) ?_
  refine lv_dup hx hb dX1_cut_3 rfl ?_
  refine lv_aload_n hx hb dX1_cut_4 rfl (lv_at hl 0 rfl) ?_
  refine wr_get (ci := 0) (C := RX1) (T := TX1) (N := 4) (v := .int kd) hx hb hts in_X1 hown hT hI (nw_in hc hq0) rfl 0 (by decide) (hts (.fieldLink RX1 9 "CopyRows$Row" "kind" "I") (by decide +kernel)) rfl dX1_cut_5 ?_
  refine lv_iload_n hx hb dX1_cut_8 rfl (lv_at hl 2 rfl) ?_
  refine ca_I (As := [.int kd, .int (nI n)]) (rest := [.ref q0]) ⟨hx, hb, hml, hown, hts⟩ (cc_X1_init_p l E A _ kd n hn hk (va_up_self _ _ _)) (cwI 2 hts gX1_cut_X1_init rfl rfl rfl (hts (.initialized RX1) (by decide +kernel)) (hts (.methodLink RX1 44 yX1_init) (by decide +kernel)) (hts (.instanceMethod yX1_init) (by decide +kernel)) rfl (by decide +kernel) ⟨(Nat.le_of_ble_eq_true rfl), (Nat.le_of_ble_eq_true rfl)⟩) hT hI hA hS rfl rfl hl.1 (Nat.le_of_ble_eq_true rfl) dX1_cut_9 ⟨(Nat.le_of_ble_eq_true rfl), (Nat.le_of_ble_eq_true rfl)⟩ (fun r w_2 H locs hp_1 hI hS => ?_)
  obtain ⟨rfl, hp_1⟩ := hp_1
  obtain ⟨q0n, q0p, hNq0⟩ := NewRow.of hq0 hp_1
  refine W.eq (g2 := F0 m 12 ls [.ref q0]) rfl ?_
  refine lv_astore_n (lv' := [(3, .ref q0), (0, .ref h0), (1, .int (nI i)), (2, .int (nI n))]) hx hb dX1_cut_12 rfl hl (by decide) rfl (fun ls hl => ?_)
  refine lv_aload_n hx hb dX1_cut_13 rfl (lv_at hl 0 rfl) ?_
  refine lv_aload_n hx hb dX1_cut_14 rfl (lv_at hl 1 rfl) ?_
  refine lv_iload_n hx hb dX1_cut_15 rfl (lv_at hl 2 rfl) ?_
  refine lv_iconst (v := 0) hx hb dX1_cut_16 (by decide) ?_
  refine lv_iload_n hx hb dX1_cut_17 rfl (lv_at hl 3 rfl) ?_
  refine ca_V (As := [.ref h0, .int (nI i), .int 0, .int (nI n)]) (rest := []) (r0 := (RX1, TX1, 4)) (ci := 0) ⟨hx, hb, hml, hown, hts⟩ (cc_X1_take_p l E A _ i 0 n (by omega) (by omega) hin9 (by omega) hk hNq0.2.2.2.2.2.2.1 (hNq0.keeps hc) hNq0.2.2.2.2.2.2.2.2.1 (hNq0.keeps hn1) (fun k hk9 => (hok k hk9).mono (fun a x h => hNq0.keeps h))) (cwV 4 hts gX1_cut_X1_take rfl rfl rfl (by decide +kernel) ⟨(Nat.le_of_ble_eq_true rfl), (Nat.le_of_ble_eq_true rfl)⟩) hT hI hA hS rfl hNq0.2.2.2.2.2.2.1 rfl rfl hl.1 (Nat.le_of_ble_eq_true rfl) dX1_cut_18 ⟨(Nat.le_of_ble_eq_true rfl), (Nat.le_of_ble_eq_true rfl)⟩ (fun r w_4 H locs hp_3 hI hS => ?_)
  obtain ⟨rfl, rfl⟩ := hp_3
  refine W.eq (g2 := F0 m 21 ls []) rfl ?_
  refine lv_aload_n hx hb dX1_cut_21 rfl (lv_at hl 0 rfl) ?_
  exact re_a hx hb hr hlocks hT hA hS hI (Or.inr ⟨_, rfl⟩) (⟨q0, q0n, q0p, rfl, hNq0.fillP⟩) (Nat.le_of_ble_eq_true rfl) (Nat.le_of_ble_eq_true rfl) dX1_cut_22

set_option maxHeartbeats 4000000 in
set_option maxRecDepth 100000 in
theorem cc_X1_isLike_n (l : Launch) (E : En) (A : Nat → Prop) (w : Wd) {h0 h1 na qa na1 qa1 n n1 : Nat} {kd kf : Int32} {f f1 : Nat → Int32} (hz : n < 2 ^ 30) (hz1 : n1 < 2 ^ 30) (hk : isN kd) (hc : w h0 = some (eRow kd (nI n) na qa)) (hc1 : w h1 = some (eRow kf (nI n1) na1 qa1)) (hn : w na = some (eI E n f)) (hn1 : kd = kf → w na1 = some (eI E n1 f1)) : Ct l yX1_isLike wsX1_isLike ({ frames := 1, cells := 0, slots := 0, locals := 20 } : Room) E A w [.ref h0, .ref h1] (fun r w' => w = w' ∧ (((kd = kf ∧ n = n1 ∧ ∀ k, k < n → f k = f1 k) ∧ r = some (.int 1)) ∨ (¬ (kd = kf ∧ n = n1 ∧ ∀ k, k < n → f k = f1 k) ∧ r = some (.int 0)))) 0 0 := by
  refine Met.ofW (cc := cX1_isLike) (maxL := 4) (ret := (some .boolean)) (by decide) rfl ?_
  intro pp0 ee0 s m args below meth cc0 s₁ B hml hv
  obtain ⟨rfl, hT, hI, hA⟩ := hv
  have hx := B.exec
  have hb := B.bytes
  have hr := B.returns
  have hts := atoms_spec (ws := wsX1_isLike) B.pre
  have hown : s.vm.findClass RX1 = some m.cls := findClass_of_methodNamed B.named
  have hlocks := B.notSynchronized
  have in_X1 : ∀ w ∈ wsX10, w ∈ wsX1_isLike := by decide +kernel
  have hS : va_S A s.heap s.heap [] := va_S.rf
  have hl := lv_entry ([.ref h0, .ref h1]) (n := 4) (Nat.le_of_ble_eq_true rfl)
  rw [lg_entry_eq]
  generalize (lg_sl ([.ref h0, .ref h1]) ++ List.replicate (4 - (lg_sl ([.ref h0, .ref h1])).length) Slot.unset).toArray = ls at hl ⊢
  have hl : lv_has ls 4 [(0, .ref h0), (1, .ref h1)] := hl
  refine lv_aload_n hx hb dX1_isLike_0 rfl (lv_at hl 0 rfl) ?_
  refine wr_get (ci := 0) (C := RX1) (T := TX1) (N := 4) (v := .int kd) hx hb hts in_X1 hown hT hI hc rfl 0 (by decide) (hts (.fieldLink RX1 9 "CopyRows$Row" "kind" "I") (by decide +kernel)) rfl dX1_isLike_1 ?_
  refine lv_aload_n hx hb dX1_isLike_4 rfl (lv_at hl 1 rfl) ?_
  refine wr_get (ci := 0) (C := RX1) (T := TX1) (N := 4) (v := .int kf) hx hb hts in_X1 hown hT hI hc1 rfl 0 (by decide) (hts (.fieldLink RX1 9 "CopyRows$Row" "kind" "I") (by decide +kernel)) rfl dX1_isLike_5 ?_
  refine lv_icmp_ne (tgt := 22) hx hb dX1_isLike_8 (by decide) (fun c_1 => ?_) (fun c_1 => ?_)
  · refine lv_iconst (v := 0) hx hb dX1_isLike_22 (by decide) ?_
    exact re_z hx hb hr hlocks hT hA hS hI (by decide) (⟨rfl, Or.inr ⟨fun q => c_1 q.1, rfl⟩⟩) (Nat.le_of_ble_eq_true rfl) (Nat.le_of_ble_eq_true rfl) dX1_isLike_23
  · refine lv_aload_n hx hb dX1_isLike_11 rfl (lv_at hl 0 rfl) ?_
    refine wr_get (ci := 0) (C := RX1) (T := TX1) (N := 4) (v := .int (nI n)) hx hb hts in_X1 hown hT hI hc rfl 1 (by decide) (hts (.fieldLink RX1 15 "CopyRows$Row" "length" "I") (by decide +kernel)) rfl dX1_isLike_12 ?_
    refine lv_aload_n hx hb dX1_isLike_15 rfl (lv_at hl 1 rfl) ?_
    refine wr_get (ci := 0) (C := RX1) (T := TX1) (N := 4) (v := .int (nI n1)) hx hb hts in_X1 hown hT hI hc1 rfl 1 (by decide) (hts (.fieldLink RX1 15 "CopyRows$Row" "length" "I") (by decide +kernel)) rfl dX1_isLike_16 ?_
    refine lv_icmp_eq (tgt := 24) hx hb dX1_isLike_19 (by decide) (fun c_2 => ?_) (fun c_2 => ?_)
    · have c_2 : n = n1 := (nI_eq (a := n) (b := n1) (by omega) (by omega)).mp c_2
      have hkf : kd = kf := c_1
      have hnn : n = n1 := c_2
      have hn9 : w na1 = some (eI E n1 f1) := hn1 hkf
      refine lv_iconst (v := 0) hx hb dX1_isLike_24 (by decide) ?_
      refine lv_istore_n (lv' := [(2, .int 0), (0, .ref h0), (1, .ref h1)]) hx hb dX1_isLike_25 rfl hl (by decide) rfl (fun ls hl => ?_)
      refine lp_w (ι := Nat) (fun t => n - t) (fun t H locs ls => (t ≤ n ∧ ∀ k, k < t → f k = f1 k) ∧ Hv E A w H ∧ va_S A s.heap H locs ∧ lv_has ls 4 [(0, .ref h0), (1, .ref h1), (2, .int (nI t))]) ?_ 0 _ _ _ ⟨⟨Nat.zero_le _, fun k hk9 => absurd hk9 (Nat.not_lt_zero _)⟩, hI, hS, lv_sub hl [1, 2, 0] (rfl)⟩
      intro t H locs ls hq ih
      obtain ⟨⟨ht, hall⟩, hI, hS, hl⟩ := hq
      refine lv_iload_n hx hb dX1_isLike_26 rfl (lv_at hl 2 rfl) ?_
      refine lv_aload_n hx hb dX1_isLike_27 rfl (lv_at hl 0 rfl) ?_
      refine wr_get (ci := 0) (C := RX1) (T := TX1) (N := 4) (v := .int (nI n)) hx hb hts in_X1 hown hT hI hc rfl 1 (by decide) (hts (.fieldLink RX1 15 "CopyRows$Row" "length" "I") (by decide +kernel)) rfl dX1_isLike_28 ?_
      refine lv_icmp_ge (tgt := 97) hx hb dX1_isLike_31 (by decide) (fun c_3 => ?_) (fun c_3 => ?_)
      · have c_3 : n ≤ t := (nI_leI (a := n) (b := t) (by omega) (by omega)).mp c_3
        refine lv_iconst (v := 1) hx hb dX1_isLike_97 (by decide) ?_
        exact re_z hx hb hr hlocks hT hA hS hI (by decide) (⟨rfl, Or.inl ⟨⟨hkf, hnn, fun k hk9 => hall k (by omega)⟩, rfl⟩⟩) (Nat.le_of_ble_eq_true rfl) (Nat.le_of_ble_eq_true rfl) dX1_isLike_98
      · have c_3 : ¬ n ≤ t := fun q => c_3 ((nI_leI (a := n) (b := t) (by omega) (by omega)).mpr q)
        refine lv_aload_n hx hb dX1_isLike_34 rfl (lv_at hl 0 rfl) ?_
        refine ca_V (As := []) (rest := []) (r0 := (RX1, TX1, 4)) (ci := 0) ⟨hx, hb, hml, hown, hts⟩ (cc_X1_isOfNumbers_n l E A _ hk hc) (cwV 0 hts gX1_isLike_X1_isOfNumbers rfl rfl rfl (by decide +kernel) ⟨(Nat.le_of_ble_eq_true rfl), (Nat.le_of_ble_eq_true rfl)⟩) hT hI hA hS rfl hc rfl rfl hl.1 (Nat.le_of_ble_eq_true rfl) dX1_isLike_35 ⟨(Nat.le_of_ble_eq_true rfl), (Nat.le_of_ble_eq_true rfl)⟩ (fun r w_5 H locs hp_4 hI hS => ?_)
        obtain ⟨rfl, rfl⟩ := hp_4
        refine W.eq (g2 := F0 m 38 ls [.int 1]) rfl ?_
        refine lv_if_eq (tgt := 64) hx hb dX1_isLike_38 (by decide) (fun c => absurd c (by decide)) (fun _ => ?_)
        refine lv_aload_n hx hb dX1_isLike_41 rfl (lv_at hl 0 rfl) ?_
        refine wr_get (ci := 0) (C := RX1) (T := TX1) (N := 4) (v := .ref na) hx hb hts in_X1 hown hT hI hc rfl 2 (by decide) (hts (.fieldLink RX1 18 "CopyRows$Row" "numbers" "[I") (by decide +kernel)) rfl dX1_isLike_42 ?_
        refine lv_iload_n hx hb dX1_isLike_45 rfl (lv_at hl 2 rfl) ?_
        refine wr_ialdN (t := t) (n := n) (f := f) hx hb hT hI hn (by omega) (by omega) dX1_isLike_46 ?_
        refine lv_aload_n hx hb dX1_isLike_47 rfl (lv_at hl 1 rfl) ?_
        refine wr_get (ci := 0) (C := RX1) (T := TX1) (N := 4) (v := .ref na1) hx hb hts in_X1 hown hT hI hc1 rfl 2 (by decide) (hts (.fieldLink RX1 18 "CopyRows$Row" "numbers" "[I") (by decide +kernel)) rfl dX1_isLike_48 ?_
        refine lv_iload_n hx hb dX1_isLike_51 rfl (lv_at hl 2 rfl) ?_
        refine wr_ialdN (t := t) (n := n1) (f := f1) hx hb hT hI hn9 (by omega) (by omega) dX1_isLike_52 ?_
        refine lv_icmp_eq (tgt := 60) hx hb dX1_isLike_53 (by decide) (fun c_6 => ?_) (fun c_6 => ?_)
        · refine lv_iconst (v := 0) hx hb dX1_isLike_60 (by decide) ?_
          refine lv_goto (tgt := 84) hx hb dX1_isLike_61 (by decide) ?_
          refine lv_istore_n (lv' := [(3, .int 0), (0, .ref h0), (1, .ref h1), (2, .int (nI t))]) hx hb dX1_isLike_84 rfl hl (by decide) rfl (fun ls hl => ?_)
          refine lv_iload_n hx hb dX1_isLike_85 rfl (lv_at hl 0 rfl) ?_
          refine lv_if_eq (tgt := 91) hx hb dX1_isLike_86 (by decide) (fun _ => ?_) (fun c => absurd c (by decide))
          refine lv_iinc (v := nI (t + 1)) (lv' := [(2, .int (nI (t + 1))), (3, .int 0), (0, .ref h0), (1, .ref h1)]) hx hb dX1_isLike_91 hl (k := 3) rfl (nI_1 _) (by decide) rfl (fun ls hl => ?_)
          refine lv_goto (tgt := 26) hx hb dX1_isLike_94 (by decide) ?_
          exact ih (t + 1) _ _ _ ⟨⟨by omega, fun k hk9 => by rcases Nat.lt_or_ge k t with q | q; exact hall k q; rw [show k = t by omega]; exact c_6⟩, hI, hS, lv_sub hl [2, 3, 0] (rfl)⟩ (by omega)
        · refine lv_iconst (v := 1) hx hb dX1_isLike_56 (by decide) ?_
          refine lv_goto (tgt := 84) hx hb dX1_isLike_57 (by decide) ?_
          refine lv_istore_n (lv' := [(3, .int 1), (0, .ref h0), (1, .ref h1), (2, .int (nI t))]) hx hb dX1_isLike_84 rfl hl (by decide) rfl (fun ls hl => ?_)
          refine lv_iload_n hx hb dX1_isLike_85 rfl (lv_at hl 0 rfl) ?_
          refine lv_if_eq (tgt := 91) hx hb dX1_isLike_86 (by decide) (fun c => absurd c (by decide)) (fun _ => ?_)
          refine lv_iconst (v := 0) hx hb dX1_isLike_89 (by decide) ?_
          exact re_z hx hb hr hlocks hT hA hS hI (by decide) (⟨rfl, Or.inr ⟨fun q => c_6 (q.2.2 t (by omega)), rfl⟩⟩) (Nat.le_of_ble_eq_true rfl) (Nat.le_of_ble_eq_true rfl) dX1_isLike_90
    · have c_2 : ¬ n = n1 := fun q => c_2 ((nI_eq (a := n) (b := n1) (by omega) (by omega)).mpr q)
      refine lv_iconst (v := 0) hx hb dX1_isLike_22 (by decide) ?_
      exact re_z hx hb hr hlocks hT hA hS hI (by decide) (⟨rfl, Or.inr ⟨fun q => c_2 q.2.1, rfl⟩⟩) (Nat.le_of_ble_eq_true rfl) (Nat.le_of_ble_eq_true rfl) dX1_isLike_23

set_option maxHeartbeats 4000000 in
set_option maxRecDepth 100000 in
theorem cc_X1_isLike_p (l : Launch) (E : En) (A : Nat → Prop) (w : Wd) {h0 h1 na qa na1 qa1 n n1 : Nat} {kd kf : Int32} {f f1 : Nat → Option Nat} (hz : n < 2 ^ 30) (hz1 : n1 < 2 ^ 30) (hk : ¬ isN kd) (hc : w h0 = some (eRow kd (nI n) na qa)) (hc1 : w h1 = some (eRow kf (nI n1) na1 qa1)) (hn : w qa = some (eP E n f)) (hn1 : kd = kf → w qa1 = some (eP E n1 f1)) : Ct l yX1_isLike wsX1_isLike ({ frames := 1, cells := 0, slots := 0, locals := 20 } : Room) E A w [.ref h0, .ref h1] (fun r w' => w = w' ∧ (((kd = kf ∧ n = n1 ∧ ∀ k, k < n → f k = f1 k) ∧ r = some (.int 1)) ∨ (¬ (kd = kf ∧ n = n1 ∧ ∀ k, k < n → f k = f1 k) ∧ r = some (.int 0)))) 0 0 := by
  refine Met.ofW (cc := cX1_isLike) (maxL := 4) (ret := (some .boolean)) (by decide) rfl ?_
  intro pp0 ee0 s m args below meth cc0 s₁ B hml hv
  obtain ⟨rfl, hT, hI, hA⟩ := hv
  have hx := B.exec
  have hb := B.bytes
  have hr := B.returns
  have hts := atoms_spec (ws := wsX1_isLike) B.pre
  have hown : s.vm.findClass RX1 = some m.cls := findClass_of_methodNamed B.named
  have hlocks := B.notSynchronized
  have in_X1 : ∀ w ∈ wsX10, w ∈ wsX1_isLike := by decide +kernel
  have hS : va_S A s.heap s.heap [] := va_S.rf
  have hl := lv_entry ([.ref h0, .ref h1]) (n := 4) (Nat.le_of_ble_eq_true rfl)
  rw [lg_entry_eq]
  generalize (lg_sl ([.ref h0, .ref h1]) ++ List.replicate (4 - (lg_sl ([.ref h0, .ref h1])).length) Slot.unset).toArray = ls at hl ⊢
  have hl : lv_has ls 4 [(0, .ref h0), (1, .ref h1)] := hl
  refine lv_aload_n hx hb dX1_isLike_0 rfl (lv_at hl 0 rfl) ?_
  refine wr_get (ci := 0) (C := RX1) (T := TX1) (N := 4) (v := .int kd) hx hb hts in_X1 hown hT hI hc rfl 0 (by decide) (hts (.fieldLink RX1 9 "CopyRows$Row" "kind" "I") (by decide +kernel)) rfl dX1_isLike_1 ?_
  refine lv_aload_n hx hb dX1_isLike_4 rfl (lv_at hl 1 rfl) ?_
  refine wr_get (ci := 0) (C := RX1) (T := TX1) (N := 4) (v := .int kf) hx hb hts in_X1 hown hT hI hc1 rfl 0 (by decide) (hts (.fieldLink RX1 9 "CopyRows$Row" "kind" "I") (by decide +kernel)) rfl dX1_isLike_5 ?_
  refine lv_icmp_ne (tgt := 22) hx hb dX1_isLike_8 (by decide) (fun c_1 => ?_) (fun c_1 => ?_)
  · refine lv_iconst (v := 0) hx hb dX1_isLike_22 (by decide) ?_
    exact re_z hx hb hr hlocks hT hA hS hI (by decide) (⟨rfl, Or.inr ⟨fun q => c_1 q.1, rfl⟩⟩) (Nat.le_of_ble_eq_true rfl) (Nat.le_of_ble_eq_true rfl) dX1_isLike_23
  · refine lv_aload_n hx hb dX1_isLike_11 rfl (lv_at hl 0 rfl) ?_
    refine wr_get (ci := 0) (C := RX1) (T := TX1) (N := 4) (v := .int (nI n)) hx hb hts in_X1 hown hT hI hc rfl 1 (by decide) (hts (.fieldLink RX1 15 "CopyRows$Row" "length" "I") (by decide +kernel)) rfl dX1_isLike_12 ?_
    refine lv_aload_n hx hb dX1_isLike_15 rfl (lv_at hl 1 rfl) ?_
    refine wr_get (ci := 0) (C := RX1) (T := TX1) (N := 4) (v := .int (nI n1)) hx hb hts in_X1 hown hT hI hc1 rfl 1 (by decide) (hts (.fieldLink RX1 15 "CopyRows$Row" "length" "I") (by decide +kernel)) rfl dX1_isLike_16 ?_
    refine lv_icmp_eq (tgt := 24) hx hb dX1_isLike_19 (by decide) (fun c_2 => ?_) (fun c_2 => ?_)
    · have c_2 : n = n1 := (nI_eq (a := n) (b := n1) (by omega) (by omega)).mp c_2
      have hkf : kd = kf := c_1
      have hnn : n = n1 := c_2
      have hn9 : w qa1 = some (eP E n1 f1) := hn1 hkf
      refine lv_iconst (v := 0) hx hb dX1_isLike_24 (by decide) ?_
      refine lv_istore_n (lv' := [(2, .int 0), (0, .ref h0), (1, .ref h1)]) hx hb dX1_isLike_25 rfl hl (by decide) rfl (fun ls hl => ?_)
      refine lp_w (ι := Nat) (fun t => n - t) (fun t H locs ls => (t ≤ n ∧ ∀ k, k < t → f k = f1 k) ∧ Hv E A w H ∧ va_S A s.heap H locs ∧ lv_has ls 4 [(0, .ref h0), (1, .ref h1), (2, .int (nI t))]) ?_ 0 _ _ _ ⟨⟨Nat.zero_le _, fun k hk9 => absurd hk9 (Nat.not_lt_zero _)⟩, hI, hS, lv_sub hl [1, 2, 0] (rfl)⟩
      intro t H locs ls hq ih
      obtain ⟨⟨ht, hall⟩, hI, hS, hl⟩ := hq
      refine lv_iload_n hx hb dX1_isLike_26 rfl (lv_at hl 2 rfl) ?_
      refine lv_aload_n hx hb dX1_isLike_27 rfl (lv_at hl 0 rfl) ?_
      refine wr_get (ci := 0) (C := RX1) (T := TX1) (N := 4) (v := .int (nI n)) hx hb hts in_X1 hown hT hI hc rfl 1 (by decide) (hts (.fieldLink RX1 15 "CopyRows$Row" "length" "I") (by decide +kernel)) rfl dX1_isLike_28 ?_
      refine lv_icmp_ge (tgt := 97) hx hb dX1_isLike_31 (by decide) (fun c_3 => ?_) (fun c_3 => ?_)
      · have c_3 : n ≤ t := (nI_leI (a := n) (b := t) (by omega) (by omega)).mp c_3
        refine lv_iconst (v := 1) hx hb dX1_isLike_97 (by decide) ?_
        exact re_z hx hb hr hlocks hT hA hS hI (by decide) (⟨rfl, Or.inl ⟨⟨hkf, hnn, fun k hk9 => hall k (by omega)⟩, rfl⟩⟩) (Nat.le_of_ble_eq_true rfl) (Nat.le_of_ble_eq_true rfl) dX1_isLike_98
      · have c_3 : ¬ n ≤ t := fun q => c_3 ((nI_leI (a := n) (b := t) (by omega) (by omega)).mpr q)
        refine lv_aload_n hx hb dX1_isLike_34 rfl (lv_at hl 0 rfl) ?_
        refine ca_V (As := []) (rest := []) (r0 := (RX1, TX1, 4)) (ci := 0) ⟨hx, hb, hml, hown, hts⟩ (cc_X1_isOfNumbers_p l E A _ hk hc) (cwV 0 hts gX1_isLike_X1_isOfNumbers rfl rfl rfl (by decide +kernel) ⟨(Nat.le_of_ble_eq_true rfl), (Nat.le_of_ble_eq_true rfl)⟩) hT hI hA hS rfl hc rfl rfl hl.1 (Nat.le_of_ble_eq_true rfl) dX1_isLike_35 ⟨(Nat.le_of_ble_eq_true rfl), (Nat.le_of_ble_eq_true rfl)⟩ (fun r w_5 H locs hp_4 hI hS => ?_)
        obtain ⟨rfl, rfl⟩ := hp_4
        refine W.eq (g2 := F0 m 38 ls [.int 0]) rfl ?_
        refine lv_if_eq (tgt := 64) hx hb dX1_isLike_38 (by decide) (fun _ => ?_) (fun c => absurd c (by decide))
        refine lv_aload_n hx hb dX1_isLike_64 rfl (lv_at hl 0 rfl) ?_
        refine wr_get (ci := 0) (C := RX1) (T := TX1) (N := 4) (v := .ref qa) hx hb hts in_X1 hown hT hI hc rfl 3 (by decide) (hts (.fieldLink RX1 22 "CopyRows$Row" "parts" "[LCopyRows$Part;") (by decide +kernel)) rfl dX1_isLike_65 ?_
        refine lv_iload_n hx hb dX1_isLike_68 rfl (lv_at hl 2 rfl) ?_
        refine wr_aaldN (t := t) (n := n) (f := f) hx hb hT hI hn 1 rfl (by omega) (by omega) dX1_isLike_69 ?_
        refine lv_aload_n hx hb dX1_isLike_70 rfl (lv_at hl 1 rfl) ?_
        refine wr_get (ci := 0) (C := RX1) (T := TX1) (N := 4) (v := .ref qa1) hx hb hts in_X1 hown hT hI hc1 rfl 3 (by decide) (hts (.fieldLink RX1 22 "CopyRows$Row" "parts" "[LCopyRows$Part;") (by decide +kernel)) rfl dX1_isLike_71 ?_
        refine lv_iload_n hx hb dX1_isLike_74 rfl (lv_at hl 2 rfl) ?_
        refine wr_aaldN (t := t) (n := n1) (f := f1) hx hb hT hI hn9 1 rfl (by omega) (by omega) dX1_isLike_75 ?_
        refine W.eq (g2 := F0 m 76 ls (va_rf (f1 t) :: va_rf (f t) :: [])) rfl ?_
        refine lv_acmp_eq (tgt := 83) hx hb dX1_isLike_76 (by decide) (fun c_6 => ?_) (fun c_6 => ?_)
        · refine lv_iconst (v := 0) hx hb dX1_isLike_83 (by decide) ?_
          refine lv_istore_n (lv' := [(3, .int 0), (0, .ref h0), (1, .ref h1), (2, .int (nI t))]) hx hb dX1_isLike_84 rfl hl (by decide) rfl (fun ls hl => ?_)
          refine lv_iload_n hx hb dX1_isLike_85 rfl (lv_at hl 0 rfl) ?_
          refine lv_if_eq (tgt := 91) hx hb dX1_isLike_86 (by decide) (fun _ => ?_) (fun c => absurd c (by decide))
          refine lv_iinc (v := nI (t + 1)) (lv' := [(2, .int (nI (t + 1))), (3, .int 0), (0, .ref h0), (1, .ref h1)]) hx hb dX1_isLike_91 hl (k := 3) rfl (nI_1 _) (by decide) rfl (fun ls hl => ?_)
          refine lv_goto (tgt := 26) hx hb dX1_isLike_94 (by decide) ?_
          exact ih (t + 1) _ _ _ ⟨⟨by omega, fun k hk9 => by rcases Nat.lt_or_ge k t with q | q; exact hall k q; rw [show k = t by omega]; exact c_6⟩, hI, hS, lv_sub hl [2, 3, 0] (rfl)⟩ (by omega)
        · refine lv_iconst (v := 1) hx hb dX1_isLike_79 (by decide) ?_
          refine lv_goto (tgt := 84) hx hb dX1_isLike_80 (by decide) ?_
          refine lv_istore_n (lv' := [(3, .int 1), (0, .ref h0), (1, .ref h1), (2, .int (nI t))]) hx hb dX1_isLike_84 rfl hl (by decide) rfl (fun ls hl => ?_)
          refine lv_iload_n hx hb dX1_isLike_85 rfl (lv_at hl 0 rfl) ?_
          refine lv_if_eq (tgt := 91) hx hb dX1_isLike_86 (by decide) (fun c => absurd c (by decide)) (fun _ => ?_)
          refine lv_iconst (v := 0) hx hb dX1_isLike_89 (by decide) ?_
          exact re_z hx hb hr hlocks hT hA hS hI (by decide) (⟨rfl, Or.inr ⟨fun q => c_6 (q.2.2 t (by omega)), rfl⟩⟩) (Nat.le_of_ble_eq_true rfl) (Nat.le_of_ble_eq_true rfl) dX1_isLike_90
    · have c_2 : ¬ n = n1 := fun q => c_2 ((nI_eq (a := n) (b := n1) (by omega) (by omega)).mpr q)
      refine lv_iconst (v := 0) hx hb dX1_isLike_22 (by decide) ?_
      exact re_z hx hb hr hlocks hT hA hS hI (by decide) (⟨rfl, Or.inr ⟨fun q => c_2 q.2.1, rfl⟩⟩) (Nat.le_of_ble_eq_true rfl) (Nat.le_of_ble_eq_true rfl) dX1_isLike_23
end
section
/-! the state, as a value: code, places, rows (how many, kinds, lengths, items), things (how many, sorts, numbers), lumps (how many) -/
abbrev Sx : Type := Int32 × (Nat → Int32) × Nat × (Nat → Int32) × (Nat → Nat) × (Nat → Nat → Int32) × Nat × (Nat → Int32) × (Nat → Int32) × Nat
abbrev sCod (S : Sx) : Int32 := S.1
abbrev sPl (S : Sx) : Nat → Int32 := S.2.1
abbrev sNr (S : Sx) : Nat := S.2.2.1
abbrev sKd (S : Sx) : Nat → Int32 := S.2.2.2.1
abbrev sLn (S : Sx) : Nat → Nat := S.2.2.2.2.1
abbrev sIt (S : Sx) : Nat → Nat → Int32 := S.2.2.2.2.2.1
abbrev sNt (S : Sx) : Nat := S.2.2.2.2.2.2.1
abbrev sCl (S : Sx) : Nat → Int32 := S.2.2.2.2.2.2.2.1
abbrev sNu (S : Sx) : Nat → Int32 := S.2.2.2.2.2.2.2.2.1
abbrev sNl (S : Sx) : Nat := S.2.2.2.2.2.2.2.2.2
abbrev uCod (S : Sx) (x : Int32) : Sx := (x, S.2)
abbrev uPl (S : Sx) (p : Nat) (v : Int32) : Sx := (S.1, upd S.2.1 p v, S.2.2)
abbrev uRow (S : Sx) (r : Nat) (f : Nat → Int32) : Sx := (S.1, S.2.1, S.2.2.1, S.2.2.2.1, S.2.2.2.2.1, va_up S.2.2.2.2.2.1 r f, S.2.2.2.2.2.2)
abbrev uNew (S : Sx) (k : Int32) (n : Nat) (f : Nat → Int32) : Sx := (S.1, S.2.1, S.2.2.1 + 1, upd S.2.2.2.1 S.2.2.1 k, va_up S.2.2.2.2.1 S.2.2.1 n, va_up S.2.2.2.2.2.1 S.2.2.1 f, S.2.2.2.2.2.2)
abbrev uTh (S : Sx) (k x : Int32) : Sx := (S.1, S.2.1, S.2.2.1, S.2.2.2.1, S.2.2.2.2.1, S.2.2.2.2.2.1, S.2.2.2.2.2.2.1 + 1, upd S.2.2.2.2.2.2.2.1 S.2.2.2.2.2.2.1 k, upd S.2.2.2.2.2.2.2.2.1 S.2.2.2.2.2.2.1 x, S.2.2.2.2.2.2.2.2.2)
abbrev uLu (S : Sx) : Sx := (S.1, S.2.1, S.2.2.1, S.2.2.2.1, S.2.2.2.2.1, S.2.2.2.2.2.1, S.2.2.2.2.2.2.1, S.2.2.2.2.2.2.2.1, S.2.2.2.2.2.2.2.2.1, S.2.2.2.2.2.2.2.2.2 + 1)
abbrev ix (x : Int32) : Nat := x.toNatClampNeg
theorem ix_nI {n : Nat} (h : n < 2 ^ 31) : ix (nI n) = n := nI_clamp h
theorem nI_ix {x : Int32} (h : ¬ x < 0) : nI (ix x) = x := by
  obtain ⟨j, hj, rfl⟩ := nI_of h
  rw [ix_nI hj]
/-- a row's number, a lump's, either's, a thing's -/
def vR (S : Sx) (v : Int32) : Prop := ¬ v < 0 ∧ ix v < sNr S
def vL (S : Sx) (v : Int32) : Prop := v.toInt < -1 ∧ -1 - (sNl S : Int) ≤ v.toInt
def vO (S : Sx) (v : Int32) : Prop := vR S v ∨ vL S v
def vT (S : Sx) (v : Int32) : Prop := ¬ v < 0 ∧ ix v < sNt S
def kdv (S : Sx) (v : Int32) : Int32 := if v < 0 then 6 else sKd S (ix v)
def lnv (S : Sx) (v : Int32) : Nat := if v < 0 then 0 else sLn S (ix v)
def itv (S : Sx) (v : Int32) : Nat → Int32 := if v < 0 then fun _ => -1 else sIt S (ix v)
/-- addresses: the object, its places, rows and lumps, their numbers, their parts, things; and what lies at an address -/
abbrev Ad : Type := Nat × Nat × (Int32 → Nat) × (Int32 → Nat) × (Int32 → Nat) × (Int32 → Nat) × (Nat → Nat × Int32)
abbrev aH (D : Ad) : Nat := D.1
abbrev aP (D : Ad) : Nat := D.2.1
abbrev aR (D : Ad) : Int32 → Nat := D.2.2.1
abbrev aN (D : Ad) : Int32 → Nat := D.2.2.2.1
abbrev aQ (D : Ad) : Int32 → Nat := D.2.2.2.2.1
abbrev aT (D : Ad) : Int32 → Nat := D.2.2.2.2.2.1
abbrev aG (D : Ad) : Nat → Nat × Int32 := D.2.2.2.2.2.2
def plO (D : Ad) (v : Int32) : Option Nat := if v = -1 then none else some (aR D v)
def pO (D : Ad) (kd x : Int32) : Option Nat := if x = -1 then none else some (if kd = 2 then aR D x else aT D x)
def nuv (S : Sx) (v : Int32) : Nat → Int32 := if isN (kdv S v) then itv S v else fun _ => 0
def pav (S : Sx) (D : Ad) (v : Int32) : Nat → Option Nat := if isN (kdv S v) then fun _ => none else fun k => pO D (kdv S v) (itv S v k)
def RpO (E : En) (S : Sx) (D : Ad) (w : Wd) (v : Int32) : Prop := w (aR D v) = some (eRow (kdv S v) (nI (lnv S v)) (aN D v) (aQ D v)) ∧ w (aN D v) = some (eI E (nz (kdv S v) (lnv S v)) (nuv S v)) ∧ w (aQ D v) = some (eP E (pz (kdv S v) (lnv S v)) (pav S D v))
/-- the cells hold the state -/
def Rp (E : En) (S : Sx) (D : Ad) (w : Wd) : Prop :=
  w (aH D) = some (.inr (2, [.ref (aP D), .int (sCod S)])) ∧ w (aP D) = some (eR E 12 (fun p => plO D (sPl S p))) ∧ (∀ v, vO S v → RpO E S D w v) ∧ (∀ v, vT S v → w (aT D v) = some (eTh (sCl S (ix v)) (sNu S (ix v)))) ∧
  aG D (aH D) = (4, 0) ∧ aG D (aP D) = (5, 0) ∧ (∀ v, vO S v → aG D (aR D v) = (0, v) ∧ aG D (aN D v) = (1, v) ∧ aG D (aQ D v) = (2, v)) ∧ ∀ v, vT S v → aG D (aT D v) = (3, v)
theorem Rp.sub {E : En} {S : Sx} {D : Ad} {w w' : Wd} (h : Rp E S D w) (hw : ∀ a x, w a = some x → w' a = some x) : Rp E S D w' := by
  obtain ⟨h1, h2, h3, h4, h5⟩ := h
  exact ⟨hw _ _ h1, hw _ _ h2, fun v hv => ⟨hw _ _ (h3 v hv).1, hw _ _ (h3 v hv).2.1, hw _ _ (h3 v hv).2.2⟩, fun v hv => hw _ _ (h4 v hv), h5⟩
theorem tg_ne {D : Ad} {a b : Nat} {x y : Nat × Int32} (ha : aG D a = x) (hb : aG D b = y) (h : x ≠ y) : a ≠ b := fun e => h (by rw [← ha, ← hb, e])
theorem tg1 {i j : Nat} {v u : Int32} (h : i ≠ j) : (i, v) ≠ (j, u) := fun e => h (congrArg Prod.fst e)
theorem tg2 {i : Nat} {v u : Int32} (h : v ≠ u) : (i, v) ≠ (i, u) := fun e => h (congrArg Prod.snd e)
theorem Rp.cod {E : En} {S : Sx} {D : Ad} {w : Wd} (h : Rp E S D w) (x : Int32) : Rp E (uCod S x) D (va_up w (aH D) (some (.inr (2, [.ref (aP D), .int x])))) := by
  obtain ⟨h1, h2, h3, h4, t1, t2, t3, t4⟩ := h
  refine ⟨va_up_self _ _ _, ?_, fun v hv => ?_, fun v hv => ?_, t1, t2, t3, t4⟩
  · rw [va_up_ne _ _ (tg_ne t2 t1 (tg1 (by decide)))]; exact h2
  · obtain ⟨g1, g2, g3⟩ := t3 v hv
    obtain ⟨q1, q2, q3⟩ := h3 v hv
    refine ⟨?_, ?_, ?_⟩
    · rw [va_up_ne _ _ (tg_ne g1 t1 (tg1 (by decide)))]; exact q1
    · rw [va_up_ne _ _ (tg_ne g2 t1 (tg1 (by decide)))]; exact q2
    · rw [va_up_ne _ _ (tg_ne g3 t1 (tg1 (by decide)))]; exact q3
  · rw [va_up_ne _ _ (tg_ne (t4 v hv) t1 (tg1 (by decide)))]; exact h4 v hv
theorem Rp.pl {E : En} {S : Sx} {D : Ad} {w : Wd} (h : Rp E S D w) (p : Nat) (x : Int32) : Rp E (uPl S p x) D (va_up w (aP D) (some (eR E 12 (va_up (fun p => plO D (sPl S p)) p (plO D x))))) := by
  obtain ⟨h1, h2, h3, h4, t1, t2, t3, t4⟩ := h
  refine ⟨?_, ?_, fun v hv => ?_, fun v hv => ?_, t1, t2, t3, t4⟩
  · rw [va_up_ne _ _ (tg_ne t1 t2 (tg1 (by decide)))]; exact h1
  · rw [va_up_self]
    congr 5
    funext q
    by_cases hq : q = p <;> simp [va_up, upd, hq, sPl, uPl]
  · obtain ⟨g1, g2, g3⟩ := t3 v hv
    obtain ⟨q1, q2, q3⟩ := h3 v hv
    refine ⟨?_, ?_, ?_⟩
    · rw [va_up_ne _ _ (tg_ne g1 t2 (tg1 (by decide)))]; exact q1
    · rw [va_up_ne _ _ (tg_ne g2 t2 (tg1 (by decide)))]; exact q2
    · rw [va_up_ne _ _ (tg_ne g3 t2 (tg1 (by decide)))]; exact q3
  · rw [va_up_ne _ _ (tg_ne (t4 v hv) t2 (tg1 (by decide)))]; exact h4 v hv
theorem itv_row {S : Sx} {v u : Int32} {f : Nat → Int32} (hv : ¬ v < 0) : itv (uRow S (ix v) f) u = if u = v then f else itv S u := by
  unfold itv
  by_cases hu : u < 0
  · have : u ≠ v := fun e => hv (e ▸ hu)
    simp [hu, this]
  · by_cases e : u = v
    · subst e; simp [hv, va_up, sIt, uRow]
    · have : ix u ≠ ix v := fun q => e (by rw [← nI_ix hu, ← nI_ix hv, q])
      simp [hu, e, va_up, this, sIt, uRow]
theorem Rp.numbers {E : En} {S : Sx} {D : Ad} {w : Wd} (h : Rp E S D w) {v : Int32} (hv : vR S v) (hk : isN (kdv S v)) (f : Nat → Int32) : Rp E (uRow S (ix v) f) D (va_up w (aN D v) (some (eI E (nz (kdv S v) (lnv S v)) f))) := by
  obtain ⟨h1, h2, h3, h4, t1, t2, t3, t4⟩ := h
  have tv := t3 v (Or.inl hv)
  have ei := fun u => itv_row (S := S) (u := u) (f := f) hv.1
  refine ⟨?_, ?_, fun u hu => ?_, fun u hu => ?_, t1, t2, t3, t4⟩
  · rw [va_up_ne _ _ (tg_ne t1 tv.2.1 (tg1 (by decide)))]; exact h1
  · rw [va_up_ne _ _ (tg_ne t2 tv.2.1 (tg1 (by decide)))]; exact h2
  · obtain ⟨g1, g2, g3⟩ := t3 u hu
    obtain ⟨q1, q2, q3⟩ := h3 u hu
    by_cases e : u = v
    · subst e
      refine ⟨?_, ?_, ?_⟩
      · rw [va_up_ne _ _ (tg_ne g1 tv.2.1 (tg1 (by decide)))]; exact q1
      · rw [va_up_self]
        show some (eI E (nz (kdv S u) (lnv S u)) f) = some (eI E (nz (kdv S u) (lnv S u)) (nuv (uRow S (ix u) f) u))
        have : nuv (uRow S (ix u) f) u = f := by
          unfold nuv
          rw [show kdv (uRow S (ix u) f) u = kdv S u from rfl, if_pos hk, ei u, if_pos rfl]
        rw [this]
      · rw [va_up_ne _ _ (tg_ne g3 tv.2.1 (tg1 (by decide)))]
        rw [q3]
        show some (eP E (pz (kdv S u) (lnv S u)) (pav S D u)) = some (eP E (pz (kdv S u) (lnv S u)) (pav (uRow S (ix u) f) D u))
        have : pav (uRow S (ix u) f) D u = pav S D u := by
          unfold pav
          rw [show kdv (uRow S (ix u) f) u = kdv S u from rfl, if_pos hk, if_pos hk]
        rw [this]
    · have ev : itv (uRow S (ix v) f) u = itv S u := by rw [ei u, if_neg e]
      refine ⟨?_, ?_, ?_⟩
      · rw [va_up_ne _ _ (tg_ne g1 tv.2.1 (tg1 (by decide)))]; exact q1
      · rw [va_up_ne _ _ (tg_ne g2 tv.2.1 (tg2 e)), q2]
        have : nuv (uRow S (ix v) f) u = nuv S u := by unfold nuv; rw [show kdv (uRow S (ix v) f) u = kdv S u from rfl, ev]
        rw [this]; rfl
      · rw [va_up_ne _ _ (tg_ne g3 tv.2.1 (tg1 (by decide))), q3]
        have : pav (uRow S (ix v) f) D u = pav S D u := by unfold pav; rw [show kdv (uRow S (ix v) f) u = kdv S u from rfl, ev]
        rw [this]; rfl
  · rw [va_up_ne _ _ (tg_ne (t4 u hu) tv.2.1 (tg1 (by decide)))]; exact h4 u hu
theorem Rp.parts {E : En} {S : Sx} {D : Ad} {w : Wd} (h : Rp E S D w) {v : Int32} (hv : vR S v) (hk : ¬ isN (kdv S v)) (f : Nat → Int32) {g : Nat → Option Nat} (hg : g = fun k => pO D (kdv S v) (f k)) : Rp E (uRow S (ix v) f) D (va_up w (aQ D v) (some (eP E (pz (kdv S v) (lnv S v)) g))) := by
  obtain ⟨h1, h2, h3, h4, t1, t2, t3, t4⟩ := h
  have tv := t3 v (Or.inl hv)
  have ei := fun u => itv_row (S := S) (u := u) (f := f) hv.1
  refine ⟨?_, ?_, fun u hu => ?_, fun u hu => ?_, t1, t2, t3, t4⟩
  · rw [va_up_ne _ _ (tg_ne t1 tv.2.2 (tg1 (by decide)))]; exact h1
  · rw [va_up_ne _ _ (tg_ne t2 tv.2.2 (tg1 (by decide)))]; exact h2
  · obtain ⟨g1, g2, g3⟩ := t3 u hu
    obtain ⟨q1, q2, q3⟩ := h3 u hu
    by_cases e : u = v
    · subst e
      refine ⟨?_, ?_, ?_⟩
      · rw [va_up_ne _ _ (tg_ne g1 tv.2.2 (tg1 (by decide)))]; exact q1
      · rw [va_up_ne _ _ (tg_ne g2 tv.2.2 (tg1 (by decide))), q2]
        have : nuv (uRow S (ix u) f) u = nuv S u := by
          unfold nuv
          rw [show kdv (uRow S (ix u) f) u = kdv S u from rfl, if_neg hk, if_neg hk]
        rw [this]; rfl
      · rw [va_up_self]
        show some (eP E (pz (kdv S u) (lnv S u)) g) = some (eP E (pz (kdv S u) (lnv S u)) (pav (uRow S (ix u) f) D u))
        have : pav (uRow S (ix u) f) D u = g := by
          unfold pav
          rw [show kdv (uRow S (ix u) f) u = kdv S u from rfl, if_neg hk, ei u, if_pos rfl, hg]
        rw [this]
    · have ev : itv (uRow S (ix v) f) u = itv S u := by rw [ei u, if_neg e]
      refine ⟨?_, ?_, ?_⟩
      · rw [va_up_ne _ _ (tg_ne g1 tv.2.2 (tg1 (by decide)))]; exact q1
      · rw [va_up_ne _ _ (tg_ne g2 tv.2.2 (tg1 (by decide))), q2]
        have : nuv (uRow S (ix v) f) u = nuv S u := by unfold nuv; rw [show kdv (uRow S (ix v) f) u = kdv S u from rfl, ev]
        rw [this]; rfl
      · rw [va_up_ne _ _ (tg_ne g3 tv.2.2 (tg2 e)), q3]
        have : pav (uRow S (ix v) f) D u = pav S D u := by unfold pav; rw [show kdv (uRow S (ix v) f) u = kdv S u from rfl, ev]
        rw [this]; rfl
  · rw [va_up_ne _ _ (tg_ne (t4 u hu) tv.2.2 (tg1 (by decide)))]; exact h4 u hu
/-- what is well formed: places hold what is there, items of objects too -/
def Wf (S : Sx) : Prop := (∀ p, sPl S p = -1 ∨ vO S (sPl S p)) ∧ (∀ r, r < sNr S → (0 ≤ sKd S r ∧ sKd S r ≤ 5) ∧ sLn S r ≤ 40 ∧ (sKd S r = 2 → ∀ k, sIt S r k = -1 ∨ (vR S (sIt S r k) ∧ sKd S (ix (sIt S r k)) = 1)) ∧ (3 ≤ sKd S r → ∀ k, sIt S r k = -1 ∨ vT S (sIt S r k))) ∧ (∀ t, t < sNt S → ¬ sCl S t = -1) ∧ sNr S ≤ 512 ∧ sNt S ≤ 512 ∧ sNl S ≤ 512
/-- a world with more objects: rows and lumps -/
def adR (D : Ad) (v : Int32) (q na qa : Nat) : Ad := (D.1, D.2.1, fun u => if u = v then q else aR D u, fun u => if u = v then na else aN D u, fun u => if u = v then qa else aQ D u, aT D, fun a => if a = q then (0, v) else if a = na then (1, v) else if a = qa then (2, v) else aG D a)
theorem Rp.grow {E : En} {S S' : Sx} {D : Ad} {w w' : Wd} {v : Int32} {q na qa : Nat} {kd : Int32} {n : Nat} {f : Nat → Int32} {f1 : Nat → Int32} {g1 : Nat → Option Nat} (h : Rp E S D w) (hW : Wf S) (hN : NewRow E w w' q na qa kd n (nz kd n) f1 (pz kd n) g1)
    (hv : ¬ vO S v) (hv1 : v ≠ -1) (hO : ∀ u, vO S' u → u = v ∨ vO S u) (hk : kdv S' v = kd) (hl : lnv S' v = n) (hi : itv S' v = f)
    (hke : ∀ u, vO S u → kdv S' u = kdv S u ∧ lnv S' u = lnv S u ∧ itv S' u = itv S u) (hc : sCod S' = sCod S) (hp : sPl S' = sPl S) (ht : sNt S' = sNt S) (hcl : sCl S' = sCl S) (hnu : sNu S' = sNu S)
    (hf1 : f1 = if isN kd then f else fun _ => 0) (hg1 : g1 = if isN kd then fun _ => none else fun k => pO D kd (f k)) (hfi : kd = 2 → ∀ k, f k ≠ v) : Rp E S' (adR D v q na qa) w' := by
  obtain ⟨h1, h2, h3, h4, t1, t2, t3, t4⟩ := h
  have kp : ∀ {a : Nat} {x : va_E}, w a = some x → w' a = some x := fun ha => hN.keeps ha
  have hN0 := hN
  obtain ⟨n1, n2, n3, n4, n5, n6, n7, n8, n9, n10⟩ := hN
  have gk : ∀ {a : Nat} {x : va_E}, w a = some x → aG (adR D v q na qa) a = aG D a := by
    intro a x ha
    show (if a = q then _ else if a = na then _ else if a = qa then _ else _) = _
    rw [if_neg (nw_ne ha n1), if_neg (nw_ne ha n2), if_neg (nw_ne ha n3)]
  have rk : ∀ u, u ≠ v → aR (adR D v q na qa) u = aR D u ∧ aN (adR D v q na qa) u = aN D u ∧ aQ (adR D v q na qa) u = aQ D u := fun u hu => ⟨if_neg hu, if_neg hu, if_neg hu⟩
  have rv : aR (adR D v q na qa) v = q ∧ aN (adR D v q na qa) v = na ∧ aQ (adR D v q na qa) v = qa := ⟨if_pos rfl, if_pos rfl, if_pos rfl⟩
  have vT' : ∀ u, vT S' u → vT S u := fun u hu => ⟨hu.1, by rw [← ht]; exact hu.2⟩
  have pOe : ∀ (k x : Int32), (k = 2 → x ≠ v) → pO (adR D v q na qa) k x = pO D k x := by
    intro k x hx
    unfold pO
    by_cases e : k = 2
    · rw [if_pos e, if_pos e, (rk x (hx e)).1]
    · rw [if_neg e, if_neg e]; rfl
  refine ⟨?_, ?_, fun u hu => ?_, fun u hu => ?_, ?_, ?_, fun u hu => ?_, fun u hu => ?_⟩
  · rw [hc]; exact kp h1
  · have e : (fun p => plO (adR D v q na qa) (sPl S' p)) = fun p => plO D (sPl S p) := by
      funext p
      rw [hp]
      unfold plO
      rcases hW.1 p with e | e
      · rw [if_pos e, if_pos e]
      · rw [(rk _ (fun q => hv (q ▸ e))).1]
    rw [e]
    exact kp h2
  · by_cases e : u = v
    · subst e
      rw [RpO, rv.1, rv.2.1, rv.2.2, hk, hl]
      refine ⟨n7, ?_, ?_⟩
      · rw [n8, show nuv S' u = f1 by unfold nuv; rw [hk, hi, hf1]]
      · rw [n9, show pav S' (adR D u q na qa) u = g1 from ?_]
        unfold pav
        rw [hk, hi, hg1]
        by_cases ek : isN kd
        · rw [if_pos ek, if_pos ek]
        · rw [if_neg ek, if_neg ek]
          funext k
          exact pOe kd (f k) (fun e => hfi e k)
    · have hu0 : vO S u := (hO u hu).resolve_left e
      obtain ⟨q1, q2, q3⟩ := h3 u hu0
      obtain ⟨e1, e2, e3⟩ := hke u hu0
      obtain ⟨r1, r2, r3⟩ := rk u e
      rw [RpO, r1, r2, r3, e1, e2]
      refine ⟨kp q1, ?_, ?_⟩
      · rw [show nuv S' u = nuv S u by unfold nuv; rw [e1, e3]]
        exact kp q2
      · rw [show pav S' (adR D v q na qa) u = pav S D u from ?_]
        · exact kp q3
        · unfold pav
          rw [e1, e3]
          by_cases ek : isN (kdv S u)
          · rw [if_pos ek, if_pos ek]
          · rw [if_neg ek, if_neg ek]
            funext k
            apply pOe
            intro e2
            rcases hu0 with hr | hr
            · have hkd : sKd S (ix u) = 2 := by
                have := e2
                unfold kdv at this
                rwa [if_neg hr.1] at this
              have hi2 : itv S u = sIt S (ix u) := by unfold itv; rw [if_neg hr.1]
              rw [hi2]
              rcases (hW.2.1 (ix u) hr.2).2.2.1 hkd k with e4 | e4
              · rw [e4]; exact hv1.symm
              · intro q; exact hv (Or.inl (q ▸ e4.1))
            · have hneg : u < 0 := by
                rw [Int32.lt_iff_toInt_lt]
                have := hr.1
                simp; omega
              have hi2 : itv S u k = -1 := by unfold itv; rw [if_pos hneg]
              rw [hi2]; exact hv1.symm
  · rw [hcl, hnu]; exact kp (h4 u (vT' u hu))
  · rw [show aH (adR D v q na qa) = aH D from rfl, gk h1]; exact t1
  · rw [show aP (adR D v q na qa) = aP D from rfl, gk h2]; exact t2
  · by_cases e : u = v
    · subst e
      rw [rv.1, rv.2.1, rv.2.2]
      refine ⟨if_pos rfl, ?_, ?_⟩
      · show (if na = q then _ else if na = na then _ else _) = _
        rw [if_neg n4.symm, if_pos rfl]
      · show (if qa = q then _ else if qa = na then _ else if qa = qa then _ else _) = _
        rw [if_neg n5.symm, if_neg n6.symm, if_pos rfl]
    · have hu0 : vO S u := (hO u hu).resolve_left e
      obtain ⟨q1, q2, q3⟩ := h3 u hu0
      obtain ⟨r1, r2, r3⟩ := rk u e
      rw [r1, r2, r3, gk q1, gk q2, gk q3]
      exact t3 u hu0
  · rw [show aT (adR D v q na qa) = aT D from rfl, gk (h4 u (vT' u hu))]; exact t4 u (vT' u hu)
/-- and with one thing more -/
def adT (D : Ad) (v : Int32) (q : Nat) : Ad := (D.1, D.2.1, aR D, aN D, aQ D, fun u => if u = v then q else aT D u, fun a => if a = q then (3, v) else aG D a)
theorem Rp.growT {E : En} {S : Sx} {D : Ad} {w w' : Wd} {q : Nat} {k x : Int32} (h : Rp E S D w) (hW : Wf S) (hq : w q = none) (hq1 : w' q = some (eTh k x)) (hw : ∀ a, a ≠ q → w' a = w a) : Rp E (uTh S k x) (adT D (nI (sNt S)) q) w' := by
  obtain ⟨h1, h2, h3, h4, t1, t2, t3, t4⟩ := h
  have hb : sNt S < 2 ^ 31 := Nat.lt_of_le_of_lt hW.2.2.2.2.1 (by decide)
  have kp : ∀ {a : Nat} {x : va_E}, w a = some x → w' a = some x := fun {a x} ha => by rw [hw a (nw_ne ha hq)]; exact ha
  have gk : ∀ {a : Nat} {x : va_E}, w a = some x → aG (adT D (nI (sNt S)) q) a = aG D a := fun {a x} ha => if_neg (nw_ne ha hq)
  have vT' : ∀ u, vT (uTh S k x) u → u = nI (sNt S) ∨ vT S u := by
    intro u hu
    by_cases e : ix u = sNt S
    · exact Or.inl (by rw [← e, nI_ix hu.1])
    · exact Or.inr ⟨hu.1, by have := hu.2; show ix u < sNt S; have h9 : ix u < sNt S + 1 := this; omega⟩
  have tk : ∀ u, u ≠ nI (sNt S) → aT (adT D (nI (sNt S)) q) u = aT D u := fun u hu => if_neg hu
  have notv : ¬ vT S (nI (sNt S)) := fun e => by have := e.2; rw [ix_nI hb] at this; omega
  have pOe : ∀ (k x : Int32), (k ≠ 2 → x ≠ nI (sNt S)) → pO (adT D (nI (sNt S)) q) k x = pO D k x := by
    intro k x hx
    unfold pO
    by_cases e : k = 2
    · rw [if_pos e, if_pos e]; rfl
    · rw [if_neg e, if_neg e, tk x (hx e)]
  refine ⟨kp h1, kp h2, fun u hu => ?_, fun u hu => ?_, (gk h1).trans t1, (gk h2).trans t2, fun u hu => ?_, fun u hu => ?_⟩
  · obtain ⟨q1, q2, q3⟩ := h3 u hu
    refine ⟨kp q1, kp q2, ?_⟩
    have e : pav (uTh S k x) (adT D (nI (sNt S)) q) u = pav S D u := by
      unfold pav
      rw [show kdv (uTh S k x) u = kdv S u from rfl, show itv (uTh S k x) u = itv S u from rfl]
      by_cases ek : isN (kdv S u)
      · rw [if_pos ek, if_pos ek]
      · rw [if_neg ek, if_neg ek]
        funext j
        apply pOe
        intro e2
        have hn1 : (-1 : Int32) ≠ nI (sNt S) := fun e => by
          have h9 : ¬ nI (sNt S) < 0 := nI_pos hb
          rw [← e] at h9
          exact h9 (by decide)
        rcases hu with hr | hr
        · have hi2 : itv S u = sIt S (ix u) := by unfold itv; rw [if_neg hr.1]
          have hkd : kdv S u = sKd S (ix u) := by unfold kdv; rw [if_neg hr.1]
          rw [hi2]
          have hw2 := hW.2.1 (ix u) hr.2
          have h3le : 3 ≤ sKd S (ix u) := by
            rw [hkd] at ek e2
            have a1 := hw2.1.1
            rw [Int32.le_iff_toInt_le] at a1 ⊢
            have b0 : sKd S (ix u) ≠ 0 := fun q => ek (Or.inl q)
            have b1 : sKd S (ix u) ≠ 1 := fun q => ek (Or.inr q)
            have c0 : (sKd S (ix u)).toInt ≠ 0 := fun q => b0 (Int32.toInt_inj.mp (q.trans (by decide)))
            have c1 : (sKd S (ix u)).toInt ≠ 1 := fun q => b1 (Int32.toInt_inj.mp (q.trans (by decide)))
            have c2 : (sKd S (ix u)).toInt ≠ 2 := fun q => e2 (Int32.toInt_inj.mp (q.trans (by decide)))
            simp at a1 ⊢
            omega
          rcases hw2.2.2.2 h3le j with e4 | e4
          · rw [e4]; exact hn1
          · intro q; exact notv (q ▸ e4)
        · have hneg : u < 0 := by
            rw [Int32.lt_iff_toInt_lt]
            have := hr.1
            simp; omega
          have hi2 : itv S u j = -1 := by unfold itv; rw [if_pos hneg]
          rw [hi2]; exact hn1
    show w' (aQ D u) = some (eP E (pz (kdv S u) (lnv S u)) (pav (uTh S k x) (adT D (nI (sNt S)) q) u))
    rw [e]
    exact kp q3
  · rcases vT' u hu with e | hu0
    · subst e
      rw [show aT (adT D (nI (sNt S)) q) (nI (sNt S)) = q from if_pos rfl, hq1, ix_nI hb]
      simp [upd, sCl, sNu, uTh, sNt]
    · have hne : u ≠ nI (sNt S) := fun e => notv (e ▸ hu0)
      rw [tk u hne]
      have hix : ix u ≠ sNt S := fun e => hne (by rw [← e, nI_ix hu.1])
      have := kp (h4 u hu0)
      rw [this]
      have hix : ¬ ix u = S.2.2.2.2.2.2.1 := hix
      simp [upd, hix, sCl, sNu, uTh]
  · obtain ⟨q1, q2, q3⟩ := h3 u hu
    exact ⟨(gk q1).trans (t3 u hu).1, (gk q2).trans (t3 u hu).2.1, (gk q3).trans (t3 u hu).2.2⟩
  · rcases vT' u hu with e | hu0
    · subst e
      rw [show aT (adT D (nI (sNt S)) q) (nI (sNt S)) = q from if_pos rfl]
      exact if_pos rfl
    · have hne : u ≠ nI (sNt S) := fun e => notv (e ▸ hu0)
      rw [tk u hne, gk (h4 u hu0)]; exact t4 u hu0
end
section
/-! what each call answers and does, as functions of the state -/
abbrev xOut : Int32 := -2000000001
/-- no place -/
abbrev oP (p : Int32) : Prop := p < 0 ∨ ¬ p < 12
def pv (S : Sx) (p : Int32) : Int32 := sPl S (ix p)
def kp (S : Sx) (v : Int32) : Int32 := if v = -1 then -1 else kdv S v
def ini (k : Int32) : Nat → Int32 := fun _ => if isN k then 0 else -1
def luv (S : Sx) : Int32 := -1 - nI (sNl S + 1)
/-- no item's number -/
abbrev oI (n : Nat) (k : Int32) : Prop := k < 0 ∨ nI n ≤ k
abbrev kT (kd : Int32) : Prop := kd = 3 ∨ kd = 4 ∨ kd = 5
abbrev rg (n : Nat) (i k : Int32) : Prop := 0 ≤ i.toInt ∧ 0 ≤ k.toInt ∧ i.toInt + k.toInt ≤ (n : Int)
/-- items of a row of kind kf go into one of kind kd at all; item x does -/
abbrev mayT (kd kf : Int32) : Prop := ¬ (kd = 6 ∨ kf = 6) ∧ (kd = kf ∨ ¬ isN kd ∧ ¬ isN kf)
abbrev fitS (S : Sx) (kf x kd : Int32) : Prop := x = -1 ∨ (kf = 2 ∧ kd = 2) ∨ (¬ kf = 2 ∧ fT kd (sCl S (ix x)))
/-- the first of d numbers from t on that is not so -/
def preN (b : Nat → Bool) : Nat → Nat → Nat
  | 0, t => t
  | d + 1, t => if b t then preN b d (t + 1) else t
theorem preN_spec (b : Nat → Bool) : ∀ (d t : Nat), t ≤ preN b d t ∧ preN b d t ≤ t + d ∧ (∀ k, t ≤ k → k < preN b d t → b k = true) ∧ (preN b d t < t + d → b (preN b d t) = false)
  | 0, t => ⟨Nat.le_refl _, Nat.le_refl _, fun k h1 h2 => absurd h2 (Nat.not_lt.mpr h1), fun h => absurd h (Nat.lt_irrefl _)⟩
  | d + 1, t => by
    simp only [preN]
    cases h : b t with
    | false => simp only [Bool.false_eq_true, if_false]; exact ⟨Nat.le_refl _, by omega, fun k h1 h2 => absurd h2 (Nat.not_lt.mpr h1), fun _ => h⟩
    | true =>
      simp only [if_true]
      obtain ⟨h1, h2, h3, h4⟩ := preN_spec b d (t + 1)
      refine ⟨by omega, by omega, fun k g1 g2 => ?_, fun g => h4 (by omega)⟩
      rcases Nat.lt_or_ge t k with q | q
      · exact h3 k q g2
      · rw [show k = t by omega]; exact h
theorem preN_uniq {b : Nat → Bool} {n c : Nat} (h1 : c ≤ n) (h2 : ∀ k, k < c → b k = true) (h3 : c < n → b c = false) : c = preN b n 0 := by
  obtain ⟨g1, g2, g3, g4⟩ := preN_spec b n 0
  rcases Nat.lt_trichotomy c (preN b n 0) with q | q | q
  · have e1 := g3 c (Nat.zero_le _) q
    have e2 := h3 (by omega)
    rw [e1] at e2; cases e2
  · exact q
  · have e1 := h2 _ q
    have e2 := g4 (by omega)
    rw [e1] at e2; cases e2
abbrev fitB (S : Sx) (kf kd : Int32) (f : Nat → Int32) (i : Nat) : Nat → Bool := fun k => decide (fitS S kf (f (i + k)) kd)
def sp_code (S : Sx) : Int32 × Sx := (sCod S, S)
def sp_make (S : Sx) (p k n : Int32) : Int32 × Sx := if oP p ∨ k < 0 ∨ 5 < k ∨ ¬ n ≤ 40 then (xOut, S) else if ¬ 0 ≤ n then (0, uCod S 4) else (n, uCod (uPl (uNew S k (ix n) (ini k)) (ix p) (nI (sNr S))) 0)
def sp_share (S : Sx) (p o : Int32) : Int32 × Sx := if oP p ∨ oP o then (xOut, S) else (kp S (pv S o), uPl S (ix p) (pv S o))
def sp_nothing (S : Sx) (p : Int32) : Int32 × Sx := if oP p then (xOut, S) else (kp S (pv S p), uPl S (ix p) (-1))
def sp_lump (S : Sx) (p : Int32) : Int32 × Sx := if oP p then (xOut, S) else (1, uPl (uLu S) (ix p) (luv S))
def sp_kind (S : Sx) (p : Int32) : Int32 × Sx := if oP p then (xOut, S) else (kp S (pv S p), S)
def sp_length (S : Sx) (p : Int32) : Int32 × Sx := if oP p then (xOut, S) else if pv S p = -1 then (0, uCod S 1) else if kdv S (pv S p) = 6 then (0, uCod S 5) else (nI (lnv S (pv S p)), uCod S 0)
def sp_set (S : Sx) (p k x : Int32) : Int32 × Sx := if oP p then (xOut, S) else if pv S p = -1 then (0, uCod S 1) else if ¬ isN (kdv S (pv S p)) then (0, uCod S 5) else if oI (lnv S (pv S p)) k then (0, uCod S 3) else
  (itv S (pv S p) (ix k), uCod (uRow S (ix (pv S p)) (upd (itv S (pv S p)) (ix k) (if kdv S (pv S p) = 0 then x.toInt8.toInt32 else x))) 0)
def sp_thing (S : Sx) (p k c x : Int32) : Int32 × Sx := if oP p ∨ c < -1 ∨ ¬ c ≤ 2 then (xOut, S) else if pv S p = -1 then (0, uCod S 1) else if ¬ kT (kdv S (pv S p)) then (0, uCod S 5) else if oI (lnv S (pv S p)) k then (0, uCod S 3) else if ¬ (c = -1 ∨ fT (kdv S (pv S p)) c) then (0, uCod S 2) else
  if c = -1 then (1, uCod (uRow S (ix (pv S p)) (upd (itv S (pv S p)) (ix k) (-1))) 0) else (1, uCod (uRow (uTh S c x) (ix (pv S p)) (upd (itv S (pv S p)) (ix k) (nI (sNt S)))) 0)
def sp_hang (S : Sx) (p k o : Int32) : Int32 × Sx := if oP p ∨ oP o then (xOut, S) else if pv S p = -1 then (0, uCod S 1) else if ¬ kdv S (pv S p) = 2 then (0, uCod S 5) else if ¬ (pv S o = -1 ∨ kdv S (pv S o) = 1) then (0, uCod S 5) else if oI (lnv S (pv S p)) k then (0, uCod S 3) else
  (1, uCod (uRow S (ix (pv S p)) (upd (itv S (pv S p)) (ix k) (pv S o))) 0)
def sp_item (S : Sx) (p k : Int32) : Int32 × Sx := if oP p then (xOut, S) else if pv S p = -1 then (0, uCod S 1) else if kdv S (pv S p) = 6 then (0, uCod S 5) else if oI (lnv S (pv S p)) k then (0, uCod S 3) else
  if isN (kdv S (pv S p)) then (itv S (pv S p) (ix k), uCod S 0) else if itv S (pv S p) (ix k) = -1 then (0, uCod S 1) else (if kdv S (pv S p) = 2 then nI (lnv S (itv S (pv S p) (ix k))) else sNu S (ix (itv S (pv S p) (ix k))), uCod S 0)
def sp_classOf (S : Sx) (p k : Int32) : Int32 × Sx := if oP p then (xOut, S) else if pv S p = -1 then (0, uCod S 1) else if ¬ kT (kdv S (pv S p)) then (0, uCod S 5) else if oI (lnv S (pv S p)) k then (0, uCod S 3) else
  (if itv S (pv S p) (ix k) = -1 then -1 else sCl S (ix (itv S (pv S p) (ix k))), uCod S 0)
def mvN (S : Sx) (u v : Int32) (i n : Nat) : Nat := if isN (kdv S v) then n else preN (fitB S (kdv S u) (kdv S v) (itv S u) i) n 0
def sp_move (S : Sx) (x i y j n : Int32) : Int32 × Sx := if oP x ∨ oP y then (xOut, S) else if pv S x = -1 ∨ pv S y = -1 then (0, uCod S 1) else if ¬ mayT (kdv S (pv S y)) (kdv S (pv S x)) then (0, uCod S 2) else if ¬ rg (lnv S (pv S x)) i n ∨ ¬ rg (lnv S (pv S y)) j n then (0, uCod S 3) else
  (nI (mvN S (pv S x) (pv S y) (ix i) (ix n)), uCod (uRow S (ix (pv S y)) (va_cpy (itv S (pv S x)) (itv S (pv S y)) (ix i) (ix j) (mvN S (pv S x) (pv S y) (ix i) (ix n)))) (if mvN S (pv S x) (pv S y) (ix i) (ix n) < ix n then 2 else 0))
def lpS (u v i j : Int32) : Nat → Nat → Sx → Int32 × Sx
  | 0, t, S => (nI t, uCod S 0)
  | d + 1, t, S => if oI (lnv S u) (i + nI t) ∨ oI (lnv S v) (j + nI t) then (nI t, uCod S 3) else if ¬ (isN (kdv S v) ∨ fitS S (kdv S u) (itv S u (ix (i + nI t))) (kdv S v)) then (nI t, uCod S 2) else
    lpS u v i j d (t + 1) (uRow S (ix v) (upd (itv S v) (ix (j + nI t)) (itv S u (ix (i + nI t)))))
def sp_loop (S : Sx) (x i y j n : Int32) : Int32 × Sx := if oP x ∨ oP y then (xOut, S) else if pv S x = -1 ∨ pv S y = -1 then (0, uCod S 1) else if ¬ mayT (kdv S (pv S y)) (kdv S (pv S x)) then (0, uCod S 2) else lpS (pv S x) (pv S y) i j (ix n) 0 S
def sp_copy (S : Sx) (p o : Int32) : Int32 × Sx := if oP p ∨ oP o then (xOut, S) else if pv S o = -1 then (0, uCod S 1) else if kdv S (pv S o) = 6 then (0, uCod S 5) else
  (nI (lnv S (pv S o)), uCod (uPl (uNew S (kdv S (pv S o)) (lnv S (pv S o)) (va_cpy (itv S (pv S o)) (ini (kdv S (pv S o))) 0 0 (lnv S (pv S o)))) (ix p) (nI (sNr S))) 0)
def sp_slice (S : Sx) (p o i n : Int32) : Int32 × Sx := if oP p ∨ oP o then (xOut, S) else if pv S o = -1 then (0, uCod S 1) else if kdv S (pv S o) = 6 then (0, uCod S 5) else if ¬ 0 ≤ n then (0, uCod S 4) else if ¬ rg (lnv S (pv S o)) i n then (0, uCod S 3) else
  (n, uCod (uPl (uNew S (kdv S (pv S o)) (ix n) (va_cpy (itv S (pv S o)) (ini (kdv S (pv S o))) (ix i) 0 (ix n))) (ix p) (nI (sNr S))) 0)
def sp_join (S : Sx) (p a b : Int32) : Int32 × Sx := if oP p ∨ oP a ∨ oP b then (xOut, S) else if pv S a = -1 ∨ pv S b = -1 then (0, uCod S 1) else if kdv S (pv S a) = 6 ∨ kdv S (pv S b) = 6 then (0, uCod S 5) else if ¬ lnv S (pv S a) + lnv S (pv S b) ≤ 40 then (0, uCod S 3) else if ¬ mayT (kdv S (pv S a)) (kdv S (pv S b)) ∨ mvN S (pv S b) (pv S a) 0 (lnv S (pv S b)) < lnv S (pv S b) then (0, uCod S 2) else
  (nI (lnv S (pv S a) + lnv S (pv S b)), uCod (uPl (uNew S (kdv S (pv S a)) (lnv S (pv S a) + lnv S (pv S b)) (va_cpy (itv S (pv S b)) (va_cpy (itv S (pv S a)) (ini (kdv S (pv S a))) 0 0 (lnv S (pv S a))) 0 (lnv S (pv S a)) (lnv S (pv S b)))) (ix p) (nI (sNr S))) 0)
def upS (v q u : Int32) : Nat → Nat → Sx → Int32 × Sx
  | 0, t, S => (nI t, uCod S 0)
  | d + 1, t, S => if oI (lnv S u) (itv S q t) ∨ oI (lnv S v) (itv S q t) then (nI t, uCod S 3) else upS v q u d (t + 1) (uRow S (ix v) (upd (itv S v) (ix (itv S q t)) (itv S u (ix (itv S q t)))))
def sp_update (S : Sx) (p q u : Int32) : Int32 × Sx := if oP p ∨ oP q ∨ oP u then (xOut, S) else if pv S p = -1 ∨ pv S q = -1 ∨ pv S u = -1 then (0, uCod S 1) else if ¬ (kdv S (pv S p) = 1 ∧ kdv S (pv S q) = 1 ∧ kdv S (pv S u) = 1) then (0, uCod S 5) else upS (pv S p) (pv S q) (pv S u) (lnv S (pv S q)) 0 S
def rotI (b : Int32) (n : Nat) : Nat := (b.toInt % (n : Int)).toNat
def rotF (f : Nat → Int32) (n st : Nat) : Nat → Int32 := fun k => if k < n then f ((k + (n - st)) % n) else f k
def sp_rotate (S : Sx) (p b : Int32) : Int32 × Sx := if oP p then (xOut, S) else if pv S p = -1 then (0, uCod S 1) else if kdv S (pv S p) = 6 then (0, uCod S 5) else if lnv S (pv S p) = 0 then (0, uCod S 6) else
  (nI (rotI b (lnv S (pv S p))), uCod (uRow S (ix (pv S p)) (rotF (itv S (pv S p)) (lnv S (pv S p)) (rotI b (lnv S (pv S p))))) 0)
def smT (S : Sx) (f : Nat → Int32) : Nat → Nat → Int32 → Int32 × Sx
  | 0, _, acc => (acc, uCod S 0)
  | d + 1, t, acc => if f t = -1 then (0, uCod S 1) else smT S f d (t + 1) (acc + sumF (itv S (f t)) (lnv S (f t)))
def sp_sum (S : Sx) (p : Int32) : Int32 × Sx := if oP p then (xOut, S) else if pv S p = -1 then (0, uCod S 1) else if ¬ (isN (kdv S (pv S p)) ∨ kdv S (pv S p) = 2) then (0, uCod S 5) else if kdv S (pv S p) = 2 then smT S (itv S (pv S p)) (lnv S (pv S p)) 0 0 else (sumF (itv S (pv S p)) (lnv S (pv S p)), uCod S 0)
def sp_mean (S : Sx) (p : Int32) : Int32 × Sx := if oP p then (xOut, S) else if pv S p = -1 then (0, uCod S 1) else if ¬ isN (kdv S (pv S p)) then (0, uCod S 5) else if lnv S (pv S p) = 0 then (0, uCod S 6) else (sumF (itv S (pv S p)) (lnv S (pv S p)) / nI (lnv S (pv S p)), uCod S 0)
def sp_same (S : Sx) (a b : Int32) : Int32 × Sx := if oP a ∨ oP b then (xOut, S) else (if pv S a = pv S b then 1 else 0, S)
def sp_equal (S : Sx) (a b : Int32) : Int32 × Sx := if oP a ∨ oP b then (xOut, S) else if pv S a = pv S b then (1, S) else if pv S a = -1 ∨ pv S b = -1 ∨ kdv S (pv S a) = 6 then (0, S) else (if kdv S (pv S a) = kdv S (pv S b) ∧ lnv S (pv S a) = lnv S (pv S b) ∧ ∀ k, k < lnv S (pv S a) → itv S (pv S a) k = itv S (pv S b) k then 1 else 0, S)
def sp_compare (S : Sx) (a b : Int32) : Int32 × Sx := if oP a ∨ oP b then (xOut, S) else if pv S a = -1 ∨ pv S b = -1 then (0, uCod S 1) else if ¬ isN (kdv S (pv S a)) ∨ ¬ kdv S (pv S a) = kdv S (pv S b) then (0, uCod S 5) else (cmpF (itv S (pv S a)) (itv S (pv S b)) (lnv S (pv S a)) (lnv S (pv S b)) (lnv S (pv S a)) 0, uCod S 0)
def cntI (f : Nat → Int32) (v : Int32) : Nat → Nat
  | 0 => 0
  | n + 1 => cntI f v n + if f n = v then 1 else 0
abbrev frs (S : Sx) (p : Nat) : Prop := ∀ q, q < p → ¬ sPl S q = sPl S p
def hldF (S : Sx) (v : Int32) : Nat → Nat
  | 0 => 0
  | p + 1 => hldF S v p + (if sPl S p = v then 1 else 0) + (if ¬ sPl S p = -1 ∧ kdv S (sPl S p) = 2 ∧ frs S p then cntI (itv S (sPl S p)) v (lnv S (sPl S p)) else 0)
def sp_held (S : Sx) (p : Int32) : Int32 × Sx := if oP p then (xOut, S) else if pv S p = -1 then (0, S) else (nI (hldF S (pv S p) 12), S)
/-! words for the walks -/
theorem isP_nat {p : Int32} (h : ¬ oP p) : ∃ j : Nat, j < 12 ∧ p = nI j := by
  have h1 : ¬ p < 0 := fun q => h (Or.inl q)
  have h2 : p < 12 := Classical.byContradiction fun q => h (Or.inr q)
  obtain ⟨j, hj, rfl⟩ := nI_of h1
  refine ⟨j, ?_, rfl⟩
  exact (nI_ltI hj (by decide : 12 < 2 ^ 31)).mp h2
theorem oI_nat {n : Nat} {k : Int32} (hn : n ≤ 40) (h : ¬ oI n k) : ∃ j : Nat, j < n ∧ k = nI j := by
  have h1 : ¬ k < 0 := fun q => h (Or.inl q)
  have h2 : ¬ nI n ≤ k := fun q => h (Or.inr q)
  obtain ⟨j, hj, rfl⟩ := nI_of h1
  refine ⟨j, ?_, rfl⟩
  exact Nat.not_le.mp fun q => h2 ((nI_leI (by omega) hj).mpr q)
theorem pv_nI {S : Sx} {j : Nat} (h : j < 12) : pv S (nI j) = sPl S j := by unfold pv; rw [ix_nI (by omega)]
theorem Wf.pl {S : Sx} (hW : Wf S) (D : Ad) (j : Nat) : (sPl S j = -1 ∧ plO D (sPl S j) = none) ∨ (¬ sPl S j = -1 ∧ vO S (sPl S j) ∧ plO D (sPl S j) = some (aR D (sPl S j))) := by
  rcases hW.1 j with h | h
  · exact Or.inl ⟨h, by unfold plO; rw [if_pos h]⟩
  · by_cases e : sPl S j = -1
    · exact Or.inl ⟨e, by unfold plO; rw [if_pos e]⟩
    · exact Or.inr ⟨e, h, by unfold plO; rw [if_neg e]⟩
theorem vL_neg {S : Sx} {v : Int32} (h : vL S v) : v < 0 := by
  rw [Int32.lt_iff_toInt_lt]
  have := h.1
  simp; omega
theorem vO_row {S : Sx} {v : Int32} (h : vO S v) (hk : ¬ kdv S v = 6) : vR S v := by
  rcases h with h | h
  · exact h
  · exact absurd (by unfold kdv; rw [if_pos (vL_neg h)]) hk
theorem Wf.row {S : Sx} (hW : Wf S) {v : Int32} (h : vR S v) : (0 ≤ kdv S v ∧ kdv S v ≤ 5) ∧ lnv S v ≤ 40 ∧ (kdv S v = 2 → ∀ k, itv S v k = -1 ∨ (vR S (itv S v k) ∧ kdv S (itv S v k) = 1)) ∧ (3 ≤ kdv S v → ∀ k, itv S v k = -1 ∨ vT S (itv S v k)) := by
  have h2 := hW.2.1 (ix v) h.2
  have e1 : kdv S v = sKd S (ix v) := by unfold kdv; rw [if_neg h.1]
  have e2 : lnv S v = sLn S (ix v) := by unfold lnv; rw [if_neg h.1]
  have e3 : itv S v = sIt S (ix v) := by unfold itv; rw [if_neg h.1]
  rw [e1, e2, e3]
  refine ⟨h2.1, h2.2.1, fun hk k => ?_, h2.2.2.2⟩
  rcases h2.2.2.1 hk k with q | ⟨q1, q2⟩
  · exact Or.inl q
  · exact Or.inr ⟨q1, by unfold kdv; rw [if_neg q1.1]; exact q2⟩
theorem kd_eq {x : Int32} {n : Int} (h : x.toInt = n) {y : Int32} (hy : y.toInt = n) : x = y := Int32.toInt_inj.mp (h.trans hy.symm)
/-- the kinds, one by one -/
theorem kd_cases {k : Int32} (h0 : 0 ≤ k) (h6 : k ≤ 6) : k = 0 ∨ k = 1 ∨ k = 2 ∨ k = 3 ∨ k = 4 ∨ k = 5 ∨ k = 6 := by
  rw [Int32.le_iff_toInt_le] at h0 h6
  have a : (0 : Int32).toInt = 0 := by decide
  have b : (6 : Int32).toInt = 6 := by decide
  rw [a] at h0
  rw [b] at h6
  have : k.toInt = 0 ∨ k.toInt = 1 ∨ k.toInt = 2 ∨ k.toInt = 3 ∨ k.toInt = 4 ∨ k.toInt = 5 ∨ k.toInt = 6 := by omega
  rcases this with h | h | h | h | h | h | h
  · exact Or.inl (kd_eq h (by decide))
  · exact Or.inr (Or.inl (kd_eq h (by decide)))
  · exact Or.inr (Or.inr (Or.inl (kd_eq h (by decide))))
  · exact Or.inr (Or.inr (Or.inr (Or.inl (kd_eq h (by decide)))))
  · exact Or.inr (Or.inr (Or.inr (Or.inr (Or.inl (kd_eq h (by decide))))))
  · exact Or.inr (Or.inr (Or.inr (Or.inr (Or.inr (Or.inl (kd_eq h (by decide)))))))
  · exact Or.inr (Or.inr (Or.inr (Or.inr (Or.inr (Or.inr (kd_eq h (by decide)))))))
theorem Wf.kd {S : Sx} (hW : Wf S) {v : Int32} (h : vO S v) : 0 ≤ kdv S v ∧ kdv S v ≤ 6 := by
  rcases h with h | h
  · have := (hW.row h).1
    refine ⟨this.1, ?_⟩
    have h5 := this.2
    rw [Int32.le_iff_toInt_le] at h5 ⊢
    have a : (5 : Int32).toInt = 5 := by decide
    have b : (6 : Int32).toInt = 6 := by decide
    rw [a] at h5
    rw [b]
    omega
  · unfold kdv
    rw [if_pos (vL_neg h)]
    decide
theorem Wf.ln {S : Sx} (hW : Wf S) {v : Int32} (h : vO S v) : lnv S v ≤ 40 := by
  rcases h with h | h
  · exact (hW.row h).2.1
  · unfold lnv; rw [if_pos (vL_neg h)]; decide
theorem Rp.num {E : En} {S : Sx} {D : Ad} {w : Wd} (h : Rp E S D w) {v : Int32} (hv : vO S v) (hk : isN (kdv S v)) : w (aN D v) = some (eI E (lnv S v) (itv S v)) := by
  have q := (h.2.2.1 v hv).2.1
  have e1 : nz (kdv S v) (lnv S v) = lnv S v := if_pos hk
  have e2 : nuv S v = itv S v := by unfold nuv; rw [if_pos hk]
  rw [e1, e2] at q
  exact q
theorem Rp.par {E : En} {S : Sx} {D : Ad} {w : Wd} (h : Rp E S D w) {v : Int32} (hv : vO S v) (hk : ¬ isN (kdv S v)) : w (aQ D v) = some (eP E (lnv S v) (fun k => pO D (kdv S v) (itv S v k))) := by
  have q := (h.2.2.1 v hv).2.2
  have e1 : pz (kdv S v) (lnv S v) = lnv S v := if_neg hk
  have e2 : pav S D v = fun k => pO D (kdv S v) (itv S v k) := by unfold pav; rw [if_neg hk]
  rw [e1, e2] at q
  exact q
/-- the end of a call of the class -/
def PoC (E : En) (D : Ad) (o : Int32 × Sx) (r : Option Value) (w' : Wd) : Prop := r = some (.int o.1) ∧ ∃ D' : Ad, aH D' = aH D ∧ Rp E o.2 D' w'
theorem PoC.of {E : En} {D D' : Ad} {o : Int32 × Sx} {r0 : Int32} {S0 : Sx} {w' : Wd} (h : o = (r0, S0)) (hR : Rp E S0 D' w') (hD : aH D' = aH D) : PoC E D o (some (.int r0)) w' := by
  subst h
  exact ⟨rfl, D', hD, hR⟩
/-- masks of kinds -/
def msk (mask : Int32) (K : Int32 → Prop) : Prop := ∀ k : Int32, (k = 0 ∨ k = 1 ∨ k = 2 ∨ k = 3 ∨ k = 4 ∨ k = 5 ∨ k = 6) → ((mask >>> (k &&& 31)) &&& 1 = 0 ↔ ¬ K k)
theorem msk3 : msk 3 isN := by rintro k (rfl | rfl | rfl | rfl | rfl | rfl | rfl) <;> decide
theorem msk7 : msk 7 (fun k => isN k ∨ k = 2) := by rintro k (rfl | rfl | rfl | rfl | rfl | rfl | rfl) <;> decide
theorem msk56 : msk 56 kT := by rintro k (rfl | rfl | rfl | rfl | rfl | rfl | rfl) <;> decide
theorem msk63 : msk 63 (fun k => ¬ k = 6) := by rintro k (rfl | rfl | rfl | rfl | rfl | rfl | rfl) <;> decide
theorem msk4 : msk 4 (fun k => k = 2) := by rintro k (rfl | rfl | rfl | rfl | rfl | rfl | rfl) <;> decide
end
section
/-! rows, lumps, things that come; items of rows of objects -/
theorem nI_inj {a b : Nat} (ha : a < 2 ^ 31) (hb : b < 2 ^ 31) (h : nI a = nI b) : a = b := (nI_eq ha hb).mp h
theorem nI_nm1 {a : Nat} (ha : a < 2 ^ 31) : nI a ≠ -1 := fun e => by
  have h := nI_pos ha
  rw [e] at h
  exact h (by decide)
theorem not_vL_nI {S : Sx} {n : Nat} (h : n < 2 ^ 31) : ¬ vL S (nI n) := fun q => nI_pos h (vL_neg q)
theorem Rp.new {E : En} {S : Sx} {D : Ad} {w w' : Wd} {q na qa n : Nat} {kd : Int32} {f : Nat → Int32} (h : Rp E S D w) (hW : Wf S) (hb : sNr S < 512) (hN : NewRow E w w' q na qa kd n (nz kd n) (if isN kd then f else fun _ => 0) (pz kd n) (if isN kd then fun _ => none else fun k => pO D kd (f k))) (hfi : kd = 2 → ∀ k, f k = -1 ∨ vR S (f k)) : Rp E (uNew S kd n f) (adR D (nI (sNr S)) q na qa) w' ∧ vR (uNew S kd n f) (nI (sNr S)) ∧ lnv (uNew S kd n f) (nI (sNr S)) = n ∧ aR (adR D (nI (sNr S)) q na qa) (nI (sNr S)) = q := by
  have hb1 : sNr S < 2 ^ 31 := by omega
  have hp := nI_pos hb1
  have hix : ix (nI (sNr S)) = sNr S := ix_nI hb1
  have hnv : ¬ vR S (nI (sNr S)) := fun e => by have := e.2; rw [hix] at this; omega
  have hnO : ¬ vO S (nI (sNr S)) := fun e => e.elim hnv (not_vL_nI hb1)
  have hl : lnv (uNew S kd n f) (nI (sNr S)) = n := by
    unfold lnv
    rw [if_neg hp, hix]
    simp [va_up, sLn, uNew]
  refine ⟨h.grow (S' := uNew S kd n f) (v := nI (sNr S)) (n := n) (f := f) hW hN hnO (nI_nm1 hb1) (fun u hu => ?_) ?_ hl ?_ (fun u hu => ?_) rfl rfl rfl rfl rfl rfl rfl (fun e k => ?_), ⟨hp, ?_⟩, hl, if_pos rfl⟩
  · rcases hu with hu | hu
    · by_cases e : ix u = sNr S
      · exact Or.inl (by rw [← e, nI_ix hu.1])
      · refine Or.inr (Or.inl ⟨hu.1, ?_⟩)
        have h9 : ix u < sNr S + 1 := hu.2
        omega
    · exact Or.inr (Or.inr hu)
  · unfold kdv
    rw [if_neg hp, hix]
    simp [upd, sKd, uNew]
  · unfold itv
    rw [if_neg hp, hix]
    simp [va_up, sIt, uNew]
  · rcases hu with hu | hu
    · have hne : ¬ ix u = S.2.2.1 := fun e => by have := hu.2; rw [e] at this; exact Nat.lt_irrefl _ this
      refine ⟨?_, ?_, ?_⟩
      · unfold kdv; rw [if_neg hu.1, if_neg hu.1]; simp [upd, sKd, uNew, hne]
      · unfold lnv; rw [if_neg hu.1, if_neg hu.1]; simp [va_up, sLn, uNew, hne]
      · unfold itv; rw [if_neg hu.1, if_neg hu.1]; simp [va_up, sIt, uNew, hne]
    · have hn := vL_neg hu
      refine ⟨?_, ?_, ?_⟩
      · unfold kdv; rw [if_pos hn, if_pos hn]
      · unfold lnv; rw [if_pos hn, if_pos hn]
      · unfold itv; rw [if_pos hn, if_pos hn]
  · rcases hfi e k with q | q
    · rw [q]; exact (nI_nm1 hb1).symm
    · intro e2; exact hnv (e2 ▸ q)
  · rw [hix]; exact Nat.lt_succ_self _
theorem isN6 : ¬ isN 6 := by decide
theorem luv_toInt {S : Sx} (hb : sNl S < 512) : (luv S).toInt = -2 - (sNl S : Int) := by
  unfold luv
  rw [Int32.toInt_sub]
  have e1 : (nI (sNl S + 1)).toInt = ((sNl S + 1 : Nat) : Int) := nI_toInt (by omega)
  rw [e1, show (-1 : Int32).toInt = -1 by decide, Int.bmod_def]
  omega
theorem six_ne2 : ¬ (6 : Int32) = 2 := by decide
set_option maxRecDepth 100000 in
theorem Rp.lump {E : En} {S : Sx} {D : Ad} {w w' : Wd} {q na qa : Nat} (h : Rp E S D w) (hW : Wf S) (hb : sNl S < 512) (hN : NewRow E w w' q na qa 6 0 0 (fun _ => 0) 0 (fun _ => none)) : Rp E (uLu S) (adR D (luv S) q na qa) w' ∧ vO (uLu S) (luv S) ∧ aR (adR D (luv S) q na qa) (luv S) = q ∧ luv S ≠ -1 := by
  have ht := luv_toInt hb
  have hneg : luv S < 0 := by
    rw [Int32.lt_iff_toInt_lt, ht]
    simp; omega
  have hnO : ¬ vO S (luv S) := by
    intro e
    rcases e with e | e
    · exact e.1 hneg
    · have := e.2; rw [ht] at this; omega
  have hm1 : luv S ≠ -1 := fun e => by
    rw [e] at ht
    have : (-1 : Int32).toInt = -1 := by decide
    rw [this] at ht
    omega
  refine ⟨h.grow (S' := uLu S) (v := luv S) (kd := 6) (n := 0) (f := fun _ => -1) (f1 := fun _ => 0) (g1 := fun _ => none) hW (by rw [show nz 6 0 = 0 from if_neg isN6, show pz 6 0 = 0 from if_neg isN6]; exact hN) hnO hm1 (fun u hu => ?_) ?_ ?_ ?_ (fun u hu => ⟨rfl, rfl, rfl⟩) rfl rfl rfl rfl rfl (if_neg isN6).symm ?_ (fun e => absurd e six_ne2), Or.inr ⟨?_, ?_⟩, ?_, hm1⟩
  · rcases hu with hu | hu
    · exact Or.inr (Or.inl hu)
    · by_cases e : u.toInt = (luv S).toInt
      · exact Or.inl (Int32.toInt_inj.mp e)
      · refine Or.inr (Or.inr ⟨hu.1, ?_⟩)
        have h9 : -1 - ((sNl S + 1 : Nat) : Int) ≤ u.toInt := hu.2
        rw [ht] at e
        omega
  · unfold kdv; rw [if_pos hneg]
  · unfold lnv; rw [if_pos hneg]
  · unfold itv; rw [if_pos hneg]
  · rw [if_neg isN6]
    funext k
    unfold pO
    rw [if_pos rfl]
  · rw [ht]; omega
  · rw [ht]
    show -1 - ((sNl S + 1 : Nat) : Int) ≤ _
    omega
  · generalize luv S = u
    exact if_pos rfl
theorem Wf.part {S : Sx} (hW : Wf S) (D : Ad) {v : Int32} (hv : vR S v) (hk : ¬ isN (kdv S v)) (k : Nat) : (itv S v k = -1 ∧ pO D (kdv S v) (itv S v k) = none) ∨ (¬ itv S v k = -1 ∧ kdv S v = 2 ∧ vR S (itv S v k) ∧ kdv S (itv S v k) = 1 ∧ pO D (kdv S v) (itv S v k) = some (aR D (itv S v k))) ∨ (¬ itv S v k = -1 ∧ ¬ kdv S v = 2 ∧ vT S (itv S v k) ∧ pO D (kdv S v) (itv S v k) = some (aT D (itv S v k))) := by
  obtain ⟨h1, -, h2, h3⟩ := hW.row hv
  by_cases e : itv S v k = -1
  · exact Or.inl ⟨e, by unfold pO; rw [if_pos e]⟩
  · by_cases e2 : kdv S v = 2
    · have := (h2 e2 k).resolve_left e
      exact Or.inr (Or.inl ⟨e, e2, this.1, this.2, by unfold pO; rw [if_neg e, if_pos e2]⟩)
    · have h3le : 3 ≤ kdv S v := by
        rcases kd_cases (hW.kd (Or.inl hv)).1 (hW.kd (Or.inl hv)).2 with q | q | q | q | q | q | q <;> simp_all
      exact Or.inr (Or.inr ⟨e, e2, (h3 h3le k).resolve_left e, by unfold pO; rw [if_neg e, if_neg e2]⟩)
theorem Rp.ok {E : En} {S : Sx} {D : Ad} {w : Wd} (h : Rp E S D w) (hW : Wf S) {v : Int32} (hv : vR S v) (hk : ¬ isN (kdv S v)) (k : Nat) : okW w (pO D (kdv S v) (itv S v k)) := by
  rcases hW.part D hv hk k with ⟨-, e⟩ | ⟨-, -, hx, -, e⟩ | ⟨-, -, hx, e⟩ <;> rw [e]
  · intro b q; cases q
  · intro b q; cases q
    exact Or.inr ⟨_, _, _, _, (h.2.2.1 _ (Or.inl hx)).1⟩
  · intro b q; cases q
    exact Or.inl ⟨_, _, h.2.2.2.1 _ hx⟩
theorem Rp.fit {E : En} {S : Sx} {D : Ad} {w : Wd} (h : Rp E S D w) (hW : Wf S) {v : Int32} (hv : vR S v) (hk : ¬ isN (kdv S v)) (k : Nat) (kd : Int32) : fitW w kd (pO D (kdv S v) (itv S v k)) ↔ fitS S (kdv S v) (itv S v k) kd := by
  rcases hW.part D hv hk k with ⟨e0, e⟩ | ⟨e0, e2, hx, -, e⟩ | ⟨e0, e2, hx, e⟩ <;> rw [e]
  · exact ⟨fun _ => Or.inl e0, fun _ => fitW_none⟩
  · rw [fitW_row (h.2.2.1 _ (Or.inl hx)).1]
    constructor
    · intro q; exact Or.inr (Or.inl ⟨e2, q⟩)
    · rintro (q | q | q)
      · exact absurd q e0
      · exact q.2
      · exact absurd e2 q.1
  · rw [fitW_th (h.2.2.2.1 _ hx)]
    constructor
    · intro q; exact Or.inr (Or.inr ⟨e2, q⟩)
    · rintro (q | q | q)
      · exact absurd q e0
      · exact absurd q.1 e2
      · exact q.2
theorem row_of_N {S : Sx} {v : Int32} (hv : vO S v) (hk : isN (kdv S v)) : vR S v := vO_row hv (fun e => by rw [e] at hk; exact isN6 hk)
theorem has_no {n : Nat} {k : Int32} (h : ¬ (¬ k < 0 ∧ ¬ nI n ≤ k)) : oI n k := Classical.byContradiction fun q => h ⟨fun a => q (Or.inl a), fun a => q (Or.inr a)⟩
theorem has_yes {n : Nat} {k : Int32} (h : ¬ k < 0 ∧ ¬ nI n ≤ k) : ¬ oI n k := fun q => q.elim h.1 h.2
end
section
set_option maxHeartbeats 4000000 in
set_option maxRecDepth 100000 in
theorem cc_X3_isOutside (l : Launch) (E : En) (A : Nat → Prop) (w : Wd) (p9 : Int32) : Ct l yX3_isOutside wsX3_isOutside ({ frames := 0, cells := 0, slots := 0, locals := 0 } : Room) E A w [.int p9] (fun r w' => w = w' ∧ (((oP p9) ∧ r = some (.int 1)) ∨ (¬ (oP p9) ∧ r = some (.int 0)))) 0 0 := by
  refine Met.ofW (cc := cX3_isOutside) (maxL := 1) (ret := (some .boolean)) (by decide) rfl ?_
  intro pp0 ee0 s m args below meth cc0 s₁ B hml hv
  obtain ⟨rfl, hT, hI, hA⟩ := hv
  have hx := B.exec
  have hb := B.bytes
  have hr := B.returns
  have hts := atoms_spec (ws := wsX3_isOutside) B.pre
  have hown : s.vm.findClass RX3 = some m.cls := findClass_of_methodNamed B.named
  have hlocks := B.notSynchronized
  have hS : va_S A s.heap s.heap [] := va_S.rf
  have hl := lv_entry ([.int p9]) (n := 1) (Nat.le_of_ble_eq_true rfl)
  rw [lg_entry_eq]
  generalize (lg_sl ([.int p9]) ++ List.replicate (1 - (lg_sl ([.int p9])).length) Slot.unset).toArray = ls at hl ⊢
  have hl : lv_has ls 1 [(0, .int p9)] := hl
  refine lv_iload_n hx hb dX3_isOutside_0 rfl (lv_at hl 0 rfl) ?_
  refine lv_if_lt (tgt := 10) hx hb dX3_isOutside_1 (by decide) (fun c_1 => ?_) (fun c_1 => ?_)
  · refine lv_iconst (v := 1) hx hb dX3_isOutside_10 (by decide) ?_
    refine lv_goto (tgt := 15) hx hb dX3_isOutside_11 (by decide) ?_
    exact re_z hx hb hr hlocks hT hA hS hI (by decide) (by refine ⟨rfl, Or.inl ⟨?_, rfl⟩⟩; grind) (Nat.le_of_ble_eq_true rfl) (Nat.le_of_ble_eq_true rfl) dX3_isOutside_15
  · refine lv_iload_n hx hb dX3_isOutside_4 rfl (lv_at hl 0 rfl) ?_
    refine lv_bipush (v := 12) hx hb dX3_isOutside_5 (by decide) ?_
    refine lv_icmp_lt (tgt := 14) hx hb dX3_isOutside_7 (by decide) (fun c_2 => ?_) (fun c_2 => ?_)
    · refine lv_iconst (v := 0) hx hb dX3_isOutside_14 (by decide) ?_
      exact re_z hx hb hr hlocks hT hA hS hI (by decide) (by refine ⟨rfl, Or.inr ⟨?_, rfl⟩⟩; grind) (Nat.le_of_ble_eq_true rfl) (Nat.le_of_ble_eq_true rfl) dX3_isOutside_15
    · refine lv_iconst (v := 1) hx hb dX3_isOutside_10 (by decide) ?_
      refine lv_goto (tgt := 15) hx hb dX3_isOutside_11 (by decide) ?_
      exact re_z hx hb hr hlocks hT hA hS hI (by decide) (by refine ⟨rfl, Or.inl ⟨?_, rfl⟩⟩; grind) (Nat.le_of_ble_eq_true rfl) (Nat.le_of_ble_eq_true rfl) dX3_isOutside_15

set_option maxHeartbeats 4000000 in
set_option maxRecDepth 100000 in
theorem cc_X3_kindOf_N (l : Launch) (E : En) (A : Nat → Prop) (w : Wd)  : Ct l yX3_kindOf wsX3_kindOf ({ frames := 0, cells := 0, slots := 0, locals := 0 } : Room) E A w [.null] (fun r w' => w = w' ∧ r = some (.int (-1))) 0 0 := by
  refine Met.ofW (cc := cX3_kindOf) (maxL := 1) (ret := (some .int)) (by decide) rfl ?_
  intro pp0 ee0 s m args below meth cc0 s₁ B hml hv
  obtain ⟨rfl, hT, hI, hA⟩ := hv
  have hx := B.exec
  have hb := B.bytes
  have hr := B.returns
  have hts := atoms_spec (ws := wsX3_kindOf) B.pre
  have hown : s.vm.findClass RX3 = some m.cls := findClass_of_methodNamed B.named
  have hlocks := B.notSynchronized
  have hS : va_S A s.heap s.heap [] := va_S.rf
  have hl := lv_entry ([.null]) (n := 1) (Nat.le_of_ble_eq_true rfl)
  rw [lg_entry_eq]
  generalize (lg_sl ([.null]) ++ List.replicate (1 - (lg_sl ([.null])).length) Slot.unset).toArray = ls at hl ⊢
  have hl : lv_has ls 1 [(0, .null)] := hl
  refine lv_aload_nN hx hb dX3_kindOf_0 rfl (lv_at hl 0 rfl) ?_
  refine lv_ifnonnullN hx hb dX3_kindOf_1 ?_
  refine lv_iconst (v := -1) hx hb dX3_kindOf_4 (by decide) ?_
  refine lv_goto (tgt := 12) hx hb dX3_kindOf_5 (by decide) ?_
  exact re_i hx hb hr hlocks hT hA hS hI (⟨rfl, rfl⟩) (Nat.le_of_ble_eq_true rfl) (Nat.le_of_ble_eq_true rfl) dX3_kindOf_12

set_option maxHeartbeats 4000000 in
set_option maxRecDepth 100000 in
theorem cc_X3_kindOf_R (l : Launch) (E : En) (A : Nat → Prop) (w : Wd) {h0 na qa : Nat} {kd ln : Int32} (hc : w h0 = some (eRow kd ln na qa)) : Ct l yX3_kindOf wsX3_kindOf ({ frames := 0, cells := 0, slots := 0, locals := 0 } : Room) E A w [.ref h0] (fun r w' => w = w' ∧ r = some (.int kd)) 0 0 := by
  refine Met.ofW (cc := cX3_kindOf) (maxL := 1) (ret := (some .int)) (by decide) rfl ?_
  intro pp0 ee0 s m args below meth cc0 s₁ B hml hv
  obtain ⟨rfl, hT, hI, hA⟩ := hv
  have hx := B.exec
  have hb := B.bytes
  have hr := B.returns
  have hts := atoms_spec (ws := wsX3_kindOf) B.pre
  have hown : s.vm.findClass RX3 = some m.cls := findClass_of_methodNamed B.named
  have hlocks := B.notSynchronized
  have in_X1 : ∀ w ∈ wsX10, w ∈ wsX3_kindOf := by decide +kernel
  have hS : va_S A s.heap s.heap [] := va_S.rf
  have hl := lv_entry ([.ref h0]) (n := 1) (Nat.le_of_ble_eq_true rfl)
  rw [lg_entry_eq]
  generalize (lg_sl ([.ref h0]) ++ List.replicate (1 - (lg_sl ([.ref h0])).length) Slot.unset).toArray = ls at hl ⊢
  have hl : lv_has ls 1 [(0, .ref h0)] := hl
  refine lv_aload_n hx hb dX3_kindOf_0 rfl (lv_at hl 0 rfl) ?_
  refine lv_ifnonnull (tgt := 8) hx hb dX3_kindOf_1 (by decide) ?_
  refine lv_aload_n hx hb dX3_kindOf_8 rfl (lv_at hl 0 rfl) ?_
  refine wr_get (ci := 0) (C := RX1) (T := TX1) (N := 4) (v := .int kd) hx hb hts in_X1 hown hT hI hc rfl 0 (by decide) (hts (.fieldLink RX3 53 "CopyRows$Row" "kind" "I") (by decide +kernel)) rfl dX3_kindOf_9 ?_
  exact re_i hx hb hr hlocks hT hA hS hI (⟨rfl, rfl⟩) (Nat.le_of_ble_eq_true rfl) (Nat.le_of_ble_eq_true rfl) dX3_kindOf_12

set_option maxHeartbeats 4000000 in
set_option maxRecDepth 100000 in
theorem cc_X3_fail (l : Launch) (E : En) (A : Nat → Prop) (w : Wd) {S : Sx} {D : Ad} (x : Int32) (hR : Rp E S D w) : Ct l yX3_fail wsX3_fail ({ frames := 0, cells := 0, slots := 0, locals := 0 } : Room) E A w [.ref (aH D), .int x] (fun r w' => r = some (.int 0) ∧ Rp E (uCod S x) D w') 0 0 := by
  refine Met.ofW (cc := cX3_fail) (maxL := 2) (ret := (some .int)) (by decide) rfl ?_
  intro pp0 ee0 s m args below meth cc0 s₁ B hml hv
  obtain ⟨rfl, hT, hI, hA⟩ := hv
  have hx := B.exec
  have hb := B.bytes
  have hr := B.returns
  have hts := atoms_spec (ws := wsX3_fail) B.pre
  have hown : s.vm.findClass RX3 = some m.cls := findClass_of_methodNamed B.named
  have hlocks := B.notSynchronized
  have in_X3 : ∀ w ∈ wsX30, w ∈ wsX3_fail := by decide +kernel
  have hS : va_S A s.heap s.heap [] := va_S.rf
  have hl := lv_entry ([.ref (aH D), .int x]) (n := 2) (Nat.le_of_ble_eq_true rfl)
  rw [lg_entry_eq]
  generalize (lg_sl ([.ref (aH D), .int x]) ++ List.replicate (2 - (lg_sl ([.ref (aH D), .int x])).length) Slot.unset).toArray = ls at hl ⊢
  have hl : lv_has ls 2 [(0, .ref (aH D)), (1, .int x)] := hl
  refine lv_aload_n hx hb dX3_fail_0 rfl (lv_at hl 0 rfl) ?_
  refine lv_iload_n hx hb dX3_fail_1 rfl (lv_at hl 1 rfl) ?_
  refine wr_put (ci := 2) (C := RX3) (T := TX3) (N := 2) (v := .int x) (ty := .int) hx hb hts in_X3 tyX3 tyX3_ok nmX3 hown hT hI hS hR.1 rfl 1 (by decide) (hts (.fieldLink RX3 15 "CopyRows" "code" "I") (by decide +kernel)) rfl (by decide +kernel) rfl rfl (Nat.le_of_ble_eq_true rfl) dX3_fail_2 (fun H locs hI hS => ?_)
  have hR := hR.cod (x)
  refine lv_iconst (v := 0) hx hb dX3_fail_5 (by decide) ?_
  exact re_i hx hb hr hlocks hT hA hS hI (⟨rfl, hR⟩) (Nat.le_of_ble_eq_true rfl) (Nat.le_of_ble_eq_true rfl) dX3_fail_6

set_option maxHeartbeats 4000000 in
set_option maxRecDepth 100000 in
theorem cc_X3_put (l : Launch) (E : En) (A : Nat → Prop) (w : Wd) {S : Sx} {D : Ad} {v : Int32} {j : Nat} (hj : j < 12) (hv : vO S v) (hv1 : ¬ v = -1) (hR : Rp E S D w) : Ct l yX3_put wsX3_put ({ frames := 0, cells := 0, slots := 0, locals := 0 } : Room) E A w [.ref (aH D), .int (nI j), .ref (aR D v)] (fun r w' => r = some (.int (nI (lnv S v))) ∧ Rp E (uCod (uPl S j v) 0) D w') 0 0 := by
  refine Met.ofW (cc := cX3_put) (maxL := 3) (ret := (some .int)) (by decide) rfl ?_
  intro pp0 ee0 s m args below meth cc0 s₁ B hml hv
  obtain ⟨rfl, hT, hI, hA⟩ := hv
  have hx := B.exec
  have hb := B.bytes
  have hr := B.returns
  have hts := atoms_spec (ws := wsX3_put) B.pre
  have hown : s.vm.findClass RX3 = some m.cls := findClass_of_methodNamed B.named
  have hlocks := B.notSynchronized
  have in_X1 : ∀ w ∈ wsX10, w ∈ wsX3_put := by decide +kernel
  have in_X3 : ∀ w ∈ wsX30, w ∈ wsX3_put := by decide +kernel
  have hS : va_S A s.heap s.heap [] := va_S.rf
  have hl := lv_entry ([.ref (aH D), .int (nI j), .ref (aR D v)]) (n := 3) (Nat.le_of_ble_eq_true rfl)
  rw [lg_entry_eq]
  generalize (lg_sl ([.ref (aH D), .int (nI j), .ref (aR D v)]) ++ List.replicate (3 - (lg_sl ([.ref (aH D), .int (nI j), .ref (aR D v)])).length) Slot.unset).toArray = ls at hl ⊢
  have hl : lv_has ls 3 [(0, .ref (aH D)), (1, .int (nI j)), (2, .ref (aR D v))] := hl
  have hpl : plO D v = some (aR D v) := if_neg hv1
  refine lv_aload_n hx hb dX3_put_0 rfl (lv_at hl 0 rfl) ?_
  refine wr_get (ci := 2) (C := RX3) (T := TX3) (N := 2) (v := .ref (aP D)) hx hb hts in_X3 hown hT hI hR.1 rfl 0 (by decide) (hts (.fieldLink RX3 11 "CopyRows" "places" "[LCopyRows$Row;") (by decide +kernel)) rfl dX3_put_1 ?_
  refine lv_iload_n hx hb dX3_put_4 rfl (lv_at hl 1 rfl) ?_
  refine lv_aload_n hx hb dX3_put_5 rfl (lv_at hl 2 rfl) ?_
  refine W.eq (g2 := F0 m 6 ls (va_rf (some (aR D v)) :: .int (nI j) :: .ref (aP D) :: [])) rfl ?_
  refine wr_aastV (t := j) (o := some (aR D v)) hx hb hT hI hS hR.2.1 2 rfl (fun v9 hv9 => by cases hv9; exact wr_any hT hI (hR.2.2.1 _ hv).1 (r := (RX1, TX1, 4)) rfl hT.2.2.2.2.2.2.2.2.2.1) (by omega) (by omega) dX3_put_6 (fun H locs hI hS => ?_)
  have hR := hR.pl j (v)
  rw [hpl] at hR
  refine lv_aload_n hx hb dX3_put_7 rfl (lv_at hl 0 rfl) ?_
  refine lv_iconst (v := 0) hx hb dX3_put_8 (by decide) ?_
  refine wr_put (ci := 2) (C := RX3) (T := TX3) (N := 2) (v := .int 0) (ty := .int) hx hb hts in_X3 tyX3 tyX3_ok nmX3 hown hT hI hS hR.1 rfl 1 (by decide) (hts (.fieldLink RX3 15 "CopyRows" "code" "I") (by decide +kernel)) rfl (by decide +kernel) rfl rfl (Nat.le_of_ble_eq_true rfl) dX3_put_9 (fun H locs hI hS => ?_)
  have hR := hR.cod (0)
  refine lv_aload_n hx hb dX3_put_12 rfl (lv_at hl 2 rfl) ?_
  refine wr_get (ci := 0) (C := RX1) (T := TX1) (N := 4) (v := .int (nI (lnv S (v)))) hx hb hts in_X1 hown hT hI (hR.2.2.1 _ hv).1 rfl 1 (by decide) (hts (.fieldLink RX3 43 "CopyRows$Row" "length" "I") (by decide +kernel)) rfl dX3_put_13 ?_
  exact re_i hx hb hr hlocks hT hA hS hI (⟨rfl, hR⟩) (Nat.le_of_ble_eq_true rfl) (Nat.le_of_ble_eq_true rfl) dX3_put_16

set_option maxHeartbeats 4000000 in
set_option maxRecDepth 100000 in
theorem cc_X3_rowOf (l : Launch) (E : En) (A : Nat → Prop) (w : Wd) {S : Sx} {D : Ad} {K : Int32 → Prop} {mask : Int32} {j : Nat} (hj : j < 12) (hm : msk mask K) (hW : Wf S) (hR : Rp E S D w) : Ct l yX3_rowOf wsX3_rowOf ({ frames := 0, cells := 0, slots := 0, locals := 0 } : Room) E A w [.ref (aH D), .int (nI j), .int mask] (fun r w' => (sPl S j = -1 ∧ r = some .null ∧ Rp E (uCod S 1) D w') ∨ (¬ sPl S j = -1 ∧ vO S (sPl S j) ∧ ¬ K (kdv S (sPl S j)) ∧ r = some .null ∧ Rp E (uCod S 5) D w') ∨ (¬ sPl S j = -1 ∧ vO S (sPl S j) ∧ K (kdv S (sPl S j)) ∧ r = some (.ref (aR D (sPl S j))) ∧ Rp E (uCod S 0) D w')) 0 0 := by
  refine Met.ofW (cc := cX3_rowOf) (maxL := 4) (ret := (some (.object "CopyRows$Row"))) (by decide) rfl ?_
  intro pp0 ee0 s m args below meth cc0 s₁ B hml hv
  obtain ⟨rfl, hT, hI, hA⟩ := hv
  have hx := B.exec
  have hb := B.bytes
  have hr := B.returns
  have hts := atoms_spec (ws := wsX3_rowOf) B.pre
  have hown : s.vm.findClass RX3 = some m.cls := findClass_of_methodNamed B.named
  have hlocks := B.notSynchronized
  have in_X1 : ∀ w ∈ wsX10, w ∈ wsX3_rowOf := by decide +kernel
  have in_X3 : ∀ w ∈ wsX30, w ∈ wsX3_rowOf := by decide +kernel
  have hS : va_S A s.heap s.heap [] := va_S.rf
  have hl := lv_entry ([.ref (aH D), .int (nI j), .int mask]) (n := 4) (Nat.le_of_ble_eq_true rfl)
  rw [lg_entry_eq]
  generalize (lg_sl ([.ref (aH D), .int (nI j), .int mask]) ++ List.replicate (4 - (lg_sl ([.ref (aH D), .int (nI j), .int mask])).length) Slot.unset).toArray = ls at hl ⊢
  have hl : lv_has ls 4 [(0, .ref (aH D)), (1, .int (nI j)), (2, .int mask)] := hl
  refine lv_aload_n hx hb dX3_rowOf_0 rfl (lv_at hl 0 rfl) ?_
  refine wr_get (ci := 2) (C := RX3) (T := TX3) (N := 2) (v := .ref (aP D)) hx hb hts in_X3 hown hT hI hR.1 rfl 0 (by decide) (hts (.fieldLink RX3 11 "CopyRows" "places" "[LCopyRows$Row;") (by decide +kernel)) rfl dX3_rowOf_1 ?_
  refine lv_iload_n hx hb dX3_rowOf_4 rfl (lv_at hl 1 rfl) ?_
  refine wr_aaldN (t := j) hx hb hT hI hR.2.1 2 rfl (by omega) (by omega) dX3_rowOf_5 ?_
  rcases hW.pl D j with ⟨ez1, ep1⟩ | ⟨ez1, hv1, ep1⟩
  · refine W.eq (g2 := F0 m 6 ls [.null]) (by rw [ep1]; rfl) ?_
    refine lv_astore_nN (lv' := [(3, .null), (0, .ref (aH D)), (1, .int (nI j)), (2, .int mask)]) hx hb dX3_rowOf_6 rfl hl (by decide) rfl (fun ls hl => ?_)
    refine lv_aload_nN hx hb dX3_rowOf_7 rfl (lv_at hl 0 rfl) ?_
    refine lv_ifnonnullN hx hb dX3_rowOf_8 ?_
    refine lv_aload_n hx hb dX3_rowOf_11 rfl (lv_at hl 1 rfl) ?_
    refine lv_iconst (v := 1) hx hb dX3_rowOf_12 (by decide) ?_
    refine wr_put (ci := 2) (C := RX3) (T := TX3) (N := 2) (v := .int 1) (ty := .int) hx hb hts in_X3 tyX3 tyX3_ok nmX3 hown hT hI hS hR.1 rfl 1 (by decide) (hts (.fieldLink RX3 15 "CopyRows" "code" "I") (by decide +kernel)) rfl (by decide +kernel) rfl rfl (Nat.le_of_ble_eq_true rfl) dX3_rowOf_13 (fun H locs hI hS => ?_)
    have hR := hR.cod (1)
    refine lv_null hx hb dX3_rowOf_16 ?_
    exact re_a hx hb hr hlocks hT hA hS hI (Or.inl rfl) (Or.inl ⟨ez1, rfl, hR⟩) (Nat.le_of_ble_eq_true rfl) (Nat.le_of_ble_eq_true rfl) dX3_rowOf_17
  · refine W.eq (g2 := F0 m 6 ls [.ref (aR D (sPl S j))]) (by rw [ep1]; rfl) ?_
    refine lv_astore_n (lv' := [(3, .ref (aR D (sPl S j))), (0, .ref (aH D)), (1, .int (nI j)), (2, .int mask)]) hx hb dX3_rowOf_6 rfl hl (by decide) rfl (fun ls hl => ?_)
    refine lv_aload_n hx hb dX3_rowOf_7 rfl (lv_at hl 0 rfl) ?_
    refine lv_ifnonnull (tgt := 18) hx hb dX3_rowOf_8 (by decide) ?_
    refine lv_iload_n hx hb dX3_rowOf_18 rfl (lv_at hl 3 rfl) ?_
    refine lv_aload_n hx hb dX3_rowOf_19 rfl (lv_at hl 0 rfl) ?_
    refine wr_get (ci := 0) (C := RX1) (T := TX1) (N := 4) (v := .int (kdv S (sPl S j))) hx hb hts in_X1 hown hT hI (hR.2.2.1 _ hv1).1 rfl 0 (by decide) (hts (.fieldLink RX3 53 "CopyRows$Row" "kind" "I") (by decide +kernel)) rfl dX3_rowOf_20 ?_
    refine lv_ishr hx hb dX3_rowOf_23 ?_
    refine lv_iconst (v := 1) hx hb dX3_rowOf_24 (by decide) ?_
    refine lv_iand hx hb dX3_rowOf_25 ?_
    refine lv_if_ne (tgt := 36) hx hb dX3_rowOf_26 (by decide) (fun c_3 => ?_) (fun c_3 => ?_)
    · refine lv_aload_n hx hb dX3_rowOf_36 rfl (lv_at hl 1 rfl) ?_
      refine lv_iconst (v := 0) hx hb dX3_rowOf_37 (by decide) ?_
      refine wr_put (ci := 2) (C := RX3) (T := TX3) (N := 2) (v := .int 0) (ty := .int) hx hb hts in_X3 tyX3 tyX3_ok nmX3 hown hT hI hS hR.1 rfl 1 (by decide) (hts (.fieldLink RX3 15 "CopyRows" "code" "I") (by decide +kernel)) rfl (by decide +kernel) rfl rfl (Nat.le_of_ble_eq_true rfl) dX3_rowOf_38 (fun H locs hI hS => ?_)
      have hR := hR.cod (0)
      refine lv_aload_n hx hb dX3_rowOf_41 rfl (lv_at hl 0 rfl) ?_
      exact re_a hx hb hr hlocks hT hA hS hI (Or.inr ⟨_, rfl⟩) (Or.inr (Or.inr ⟨ez1, hv1, Classical.byContradiction fun q => c_3 ((hm _ (kd_cases (hW.kd hv1).1 (hW.kd hv1).2)).mpr q), rfl, hR⟩)) (Nat.le_of_ble_eq_true rfl) (Nat.le_of_ble_eq_true rfl) dX3_rowOf_42
    · refine lv_aload_n hx hb dX3_rowOf_29 rfl (lv_at hl 1 rfl) ?_
      refine lv_iconst (v := 5) hx hb dX3_rowOf_30 (by decide) ?_
      refine wr_put (ci := 2) (C := RX3) (T := TX3) (N := 2) (v := .int 5) (ty := .int) hx hb hts in_X3 tyX3 tyX3_ok nmX3 hown hT hI hS hR.1 rfl 1 (by decide) (hts (.fieldLink RX3 15 "CopyRows" "code" "I") (by decide +kernel)) rfl (by decide +kernel) rfl rfl (Nat.le_of_ble_eq_true rfl) dX3_rowOf_31 (fun H locs hI hS => ?_)
      have hR := hR.cod (5)
      refine lv_null hx hb dX3_rowOf_34 ?_
      exact re_a hx hb hr hlocks hT hA hS hI (Or.inl rfl) (Or.inr (Or.inl ⟨ez1, hv1, (hm _ (kd_cases (hW.kd hv1).1 (hW.kd hv1).2)).mp c_3, rfl, hR⟩)) (Nat.le_of_ble_eq_true rfl) (Nat.le_of_ble_eq_true rfl) dX3_rowOf_35

set_option maxHeartbeats 4000000 in
set_option maxRecDepth 100000 in
theorem cc_X3_code (l : Launch) (E : En) (A : Nat → Prop) (w : Wd) {S : Sx} {D : Ad} (hW : Wf S) (hR : Rp E S D w) : Ct l yX3_code wsX3_code ({ frames := 0, cells := 0, slots := 0, locals := 0 } : Room) E A w [.ref (aH D)] (fun r w' => PoC E D (sp_code S) r w') 0 0 := by
  refine Met.ofW (cc := cX3_code) (maxL := 1) (ret := (some .int)) (by decide) rfl ?_
  intro pp0 ee0 s m args below meth cc0 s₁ B hml hv
  obtain ⟨rfl, hT, hI, hA⟩ := hv
  have hx := B.exec
  have hb := B.bytes
  have hr := B.returns
  have hts := atoms_spec (ws := wsX3_code) B.pre
  have hown : s.vm.findClass RX3 = some m.cls := findClass_of_methodNamed B.named
  have hlocks := B.notSynchronized
  have in_X3 : ∀ w ∈ wsX30, w ∈ wsX3_code := by decide +kernel
  have hS : va_S A s.heap s.heap [] := va_S.rf
  have hl := lv_entry ([.ref (aH D)]) (n := 1) (Nat.le_of_ble_eq_true rfl)
  rw [lg_entry_eq]
  generalize (lg_sl ([.ref (aH D)]) ++ List.replicate (1 - (lg_sl ([.ref (aH D)])).length) Slot.unset).toArray = ls at hl ⊢
  have hl : lv_has ls 1 [(0, .ref (aH D))] := hl
  refine lv_aload_n hx hb dX3_code_0 rfl (lv_at hl 0 rfl) ?_
  refine wr_get (ci := 2) (C := RX3) (T := TX3) (N := 2) (v := .int (sCod S)) hx hb hts in_X3 hown hT hI hR.1 rfl 1 (by decide) (hts (.fieldLink RX3 15 "CopyRows" "code" "I") (by decide +kernel)) rfl dX3_code_1 ?_
  exact re_i hx hb hr hlocks hT hA hS hI (PoC.of rfl hR rfl) (Nat.le_of_ble_eq_true rfl) (Nat.le_of_ble_eq_true rfl) dX3_code_4

set_option maxHeartbeats 4000000 in
set_option maxRecDepth 100000 in
theorem cc_X3_kind (l : Launch) (E : En) (A : Nat → Prop) (w : Wd) {S : Sx} {D : Ad} (p : Int32) (hW : Wf S) (hR : Rp E S D w) (hb9 : sNr S < 512 ∧ sNt S < 512 ∧ sNl S < 512) : Ct l yX3_kind wsX3_kind ({ frames := 1, cells := 0, slots := 0, locals := 20 } : Room) E A w [.ref (aH D), .int p] (fun r w' => PoC E D (sp_kind S p) r w') 0 0 := by
  refine Met.ofW (cc := cX3_kind) (maxL := 2) (ret := (some .int)) (by decide) rfl ?_
  intro pp0 ee0 s m args below meth cc0 s₁ B hml hv
  obtain ⟨rfl, hT, hI, hA⟩ := hv
  have hx := B.exec
  have hb := B.bytes
  have hr := B.returns
  have hts := atoms_spec (ws := wsX3_kind) B.pre
  have hown : s.vm.findClass RX3 = some m.cls := findClass_of_methodNamed B.named
  have hlocks := B.notSynchronized
  have in_X3 : ∀ w ∈ wsX30, w ∈ wsX3_kind := by decide +kernel
  have hS : va_S A s.heap s.heap [] := va_S.rf
  have hl := lv_entry ([.ref (aH D), .int p]) (n := 2) (Nat.le_of_ble_eq_true rfl)
  rw [lg_entry_eq]
  generalize (lg_sl ([.ref (aH D), .int p]) ++ List.replicate (2 - (lg_sl ([.ref (aH D), .int p])).length) Slot.unset).toArray = ls at hl ⊢
  have hl : lv_has ls 2 [(0, .ref (aH D)), (1, .int p)] := hl
  refine lv_iload_n hx hb dX3_kind_0 rfl (lv_at hl 1 rfl) ?_
  refine ca_S (As := [.int p]) (rest := []) ⟨hx, hb, hml, hown, hts⟩ (cc_X3_isOutside l E A _ p) (va_cwS 1 hts gX3_kind_X3_isOutside rfl rfl rfl (by decide +kernel) ⟨(Nat.le_of_ble_eq_true rfl), (Nat.le_of_ble_eq_true rfl)⟩) hT hI hA hS rfl rfl hl.1 (Nat.le_of_ble_eq_true rfl) dX3_kind_1 ⟨(Nat.le_of_ble_eq_true rfl), (Nat.le_of_ble_eq_true rfl)⟩ (fun r w_2 H locs hp_1 hI hS => ?_)
  obtain ⟨rfl, ⟨ho_3, rfl⟩ | ⟨ho_3, rfl⟩⟩ := hp_1
  · refine W.eq (g2 := F0 m 4 ls [.int 1]) rfl ?_
    refine lv_if_eq (tgt := 12) hx hb dX3_kind_4 (by decide) (fun c => absurd c (by decide)) (fun _ => ?_)
    refine lv_ldc (v := -2000000001) hx hb hown (hts (.constant RX3 23 (-2000000001)) (by decide +kernel)) dX3_kind_7 ?_
    refine lv_goto (tgt := 21) hx hb dX3_kind_9 (by decide) ?_
    exact re_i hx hb hr hlocks hT hA hS hI (PoC.of (by
            unfold sp_kind
            rw [if_pos (ho_3)]) hR rfl) (Nat.le_of_ble_eq_true rfl) (Nat.le_of_ble_eq_true rfl) dX3_kind_21
  · refine W.eq (g2 := F0 m 4 ls [.int 0]) rfl ?_
    refine lv_if_eq (tgt := 12) hx hb dX3_kind_4 (by decide) (fun _ => ?_) (fun c => absurd c (by decide))
    refine lv_aload_n hx hb dX3_kind_12 rfl (lv_at hl 0 rfl) ?_
    refine wr_get (ci := 2) (C := RX3) (T := TX3) (N := 2) (v := .ref (aP D)) hx hb hts in_X3 hown hT hI hR.1 rfl 0 (by decide) (hts (.fieldLink RX3 11 "CopyRows" "places" "[LCopyRows$Row;") (by decide +kernel)) rfl dX3_kind_13 ?_
    refine lv_iload_n hx hb dX3_kind_16 rfl (lv_at hl 1 rfl) ?_
    obtain ⟨pj, hpj, rfl⟩ := isP_nat ho_3
    refine wr_aaldN (t := pj) hx hb hT hI hR.2.1 2 rfl (by omega) (by omega) dX3_kind_17 ?_
    rcases hW.pl D pj with ⟨ez4, ep4⟩ | ⟨ez4, hv4, ep4⟩
    · refine W.eq (g2 := F0 m 18 ls [.null]) (by rw [ep4]; rfl) ?_
      refine ca_S (As := [.null]) (rest := []) ⟨hx, hb, hml, hown, hts⟩ (cc_X3_kindOf_N l E A _) (va_cwS 1 hts gX3_kind_X3_kindOf rfl rfl rfl (by decide +kernel) ⟨(Nat.le_of_ble_eq_true rfl), (Nat.le_of_ble_eq_true rfl)⟩) hT hI hA hS rfl rfl hl.1 (Nat.le_of_ble_eq_true rfl) dX3_kind_18 ⟨(Nat.le_of_ble_eq_true rfl), (Nat.le_of_ble_eq_true rfl)⟩ (fun r w_6 H locs hp_5 hI hS => ?_)
      obtain ⟨rfl, rfl⟩ := hp_5
      refine W.eq (g2 := F0 m 21 ls [.int (-1)]) rfl ?_
      exact re_i hx hb hr hlocks hT hA hS hI (PoC.of (by
                unfold sp_kind
                try simp only [pv_nI hpj]
                rw [if_neg (ho_3)]
                rw [show kp S (sPl S pj) = -1 from if_pos ez4]) hR rfl) (Nat.le_of_ble_eq_true rfl) (Nat.le_of_ble_eq_true rfl) dX3_kind_21
    · refine W.eq (g2 := F0 m 18 ls [.ref (aR D (sPl S pj))]) (by rw [ep4]; rfl) ?_
      refine ca_S (As := [.ref (aR D (sPl S pj))]) (rest := []) ⟨hx, hb, hml, hown, hts⟩ (cc_X3_kindOf_R l E A _ (hR.2.2.1 _ hv4).1) (va_cwS 1 hts gX3_kind_X3_kindOf rfl rfl rfl (by decide +kernel) ⟨(Nat.le_of_ble_eq_true rfl), (Nat.le_of_ble_eq_true rfl)⟩) hT hI hA hS rfl rfl hl.1 (Nat.le_of_ble_eq_true rfl) dX3_kind_18 ⟨(Nat.le_of_ble_eq_true rfl), (Nat.le_of_ble_eq_true rfl)⟩ (fun r w_8 H locs hp_7 hI hS => ?_)
      obtain ⟨rfl, rfl⟩ := hp_7
      refine W.eq (g2 := F0 m 21 ls [.int (kdv S (sPl S pj))]) rfl ?_
      exact re_i hx hb hr hlocks hT hA hS hI (PoC.of (by
                unfold sp_kind
                try simp only [pv_nI hpj]
                rw [if_neg (ho_3)]
                rw [show kp S (sPl S pj) = kdv S (sPl S pj) from if_neg ez4]) hR rfl) (Nat.le_of_ble_eq_true rfl) (Nat.le_of_ble_eq_true rfl) dX3_kind_21

set_option maxHeartbeats 4000000 in
set_option maxRecDepth 100000 in
theorem cc_X3_nothing (l : Launch) (E : En) (A : Nat → Prop) (w : Wd) {S : Sx} {D : Ad} (p : Int32) (hW : Wf S) (hR : Rp E S D w) (hb9 : sNr S < 512 ∧ sNt S < 512 ∧ sNl S < 512) : Ct l yX3_nothing wsX3_nothing ({ frames := 1, cells := 0, slots := 0, locals := 20 } : Room) E A w [.ref (aH D), .int p] (fun r w' => PoC E D (sp_nothing S p) r w') 0 0 := by
  refine Met.ofW (cc := cX3_nothing) (maxL := 3) (ret := (some .int)) (by decide) rfl ?_
  intro pp0 ee0 s m args below meth cc0 s₁ B hml hv
  obtain ⟨rfl, hT, hI, hA⟩ := hv
  have hx := B.exec
  have hb := B.bytes
  have hr := B.returns
  have hts := atoms_spec (ws := wsX3_nothing) B.pre
  have hown : s.vm.findClass RX3 = some m.cls := findClass_of_methodNamed B.named
  have hlocks := B.notSynchronized
  have in_X3 : ∀ w ∈ wsX30, w ∈ wsX3_nothing := by decide +kernel
  have hS : va_S A s.heap s.heap [] := va_S.rf
  have hl := lv_entry ([.ref (aH D), .int p]) (n := 3) (Nat.le_of_ble_eq_true rfl)
  rw [lg_entry_eq]
  generalize (lg_sl ([.ref (aH D), .int p]) ++ List.replicate (3 - (lg_sl ([.ref (aH D), .int p])).length) Slot.unset).toArray = ls at hl ⊢
  have hl : lv_has ls 3 [(0, .ref (aH D)), (1, .int p)] := hl
  refine lv_iload_n hx hb dX3_nothing_0 rfl (lv_at hl 1 rfl) ?_
  refine ca_S (As := [.int p]) (rest := []) ⟨hx, hb, hml, hown, hts⟩ (cc_X3_isOutside l E A _ p) (va_cwS 1 hts gX3_nothing_X3_isOutside rfl rfl rfl (by decide +kernel) ⟨(Nat.le_of_ble_eq_true rfl), (Nat.le_of_ble_eq_true rfl)⟩) hT hI hA hS rfl rfl hl.1 (Nat.le_of_ble_eq_true rfl) dX3_nothing_1 ⟨(Nat.le_of_ble_eq_true rfl), (Nat.le_of_ble_eq_true rfl)⟩ (fun r w_2 H locs hp_1 hI hS => ?_)
  obtain ⟨rfl, ⟨ho_3, rfl⟩ | ⟨ho_3, rfl⟩⟩ := hp_1
  · refine W.eq (g2 := F0 m 4 ls [.int 1]) rfl ?_
    refine lv_if_eq (tgt := 10) hx hb dX3_nothing_4 (by decide) (fun c => absurd c (by decide)) (fun _ => ?_)
    refine lv_ldc (v := -2000000001) hx hb hown (hts (.constant RX3 23 (-2000000001)) (by decide +kernel)) dX3_nothing_7 ?_
    exact re_i hx hb hr hlocks hT hA hS hI (PoC.of (by
            unfold sp_nothing
            rw [if_pos (ho_3)]) hR rfl) (Nat.le_of_ble_eq_true rfl) (Nat.le_of_ble_eq_true rfl) dX3_nothing_9
  · refine W.eq (g2 := F0 m 4 ls [.int 0]) rfl ?_
    refine lv_if_eq (tgt := 10) hx hb dX3_nothing_4 (by decide) (fun _ => ?_) (fun c => absurd c (by decide))
    refine lv_aload_n hx hb dX3_nothing_10 rfl (lv_at hl 0 rfl) ?_
    refine wr_get (ci := 2) (C := RX3) (T := TX3) (N := 2) (v := .ref (aP D)) hx hb hts in_X3 hown hT hI hR.1 rfl 0 (by decide) (hts (.fieldLink RX3 11 "CopyRows" "places" "[LCopyRows$Row;") (by decide +kernel)) rfl dX3_nothing_11 ?_
    refine lv_iload_n hx hb dX3_nothing_14 rfl (lv_at hl 1 rfl) ?_
    obtain ⟨pj, hpj, rfl⟩ := isP_nat ho_3
    refine wr_aaldN (t := pj) hx hb hT hI hR.2.1 2 rfl (by omega) (by omega) dX3_nothing_15 ?_
    rcases hW.pl D pj with ⟨ez4, ep4⟩ | ⟨ez4, hv4, ep4⟩
    · refine W.eq (g2 := F0 m 16 ls [.null]) (by rw [ep4]; rfl) ?_
      refine ca_S (As := [.null]) (rest := []) ⟨hx, hb, hml, hown, hts⟩ (cc_X3_kindOf_N l E A _) (va_cwS 1 hts gX3_nothing_X3_kindOf rfl rfl rfl (by decide +kernel) ⟨(Nat.le_of_ble_eq_true rfl), (Nat.le_of_ble_eq_true rfl)⟩) hT hI hA hS rfl rfl hl.1 (Nat.le_of_ble_eq_true rfl) dX3_nothing_16 ⟨(Nat.le_of_ble_eq_true rfl), (Nat.le_of_ble_eq_true rfl)⟩ (fun r w_6 H locs hp_5 hI hS => ?_)
      obtain ⟨rfl, rfl⟩ := hp_5
      refine W.eq (g2 := F0 m 19 ls [.int (-1)]) rfl ?_
      refine lv_istore_n (lv' := [(2, .int (-1)), (0, .ref (aH D)), (1, .int (nI pj))]) hx hb dX3_nothing_19 rfl hl (by decide) rfl (fun ls hl => ?_)
      refine lv_aload_n hx hb dX3_nothing_20 rfl (lv_at hl 1 rfl) ?_
      refine wr_get (ci := 2) (C := RX3) (T := TX3) (N := 2) (v := .ref (aP D)) hx hb hts in_X3 hown hT hI hR.1 rfl 0 (by decide) (hts (.fieldLink RX3 11 "CopyRows" "places" "[LCopyRows$Row;") (by decide +kernel)) rfl dX3_nothing_21 ?_
      refine lv_iload_n hx hb dX3_nothing_24 rfl (lv_at hl 2 rfl) ?_
      refine lv_null hx hb dX3_nothing_25 ?_
      refine W.eq (g2 := F0 m 26 ls (va_rf none :: .int (nI pj) :: .ref (aP D) :: [])) rfl ?_
      refine wr_aastV (t := pj) (o := none) hx hb hT hI hS hR.2.1 2 rfl (fun v9 hv9 => by cases hv9) (by omega) (by omega) dX3_nothing_26 (fun H locs hI hS => ?_)
      have hR := hR.pl pj (-1)
      rw [show plO D (-1) = none from if_pos rfl] at hR
      refine lv_iload_n hx hb dX3_nothing_27 rfl (lv_at hl 0 rfl) ?_
      exact re_i hx hb hr hlocks hT hA hS hI (PoC.of (by
                unfold sp_nothing
                try simp only [pv_nI hpj]
                rw [if_neg (ho_3)]
                rw [show kp S (sPl S pj) = -1 from if_pos ez4, ix_nI (by omega)]) hR rfl) (Nat.le_of_ble_eq_true rfl) (Nat.le_of_ble_eq_true rfl) dX3_nothing_28
    · refine W.eq (g2 := F0 m 16 ls [.ref (aR D (sPl S pj))]) (by rw [ep4]; rfl) ?_
      refine ca_S (As := [.ref (aR D (sPl S pj))]) (rest := []) ⟨hx, hb, hml, hown, hts⟩ (cc_X3_kindOf_R l E A _ (hR.2.2.1 _ hv4).1) (va_cwS 1 hts gX3_nothing_X3_kindOf rfl rfl rfl (by decide +kernel) ⟨(Nat.le_of_ble_eq_true rfl), (Nat.le_of_ble_eq_true rfl)⟩) hT hI hA hS rfl rfl hl.1 (Nat.le_of_ble_eq_true rfl) dX3_nothing_16 ⟨(Nat.le_of_ble_eq_true rfl), (Nat.le_of_ble_eq_true rfl)⟩ (fun r w_8 H locs hp_7 hI hS => ?_)
      obtain ⟨rfl, rfl⟩ := hp_7
      refine W.eq (g2 := F0 m 19 ls [.int (kdv S (sPl S pj))]) rfl ?_
      refine lv_istore_n (lv' := [(2, .int (kdv S (sPl S pj))), (0, .ref (aH D)), (1, .int (nI pj))]) hx hb dX3_nothing_19 rfl hl (by decide) rfl (fun ls hl => ?_)
      refine lv_aload_n hx hb dX3_nothing_20 rfl (lv_at hl 1 rfl) ?_
      refine wr_get (ci := 2) (C := RX3) (T := TX3) (N := 2) (v := .ref (aP D)) hx hb hts in_X3 hown hT hI hR.1 rfl 0 (by decide) (hts (.fieldLink RX3 11 "CopyRows" "places" "[LCopyRows$Row;") (by decide +kernel)) rfl dX3_nothing_21 ?_
      refine lv_iload_n hx hb dX3_nothing_24 rfl (lv_at hl 2 rfl) ?_
      refine lv_null hx hb dX3_nothing_25 ?_
      refine W.eq (g2 := F0 m 26 ls (va_rf none :: .int (nI pj) :: .ref (aP D) :: [])) rfl ?_
      refine wr_aastV (t := pj) (o := none) hx hb hT hI hS hR.2.1 2 rfl (fun v9 hv9 => by cases hv9) (by omega) (by omega) dX3_nothing_26 (fun H locs hI hS => ?_)
      have hR := hR.pl pj (-1)
      rw [show plO D (-1) = none from if_pos rfl] at hR
      refine lv_iload_n hx hb dX3_nothing_27 rfl (lv_at hl 0 rfl) ?_
      exact re_i hx hb hr hlocks hT hA hS hI (PoC.of (by
                unfold sp_nothing
                try simp only [pv_nI hpj]
                rw [if_neg (ho_3)]
                rw [show kp S (sPl S pj) = kdv S (sPl S pj) from if_neg ez4, ix_nI (by omega)]) hR rfl) (Nat.le_of_ble_eq_true rfl) (Nat.le_of_ble_eq_true rfl) dX3_nothing_28

set_option maxHeartbeats 4000000 in
set_option maxRecDepth 100000 in
theorem cc_X3_length (l : Launch) (E : En) (A : Nat → Prop) (w : Wd) {S : Sx} {D : Ad} (p : Int32) (hW : Wf S) (hR : Rp E S D w) (hb9 : sNr S < 512 ∧ sNt S < 512 ∧ sNl S < 512) : Ct l yX3_length wsX3_length ({ frames := 1, cells := 0, slots := 0, locals := 23 } : Room) E A w [.ref (aH D), .int p] (fun r w' => PoC E D (sp_length S p) r w') 0 0 := by
  refine Met.ofW (cc := cX3_length) (maxL := 3) (ret := (some .int)) (by decide) rfl ?_
  intro pp0 ee0 s m args below meth cc0 s₁ B hml hv
  obtain ⟨rfl, hT, hI, hA⟩ := hv
  have hx := B.exec
  have hb := B.bytes
  have hr := B.returns
  have hts := atoms_spec (ws := wsX3_length) B.pre
  have hown : s.vm.findClass RX3 = some m.cls := findClass_of_methodNamed B.named
  have hlocks := B.notSynchronized
  have in_X1 : ∀ w ∈ wsX10, w ∈ wsX3_length := by decide +kernel
  have hS : va_S A s.heap s.heap [] := va_S.rf
  have hl := lv_entry ([.ref (aH D), .int p]) (n := 3) (Nat.le_of_ble_eq_true rfl)
  rw [lg_entry_eq]
  generalize (lg_sl ([.ref (aH D), .int p]) ++ List.replicate (3 - (lg_sl ([.ref (aH D), .int p])).length) Slot.unset).toArray = ls at hl ⊢
  have hl : lv_has ls 3 [(0, .ref (aH D)), (1, .int p)] := hl
  refine lv_iload_n hx hb dX3_length_0 rfl (lv_at hl 1 rfl) ?_
  refine ca_S (As := [.int p]) (rest := []) ⟨hx, hb, hml, hown, hts⟩ (cc_X3_isOutside l E A _ p) (va_cwS 1 hts gX3_length_X3_isOutside rfl rfl rfl (by decide +kernel) ⟨(Nat.le_of_ble_eq_true rfl), (Nat.le_of_ble_eq_true rfl)⟩) hT hI hA hS rfl rfl hl.1 (Nat.le_of_ble_eq_true rfl) dX3_length_1 ⟨(Nat.le_of_ble_eq_true rfl), (Nat.le_of_ble_eq_true rfl)⟩ (fun r w_2 H locs hp_1 hI hS => ?_)
  obtain ⟨rfl, ⟨ho_3, rfl⟩ | ⟨ho_3, rfl⟩⟩ := hp_1
  · refine W.eq (g2 := F0 m 4 ls [.int 1]) rfl ?_
    refine lv_if_eq (tgt := 10) hx hb dX3_length_4 (by decide) (fun c => absurd c (by decide)) (fun _ => ?_)
    refine lv_ldc (v := -2000000001) hx hb hown (hts (.constant RX3 23 (-2000000001)) (by decide +kernel)) dX3_length_7 ?_
    exact re_i hx hb hr hlocks hT hA hS hI (PoC.of (by
            unfold sp_length
            rw [if_pos (ho_3)]) hR rfl) (Nat.le_of_ble_eq_true rfl) (Nat.le_of_ble_eq_true rfl) dX3_length_9
  · refine W.eq (g2 := F0 m 4 ls [.int 0]) rfl ?_
    refine lv_if_eq (tgt := 10) hx hb dX3_length_4 (by decide) (fun _ => ?_) (fun c => absurd c (by decide))
    refine lv_aload_n hx hb dX3_length_10 rfl (lv_at hl 0 rfl) ?_
    refine lv_iload_n hx hb dX3_length_11 rfl (lv_at hl 1 rfl) ?_
    refine lv_bipush (v := 63) hx hb dX3_length_12 (by decide) ?_
    obtain ⟨pj, hpj, rfl⟩ := isP_nat ho_3
    refine ca_V (As := [.int (nI pj), .int 63]) (rest := []) (r0 := (RX3, TX3, 2)) (ci := 2) ⟨hx, hb, hml, hown, hts⟩ (cc_X3_rowOf l E A _ (by omega) msk63 hW hR) (cwV 2 hts gX3_length_X3_rowOf rfl rfl rfl (by decide +kernel) ⟨(Nat.le_of_ble_eq_true rfl), (Nat.le_of_ble_eq_true rfl)⟩) hT hI hA hS rfl hR.1 rfl rfl hl.1 (Nat.le_of_ble_eq_true rfl) dX3_length_14 ⟨(Nat.le_of_ble_eq_true rfl), (Nat.le_of_ble_eq_true rfl)⟩ (fun r w_5 H locs hp_4 hI hS => ?_)
    rcases hp_4 with ⟨ez6, rfl, hR⟩ | ⟨ez6, hv6, hk6, rfl, hR⟩ | ⟨ez6, hv6, hk6, rfl, hR⟩
    · refine W.eq (g2 := F0 m 17 ls [.null]) rfl ?_
      refine lv_astore_nN (lv' := [(2, .null), (0, .ref (aH D)), (1, .int (nI pj))]) hx hb dX3_length_17 rfl hl (by decide) rfl (fun ls hl => ?_)
      refine lv_aload_nN hx hb dX3_length_18 rfl (lv_at hl 0 rfl) ?_
      refine lv_ifnonnullN hx hb dX3_length_19 ?_
      refine lv_iconst (v := 0) hx hb dX3_length_22 (by decide) ?_
      refine lv_goto (tgt := 30) hx hb dX3_length_23 (by decide) ?_
      exact re_i hx hb hr hlocks hT hA hS hI (PoC.of (by
                unfold sp_length
                try simp only [pv_nI hpj]
                rw [if_neg (ho_3), if_pos (ez6)]) hR rfl) (Nat.le_of_ble_eq_true rfl) (Nat.le_of_ble_eq_true rfl) dX3_length_30
    · refine W.eq (g2 := F0 m 17 ls [.null]) rfl ?_
      refine lv_astore_nN (lv' := [(2, .null), (0, .ref (aH D)), (1, .int (nI pj))]) hx hb dX3_length_17 rfl hl (by decide) rfl (fun ls hl => ?_)
      refine lv_aload_nN hx hb dX3_length_18 rfl (lv_at hl 0 rfl) ?_
      refine lv_ifnonnullN hx hb dX3_length_19 ?_
      refine lv_iconst (v := 0) hx hb dX3_length_22 (by decide) ?_
      refine lv_goto (tgt := 30) hx hb dX3_length_23 (by decide) ?_
      exact re_i hx hb hr hlocks hT hA hS hI (PoC.of (by
                unfold sp_length
                try simp only [pv_nI hpj]
                rw [if_neg (ho_3), if_neg (ez6), if_pos ((Classical.not_not.mp hk6))]) hR rfl) (Nat.le_of_ble_eq_true rfl) (Nat.le_of_ble_eq_true rfl) dX3_length_30
    · have hln6 := hW.ln hv6
      have hr6 : vR S (sPl S pj) := vO_row hv6 hk6
      refine W.eq (g2 := F0 m 17 ls [.ref (aR D (sPl S pj))]) rfl ?_
      refine lv_astore_n (lv' := [(2, .ref (aR D (sPl S pj))), (0, .ref (aH D)), (1, .int (nI pj))]) hx hb dX3_length_17 rfl hl (by decide) rfl (fun ls hl => ?_)
      refine lv_aload_n hx hb dX3_length_18 rfl (lv_at hl 0 rfl) ?_
      refine lv_ifnonnull (tgt := 26) hx hb dX3_length_19 (by decide) ?_
      refine lv_aload_n hx hb dX3_length_26 rfl (lv_at hl 0 rfl) ?_
      refine wr_get (ci := 0) (C := RX1) (T := TX1) (N := 4) (v := .int (nI (lnv S (sPl S pj)))) hx hb hts in_X1 hown hT hI (hR.2.2.1 _ hv6).1 rfl 1 (by decide) (hts (.fieldLink RX3 43 "CopyRows$Row" "length" "I") (by decide +kernel)) rfl dX3_length_27 ?_
      exact re_i hx hb hr hlocks hT hA hS hI (PoC.of (by
                unfold sp_length
                try simp only [pv_nI hpj]
                rw [if_neg (ho_3), if_neg (ez6), if_neg (hk6)]) hR rfl) (Nat.le_of_ble_eq_true rfl) (Nat.le_of_ble_eq_true rfl) dX3_length_30
end
section
/-! more words for the walks of the calls -/
theorem le40_nat {n : Int32} (h0 : 0 ≤ n) (h : n ≤ 40) : ∃ j : Nat, j ≤ 40 ∧ n = nI j := by
  obtain ⟨j, hj, rfl⟩ := nI_of (Int32.not_lt.mpr h0)
  exact ⟨j, (nI_leI hj (by decide : 40 < 2 ^ 31)).mp h, rfl⟩
theorem ini_n {k : Int32} (h : isN k) : ini k = fun _ => 0 := by unfold ini; rw [if_pos h]
theorem ini_p {k : Int32} (h : ¬ isN k) : ini k = fun _ => -1 := by unfold ini; rw [if_neg h]
theorem NewRow.n {E : En} {w w' : Wd} {q na qa : Nat} {kd : Int32} {n : Nat} {f : Nat → Int32} {D : Ad} (hk : isN kd) (h : NewRow E w w' q na qa kd n n f 0 (fun _ => none)) : NewRow E w w' q na qa kd n (nz kd n) (if isN kd then f else fun _ => 0) (pz kd n) (if isN kd then fun _ => none else fun k => pO D kd (f k)) := by
  rw [show nz kd n = n from if_pos hk, show pz kd n = 0 from if_pos hk, if_pos hk, if_pos hk]
  exact h
theorem NewRow.p {E : En} {w w' : Wd} {q na qa : Nat} {kd : Int32} {n : Nat} {f : Nat → Int32} {g : Nat → Option Nat} {D : Ad} (hk : ¬ isN kd) (hg : g = fun k => pO D kd (f k)) (h : NewRow E w w' q na qa kd n 0 (fun _ => 0) n g) : NewRow E w w' q na qa kd n (nz kd n) (if isN kd then f else fun _ => 0) (pz kd n) (if isN kd then fun _ => none else fun k => pO D kd (f k)) := by
  rw [show nz kd n = 0 from if_neg hk, show pz kd n = n from if_neg hk, if_neg hk, if_neg hk, ← hg]
  exact h
theorem pO_m1 {D : Ad} {kd : Int32} : pO D kd (-1) = none := if_pos rfl
theorem Rp.numW {E : En} {S : Sx} {D : Ad} {w : Wd} (h : Rp E S D w) {v : Int32} (hv : vR S v) (hk : isN (kdv S v)) (f : Nat → Int32) : Rp E (uRow S (ix v) f) D (va_up w (aN D v) (some (eI E (lnv S v) f))) := by
  have q := h.numbers hv hk f
  rwa [show nz (kdv S v) (lnv S v) = lnv S v from if_pos hk] at q
theorem Rp.parW {E : En} {S : Sx} {D : Ad} {w : Wd} (h : Rp E S D w) {v : Int32} (hv : vR S v) (hk : ¬ isN (kdv S v)) (f : Nat → Int32) {g : Nat → Option Nat} (hg : g = fun k => pO D (kdv S v) (f k)) : Rp E (uRow S (ix v) f) D (va_up w (aQ D v) (some (eP E (lnv S v) g))) := by
  have q := h.parts hv hk f hg
  rwa [show pz (kdv S v) (lnv S v) = lnv S v from if_neg hk] at q
theorem pO_upd {D : Ad} {kd x : Int32} {f : Nat → Int32} {j : Nat} {o : Option Nat} (ho : pO D kd x = o) : va_up (fun k => pO D kd (f k)) j o = fun k => pO D kd (upd f j x k) := by
  funext k
  by_cases h : k = j
  · subst h; simp [va_up, upd, ho]
  · simp [va_up, upd, h]
theorem pO_row {D : Ad} {x : Int32} (h : ¬ x = -1) : pO D 2 x = some (aR D x) := by unfold pO; rw [if_neg h, if_pos rfl]
theorem pO_th {D : Ad} {kd x : Int32} (h : ¬ x = -1) (hk : ¬ kd = 2) : pO D kd x = some (aT D x) := by unfold pO; rw [if_neg h, if_neg hk]
theorem adT_self {D : Ad} {v : Int32} {q : Nat} : aT (adT D v q) v = q := if_pos rfl
theorem kT_ne2 {k : Int32} (h : kT k) : ¬ k = 2 := by rcases h with h | h | h <;> rw [h] <;> decide
theorem neg1_le {c : Int32} (h : ¬ c < -1) (h2 : ¬ c = -1) : ¬ c < 0 := by
  rw [Int32.lt_iff_toInt_lt] at h ⊢
  have a : (-1 : Int32).toInt = -1 := by decide
  have b : (0 : Int32).toInt = 0 := by decide
  rw [a] at h
  rw [b]
  have c1 : c.toInt ≠ -1 := fun q => h2 (Int32.toInt_inj.mp (q.trans a.symm))
  omega
set_option maxHeartbeats 4000000 in
set_option maxRecDepth 100000 in
theorem cc_X3_make (l : Launch) (E : En) (A : Nat → Prop) (w : Wd) {S : Sx} {D : Ad} (p k n : Int32) (hW : Wf S) (hR : Rp E S D w) (hb9 : sNr S < 512 ∧ sNt S < 512 ∧ sNl S < 512) : Ct l yX3_make wsX3_make ({ frames := 3, cells := 3, slots := 44, locals := 63 } : Room) E A w [.ref (aH D), .int p, .int k, .int n] (fun r w' => PoC E D (sp_make S p k n) r w') 3 44 := by
  refine Met.ofW (cc := cX3_make) (maxL := 4) (ret := (some .int)) (by decide) rfl ?_
  intro pp0 ee0 s m args below meth cc0 s₁ B hml hv
  obtain ⟨rfl, hT, hI, hA⟩ := hv
  have hx := B.exec
  have hb := B.bytes
  have hr := B.returns
  have hts := atoms_spec (ws := wsX3_make) B.pre
  have hown : s.vm.findClass RX3 = some m.cls := findClass_of_methodNamed B.named
  have hlocks := B.notSynchronized
  have in_X1 : ∀ w ∈ wsX10, w ∈ wsX3_make := by decide +kernel
  have hS : va_S A s.heap s.heap [] := va_S.rf
  have hl := lv_entry ([.ref (aH D), .int p, .int k, .int n]) (n := 4) (Nat.le_of_ble_eq_true rfl)
  rw [lg_entry_eq]
  generalize (lg_sl ([.ref (aH D), .int p, .int k, .int n]) ++ List.replicate (4 - (lg_sl ([.ref (aH D), .int p, .int k, .int n])).length) Slot.unset).toArray = ls at hl ⊢
  have hl : lv_has ls 4 [(0, .ref (aH D)), (1, .int p), (2, .int k), (3, .int n)] := hl
  refine lv_iload_n hx hb dX3_make_0 rfl (lv_at hl 1 rfl) ?_
  refine ca_S (As := [.int p]) (rest := []) ⟨hx, hb, hml, hown, hts⟩ (cc_X3_isOutside l E A _ p) (va_cwS 1 hts gX3_make_X3_isOutside rfl rfl rfl (by decide +kernel) ⟨(Nat.le_of_ble_eq_true rfl), (Nat.le_of_ble_eq_true rfl)⟩) hT hI hA hS rfl rfl hl.1 (Nat.le_of_ble_eq_true rfl) dX3_make_1 ⟨(Nat.le_of_ble_eq_true rfl), (Nat.le_of_ble_eq_true rfl)⟩ (fun r w_2 H locs hp_1 hI hS => ?_)
  obtain ⟨rfl, ⟨ho_3, rfl⟩ | ⟨ho_3, rfl⟩⟩ := hp_1
  · refine W.eq (g2 := F0 m 4 ls [.int 1]) rfl ?_
    refine lv_if_ne (tgt := 22) hx hb dX3_make_4 (by decide) (fun _ => ?_) (fun c => absurd c (by decide))
    refine lv_ldc (v := -2000000001) hx hb hown (hts (.constant RX3 23 (-2000000001)) (by decide +kernel)) dX3_make_22 ?_
    exact re_i hx hb hr hlocks hT hA hS hI (PoC.of (by
            unfold sp_make
            rw [if_pos (Or.inl ho_3)]) hR rfl) (Nat.le_of_ble_eq_true rfl) (Nat.le_of_ble_eq_true rfl) dX3_make_24
  · refine W.eq (g2 := F0 m 4 ls [.int 0]) rfl ?_
    refine lv_if_ne (tgt := 22) hx hb dX3_make_4 (by decide) (fun c => absurd c (by decide)) (fun _ => ?_)
    refine lv_iload_n hx hb dX3_make_7 rfl (lv_at hl 2 rfl) ?_
    refine lv_if_lt (tgt := 22) hx hb dX3_make_8 (by decide) (fun c_4 => ?_) (fun c_4 => ?_)
    · refine lv_ldc (v := -2000000001) hx hb hown (hts (.constant RX3 23 (-2000000001)) (by decide +kernel)) dX3_make_22 ?_
      exact re_i hx hb hr hlocks hT hA hS hI (PoC.of (by
                unfold sp_make
                rw [if_pos (Or.inr (Or.inl c_4))]) hR rfl) (Nat.le_of_ble_eq_true rfl) (Nat.le_of_ble_eq_true rfl) dX3_make_24
    · refine lv_iload_n hx hb dX3_make_11 rfl (lv_at hl 2 rfl) ?_
      refine lv_iconst (v := 5) hx hb dX3_make_12 (by decide) ?_
      refine lv_icmp_gt (tgt := 22) hx hb dX3_make_13 (by decide) (fun c_5 => ?_) (fun c_5 => ?_)
      · refine lv_ldc (v := -2000000001) hx hb hown (hts (.constant RX3 23 (-2000000001)) (by decide +kernel)) dX3_make_22 ?_
        exact re_i hx hb hr hlocks hT hA hS hI (PoC.of (by
                    unfold sp_make
                    rw [if_pos (Or.inr (Or.inr (Or.inl c_5)))]) hR rfl) (Nat.le_of_ble_eq_true rfl) (Nat.le_of_ble_eq_true rfl) dX3_make_24
      · refine lv_iload_n hx hb dX3_make_16 rfl (lv_at hl 3 rfl) ?_
        refine lv_bipush (v := 40) hx hb dX3_make_17 (by decide) ?_
        refine lv_icmp_le (tgt := 25) hx hb dX3_make_19 (by decide) (fun c_6 => ?_) (fun c_6 => ?_)
        · refine lv_iload_n hx hb dX3_make_25 rfl (lv_at hl 3 rfl) ?_
          refine lv_if_ge (tgt := 35) hx hb dX3_make_26 (by decide) (fun c_7 => ?_) (fun c_7 => ?_)
          · obtain ⟨pj, hpj, rfl⟩ := isP_nat ho_3
            obtain ⟨nj, hnj, rfl⟩ := le40_nat c_7 c_6
            by_cases hkn : isN k
            · refine lv_aload_n hx hb dX3_make_35 rfl (lv_at hl 0 rfl) ?_
              refine lv_iload_n hx hb dX3_make_36 rfl (lv_at hl 1 rfl) ?_
              refine wr_new (ci := 0) (fs := [.int 0, .int 0, .null, .null]) (C := RX1) (T := TX1) (N := 4) hx hb hts in_X1 tyX1 tyX1_ok hown (hts (.classLink RX3 9 RX1) (by decide +kernel)) (hts (.instantiable RX1 4) (by decide +kernel)) (hts (.initialized RX1) (by decide +kernel)) hT hI hS hA rfl (fun j hj => by rcases (show j = 0 ∨ j = 1 ∨ j = 2 ∨ j = 3 by omega) with rfl | rfl | rfl | rfl <;> rfl) (Nat.le_of_ble_eq_true rfl) (Nat.le_of_ble_eq_true rfl) dX3_make_37 (fun q H hq hI hS => ?_)
              refine W.widen (k := 1) (n := 4) (Nat.le_of_ble_eq_true rfl) (Nat.le_of_ble_eq_true rfl) ?_
              have hR0 := hR
              have hR := hR.sub (fun a9 x9 h9 => nw_in (y := .inr (0, [.int 0, .int 0, .null, .null])) h9 hq)
              refine lv_dup hx hb dX3_make_40 rfl ?_
              refine lv_iload_n hx hb dX3_make_41 rfl (lv_at hl 2 rfl) ?_
              refine lv_iload_n hx hb dX3_make_42 rfl (lv_at hl 3 rfl) ?_
              refine ca_I (As := [.int k, .int (nI nj)]) (rest := [.ref q, .int (nI pj), .ref (aH D)]) ⟨hx, hb, hml, hown, hts⟩ (cc_X1_init_n l E A _ k nj hnj hkn (va_up_self _ _ _)) (cwI 2 hts gX3_make_X1_init rfl rfl rfl (hts (.initialized RX1) (by decide +kernel)) (hts (.methodLink RX3 28 yX1_init) (by decide +kernel)) (hts (.instanceMethod yX1_init) (by decide +kernel)) rfl (by decide +kernel) ⟨(Nat.le_of_ble_eq_true rfl), (Nat.le_of_ble_eq_true rfl)⟩) hT hI hA hS rfl rfl hl.1 (Nat.le_of_ble_eq_true rfl) dX3_make_43 ⟨(Nat.le_of_ble_eq_true rfl), (Nat.le_of_ble_eq_true rfl)⟩ (fun r w_9 H locs hp_8 hI hS => ?_)
              obtain ⟨rfl, hp_8⟩ := hp_8
              obtain ⟨qn, qp, hNq⟩ := NewRow.of hq hp_8
              obtain ⟨hR, hvr, hlv, haR⟩ := hR0.new (f := ini k) hW hb9.1 (NewRow.n hkn (by rw [ini_n hkn]; exact hNq)) (fun e9 k9 => Or.inl (by rw [ini_p (by rw [e9]; decide)]))
              refine W.eq (g2 := F0 m 46 ls [.ref q, .int (nI pj), .ref (aH D)]) rfl ?_
              refine W.eq (g2 := F0 m 46 ls [.ref (aR (adR D (nI (sNr S)) q qn qp) (nI (sNr S))), .int (nI pj), .ref (aH D)]) (by rw [haR]) ?_
              refine ca_V (As := [.int (nI pj), .ref (aR (adR D (nI (sNr S)) q qn qp) (nI (sNr S)))]) (rest := []) (r0 := (RX3, TX3, 2)) (ci := 2) ⟨hx, hb, hml, hown, hts⟩ (cc_X3_put l E A _ (by omega) (Or.inl hvr) (nI_nm1 (by omega)) hR) (cwV 2 hts gX3_make_X3_put rfl rfl rfl (by decide +kernel) ⟨(Nat.le_of_ble_eq_true rfl), (Nat.le_of_ble_eq_true rfl)⟩) hT hI hA hS rfl hR.1 rfl rfl hl.1 (Nat.le_of_ble_eq_true rfl) dX3_make_46 ⟨(Nat.le_of_ble_eq_true rfl), (Nat.le_of_ble_eq_true rfl)⟩ (fun r w_11 H locs hp_10 hI hS => ?_)
              obtain ⟨rfl, hR⟩ := hp_10
              rw [hlv]
              refine W.eq (g2 := F0 m 49 ls [.int (nI nj)]) rfl ?_
              exact re_i hx hb hr hlocks hT hA hS hI (PoC.of (by
                                unfold sp_make
                                try simp only [pv_nI hpj]
                                rw [if_neg ((fun q => q.elim ho_3 (fun q => q.elim c_4 (fun q => q.elim c_5 (not_not_intro c_6))))), if_neg ((not_not_intro c_7))]
                                try simp only [ix_nI (show pj < 2 ^ 31 by omega), ix_nI (show nj < 2 ^ 31 by omega)]) hR rfl) (Nat.le_of_ble_eq_true rfl) (Nat.le_of_ble_eq_true rfl) dX3_make_49
            · refine lv_aload_n hx hb dX3_make_35 rfl (lv_at hl 0 rfl) ?_
              refine lv_iload_n hx hb dX3_make_36 rfl (lv_at hl 1 rfl) ?_
              refine wr_new (ci := 0) (fs := [.int 0, .int 0, .null, .null]) (C := RX1) (T := TX1) (N := 4) hx hb hts in_X1 tyX1 tyX1_ok hown (hts (.classLink RX3 9 RX1) (by decide +kernel)) (hts (.instantiable RX1 4) (by decide +kernel)) (hts (.initialized RX1) (by decide +kernel)) hT hI hS hA rfl (fun j hj => by rcases (show j = 0 ∨ j = 1 ∨ j = 2 ∨ j = 3 by omega) with rfl | rfl | rfl | rfl <;> rfl) (Nat.le_of_ble_eq_true rfl) (Nat.le_of_ble_eq_true rfl) dX3_make_37 (fun q H hq hI hS => ?_)
              refine W.widen (k := 1) (n := 4) (Nat.le_of_ble_eq_true rfl) (Nat.le_of_ble_eq_true rfl) ?_
              have hR0 := hR
              have hR := hR.sub (fun a9 x9 h9 => nw_in (y := .inr (0, [.int 0, .int 0, .null, .null])) h9 hq)
              refine lv_dup hx hb dX3_make_40 rfl ?_
              refine lv_iload_n hx hb dX3_make_41 rfl (lv_at hl 2 rfl) ?_
              refine lv_iload_n hx hb dX3_make_42 rfl (lv_at hl 3 rfl) ?_
              refine ca_I (As := [.int k, .int (nI nj)]) (rest := [.ref q, .int (nI pj), .ref (aH D)]) ⟨hx, hb, hml, hown, hts⟩ (cc_X1_init_p l E A _ k nj hnj hkn (va_up_self _ _ _)) (cwI 2 hts gX3_make_X1_init rfl rfl rfl (hts (.initialized RX1) (by decide +kernel)) (hts (.methodLink RX3 28 yX1_init) (by decide +kernel)) (hts (.instanceMethod yX1_init) (by decide +kernel)) rfl (by decide +kernel) ⟨(Nat.le_of_ble_eq_true rfl), (Nat.le_of_ble_eq_true rfl)⟩) hT hI hA hS rfl rfl hl.1 (Nat.le_of_ble_eq_true rfl) dX3_make_43 ⟨(Nat.le_of_ble_eq_true rfl), (Nat.le_of_ble_eq_true rfl)⟩ (fun r w_13 H locs hp_12 hI hS => ?_)
              obtain ⟨rfl, hp_12⟩ := hp_12
              obtain ⟨qn, qp, hNq⟩ := NewRow.of hq hp_12
              obtain ⟨hR, hvr, hlv, haR⟩ := hR0.new (f := ini k) hW hb9.1 (NewRow.p hkn (by rw [ini_p hkn]; funext k9; exact pO_m1.symm) hNq) (fun e9 k9 => Or.inl (by rw [ini_p (by rw [e9]; decide)]))
              refine W.eq (g2 := F0 m 46 ls [.ref q, .int (nI pj), .ref (aH D)]) rfl ?_
              refine W.eq (g2 := F0 m 46 ls [.ref (aR (adR D (nI (sNr S)) q qn qp) (nI (sNr S))), .int (nI pj), .ref (aH D)]) (by rw [haR]) ?_
              refine ca_V (As := [.int (nI pj), .ref (aR (adR D (nI (sNr S)) q qn qp) (nI (sNr S)))]) (rest := []) (r0 := (RX3, TX3, 2)) (ci := 2) ⟨hx, hb, hml, hown, hts⟩ (cc_X3_put l E A _ (by omega) (Or.inl hvr) (nI_nm1 (by omega)) hR) (cwV 2 hts gX3_make_X3_put rfl rfl rfl (by decide +kernel) ⟨(Nat.le_of_ble_eq_true rfl), (Nat.le_of_ble_eq_true rfl)⟩) hT hI hA hS rfl hR.1 rfl rfl hl.1 (Nat.le_of_ble_eq_true rfl) dX3_make_46 ⟨(Nat.le_of_ble_eq_true rfl), (Nat.le_of_ble_eq_true rfl)⟩ (fun r w_15 H locs hp_14 hI hS => ?_)
              obtain ⟨rfl, hR⟩ := hp_14
              rw [hlv]
              refine W.eq (g2 := F0 m 49 ls [.int (nI nj)]) rfl ?_
              exact re_i hx hb hr hlocks hT hA hS hI (PoC.of (by
                                unfold sp_make
                                try simp only [pv_nI hpj]
                                rw [if_neg ((fun q => q.elim ho_3 (fun q => q.elim c_4 (fun q => q.elim c_5 (not_not_intro c_6))))), if_neg ((not_not_intro c_7))]
                                try simp only [ix_nI (show pj < 2 ^ 31 by omega), ix_nI (show nj < 2 ^ 31 by omega)]) hR rfl) (Nat.le_of_ble_eq_true rfl) (Nat.le_of_ble_eq_true rfl) dX3_make_49
          · refine lv_aload_n hx hb dX3_make_29 rfl (lv_at hl 0 rfl) ?_
            refine lv_iconst (v := 4) hx hb dX3_make_30 (by decide) ?_
            refine ca_V (As := [.int 4]) (rest := []) (r0 := (RX3, TX3, 2)) (ci := 2) ⟨hx, hb, hml, hown, hts⟩ (cc_X3_fail l E A _ 4 hR) (cwV 1 hts gX3_make_X3_fail rfl rfl rfl (by decide +kernel) ⟨(Nat.le_of_ble_eq_true rfl), (Nat.le_of_ble_eq_true rfl)⟩) hT hI hA hS rfl hR.1 rfl rfl hl.1 (Nat.le_of_ble_eq_true rfl) dX3_make_31 ⟨(Nat.le_of_ble_eq_true rfl), (Nat.le_of_ble_eq_true rfl)⟩ (fun r w_17 H locs hp_16 hI hS => ?_)
            obtain ⟨rfl, hR⟩ := hp_16
            refine W.eq (g2 := F0 m 34 ls [.int 0]) rfl ?_
            exact re_i hx hb hr hlocks hT hA hS hI (PoC.of (by
                            unfold sp_make
                            rw [if_neg ((fun q => q.elim ho_3 (fun q => q.elim c_4 (fun q => q.elim c_5 (not_not_intro c_6))))), if_pos (c_7)]) hR rfl) (Nat.le_of_ble_eq_true rfl) (Nat.le_of_ble_eq_true rfl) dX3_make_34
        · refine lv_ldc (v := -2000000001) hx hb hown (hts (.constant RX3 23 (-2000000001)) (by decide +kernel)) dX3_make_22 ?_
          exact re_i hx hb hr hlocks hT hA hS hI (PoC.of (by
                        unfold sp_make
                        rw [if_pos (Or.inr (Or.inr (Or.inr (c_6))))]) hR rfl) (Nat.le_of_ble_eq_true rfl) (Nat.le_of_ble_eq_true rfl) dX3_make_24

set_option maxHeartbeats 4000000 in
set_option maxRecDepth 100000 in
theorem cc_X3_share (l : Launch) (E : En) (A : Nat → Prop) (w : Wd) {S : Sx} {D : Ad} (p o : Int32) (hW : Wf S) (hR : Rp E S D w) (hb9 : sNr S < 512 ∧ sNt S < 512 ∧ sNl S < 512) : Ct l yX3_share wsX3_share ({ frames := 1, cells := 0, slots := 0, locals := 20 } : Room) E A w [.ref (aH D), .int p, .int o] (fun r w' => PoC E D (sp_share S p o) r w') 0 0 := by
  refine Met.ofW (cc := cX3_share) (maxL := 3) (ret := (some .int)) (by decide) rfl ?_
  intro pp0 ee0 s m args below meth cc0 s₁ B hml hv
  obtain ⟨rfl, hT, hI, hA⟩ := hv
  have hx := B.exec
  have hb := B.bytes
  have hr := B.returns
  have hts := atoms_spec (ws := wsX3_share) B.pre
  have hown : s.vm.findClass RX3 = some m.cls := findClass_of_methodNamed B.named
  have hlocks := B.notSynchronized
  have in_X3 : ∀ w ∈ wsX30, w ∈ wsX3_share := by decide +kernel
  have hS : va_S A s.heap s.heap [] := va_S.rf
  have hl := lv_entry ([.ref (aH D), .int p, .int o]) (n := 3) (Nat.le_of_ble_eq_true rfl)
  rw [lg_entry_eq]
  generalize (lg_sl ([.ref (aH D), .int p, .int o]) ++ List.replicate (3 - (lg_sl ([.ref (aH D), .int p, .int o])).length) Slot.unset).toArray = ls at hl ⊢
  have hl : lv_has ls 3 [(0, .ref (aH D)), (1, .int p), (2, .int o)] := hl
  refine lv_iload_n hx hb dX3_share_0 rfl (lv_at hl 1 rfl) ?_
  refine ca_S (As := [.int p]) (rest := []) ⟨hx, hb, hml, hown, hts⟩ (cc_X3_isOutside l E A _ p) (va_cwS 1 hts gX3_share_X3_isOutside rfl rfl rfl (by decide +kernel) ⟨(Nat.le_of_ble_eq_true rfl), (Nat.le_of_ble_eq_true rfl)⟩) hT hI hA hS rfl rfl hl.1 (Nat.le_of_ble_eq_true rfl) dX3_share_1 ⟨(Nat.le_of_ble_eq_true rfl), (Nat.le_of_ble_eq_true rfl)⟩ (fun r w_2 H locs hp_1 hI hS => ?_)
  obtain ⟨rfl, ⟨ho_3, rfl⟩ | ⟨ho_3, rfl⟩⟩ := hp_1
  · refine W.eq (g2 := F0 m 4 ls [.int 1]) rfl ?_
    refine lv_if_ne (tgt := 14) hx hb dX3_share_4 (by decide) (fun _ => ?_) (fun c => absurd c (by decide))
    refine lv_ldc (v := -2000000001) hx hb hown (hts (.constant RX3 23 (-2000000001)) (by decide +kernel)) dX3_share_14 ?_
    exact re_i hx hb hr hlocks hT hA hS hI (PoC.of (by
            unfold sp_share
            rw [if_pos (Or.inl ho_3)]) hR rfl) (Nat.le_of_ble_eq_true rfl) (Nat.le_of_ble_eq_true rfl) dX3_share_16
  · refine W.eq (g2 := F0 m 4 ls [.int 0]) rfl ?_
    refine lv_if_ne (tgt := 14) hx hb dX3_share_4 (by decide) (fun c => absurd c (by decide)) (fun _ => ?_)
    refine lv_iload_n hx hb dX3_share_7 rfl (lv_at hl 2 rfl) ?_
    refine ca_S (As := [.int o]) (rest := []) ⟨hx, hb, hml, hown, hts⟩ (cc_X3_isOutside l E A _ o) (va_cwS 1 hts gX3_share_X3_isOutside rfl rfl rfl (by decide +kernel) ⟨(Nat.le_of_ble_eq_true rfl), (Nat.le_of_ble_eq_true rfl)⟩) hT hI hA hS rfl rfl hl.1 (Nat.le_of_ble_eq_true rfl) dX3_share_8 ⟨(Nat.le_of_ble_eq_true rfl), (Nat.le_of_ble_eq_true rfl)⟩ (fun r w_5 H locs hp_4 hI hS => ?_)
    obtain ⟨rfl, ⟨ho_6, rfl⟩ | ⟨ho_6, rfl⟩⟩ := hp_4
    · refine W.eq (g2 := F0 m 11 ls [.int 1]) rfl ?_
      refine lv_if_eq (tgt := 17) hx hb dX3_share_11 (by decide) (fun c => absurd c (by decide)) (fun _ => ?_)
      refine lv_ldc (v := -2000000001) hx hb hown (hts (.constant RX3 23 (-2000000001)) (by decide +kernel)) dX3_share_14 ?_
      exact re_i hx hb hr hlocks hT hA hS hI (PoC.of (by
                unfold sp_share
                rw [if_pos (Or.inr (ho_6))]) hR rfl) (Nat.le_of_ble_eq_true rfl) (Nat.le_of_ble_eq_true rfl) dX3_share_16
    · refine W.eq (g2 := F0 m 11 ls [.int 0]) rfl ?_
      refine lv_if_eq (tgt := 17) hx hb dX3_share_11 (by decide) (fun _ => ?_) (fun c => absurd c (by decide))
      obtain ⟨pj, hpj, rfl⟩ := isP_nat ho_3
      obtain ⟨oj, hoj, rfl⟩ := isP_nat ho_6
      refine lv_aload_n hx hb dX3_share_17 rfl (lv_at hl 0 rfl) ?_
      refine wr_get (ci := 2) (C := RX3) (T := TX3) (N := 2) (v := .ref (aP D)) hx hb hts in_X3 hown hT hI hR.1 rfl 0 (by decide) (hts (.fieldLink RX3 11 "CopyRows" "places" "[LCopyRows$Row;") (by decide +kernel)) rfl dX3_share_18 ?_
      refine lv_iload_n hx hb dX3_share_21 rfl (lv_at hl 1 rfl) ?_
      refine lv_aload_n hx hb dX3_share_22 rfl (lv_at hl 0 rfl) ?_
      refine wr_get (ci := 2) (C := RX3) (T := TX3) (N := 2) (v := .ref (aP D)) hx hb hts in_X3 hown hT hI hR.1 rfl 0 (by decide) (hts (.fieldLink RX3 11 "CopyRows" "places" "[LCopyRows$Row;") (by decide +kernel)) rfl dX3_share_23 ?_
      refine lv_iload_n hx hb dX3_share_26 rfl (lv_at hl 2 rfl) ?_
      refine wr_aaldN (t := oj) hx hb hT hI hR.2.1 2 rfl (by omega) (by omega) dX3_share_27 ?_
      rcases hW.pl D oj with ⟨ez7, ep7⟩ | ⟨ez7, hv7, ep7⟩
      · refine W.eq (g2 := F0 m 28 ls [.null, .int (nI pj), .ref (aP D)]) (by rw [ep7]; rfl) ?_
        refine W.eq (g2 := F0 m 28 ls (va_rf none :: .int (nI pj) :: .ref (aP D) :: [])) rfl ?_
        refine wr_aastV (t := pj) (o := none) hx hb hT hI hS hR.2.1 2 rfl (fun v9 hv9 => by cases hv9) (by omega) (by omega) dX3_share_28 (fun H locs hI hS => ?_)
        have hR := hR.pl pj (-1)
        rw [show plO D (-1) = none from if_pos rfl] at hR
        refine lv_aload_n hx hb dX3_share_29 rfl (lv_at hl 0 rfl) ?_
        refine wr_get (ci := 2) (C := RX3) (T := TX3) (N := 2) (v := .ref (aP D)) hx hb hts in_X3 hown hT hI hR.1 rfl 0 (by decide) (hts (.fieldLink RX3 11 "CopyRows" "places" "[LCopyRows$Row;") (by decide +kernel)) rfl dX3_share_30 ?_
        refine lv_iload_n hx hb dX3_share_33 rfl (lv_at hl 1 rfl) ?_
        refine wr_aaldN (t := pj) hx hb hT hI hR.2.1 2 rfl (by omega) (by omega) dX3_share_34 ?_
        refine W.eq (g2 := F0 m 35 ls [.null]) (by rw [show sPl (uPl S pj (-1)) pj = -1 from by simp [sPl, uPl, upd], show plO D (-1) = none from if_pos rfl]; rfl) ?_
        refine ca_S (As := [.null]) (rest := []) ⟨hx, hb, hml, hown, hts⟩ (cc_X3_kindOf_N l E A _) (va_cwS 1 hts gX3_share_X3_kindOf rfl rfl rfl (by decide +kernel) ⟨(Nat.le_of_ble_eq_true rfl), (Nat.le_of_ble_eq_true rfl)⟩) hT hI hA hS rfl rfl hl.1 (Nat.le_of_ble_eq_true rfl) dX3_share_35 ⟨(Nat.le_of_ble_eq_true rfl), (Nat.le_of_ble_eq_true rfl)⟩ (fun r w_9 H locs hp_8 hI hS => ?_)
        obtain ⟨rfl, rfl⟩ := hp_8
        refine W.eq (g2 := F0 m 38 ls [.int (-1)]) rfl ?_
        exact re_i hx hb hr hlocks hT hA hS hI (PoC.of (by
                    unfold sp_share
                    try simp only [pv_nI hpj, pv_nI hoj]
                    rw [if_neg ((fun q => q.elim ho_3 ho_6))]
                    rw [show kp S (sPl S oj) = -1 from if_pos ez7, ez7, ix_nI (by omega)]) hR rfl) (Nat.le_of_ble_eq_true rfl) (Nat.le_of_ble_eq_true rfl) dX3_share_38
      · refine W.eq (g2 := F0 m 28 ls [.ref (aR D (sPl S oj)), .int (nI pj), .ref (aP D)]) (by rw [ep7]; rfl) ?_
        refine W.eq (g2 := F0 m 28 ls (va_rf (some (aR D (sPl S oj))) :: .int (nI pj) :: .ref (aP D) :: [])) rfl ?_
        refine wr_aastV (t := pj) (o := some (aR D (sPl S oj))) hx hb hT hI hS hR.2.1 2 rfl (fun v9 hv9 => by cases hv9; exact wr_any hT hI (hR.2.2.1 _ hv7).1 (r := (RX1, TX1, 4)) rfl hT.2.2.2.2.2.2.2.2.2.1) (by omega) (by omega) dX3_share_28 (fun H locs hI hS => ?_)
        have hR := hR.pl pj (sPl S oj)
        rw [ep7] at hR
        refine lv_aload_n hx hb dX3_share_29 rfl (lv_at hl 0 rfl) ?_
        refine wr_get (ci := 2) (C := RX3) (T := TX3) (N := 2) (v := .ref (aP D)) hx hb hts in_X3 hown hT hI hR.1 rfl 0 (by decide) (hts (.fieldLink RX3 11 "CopyRows" "places" "[LCopyRows$Row;") (by decide +kernel)) rfl dX3_share_30 ?_
        refine lv_iload_n hx hb dX3_share_33 rfl (lv_at hl 1 rfl) ?_
        refine wr_aaldN (t := pj) hx hb hT hI hR.2.1 2 rfl (by omega) (by omega) dX3_share_34 ?_
        refine W.eq (g2 := F0 m 35 ls [.ref (aR D (sPl S oj))]) (by rw [show sPl (uPl S pj (sPl S oj)) pj = sPl S oj from by simp [sPl, uPl, upd], ep7]; rfl) ?_
        refine ca_S (As := [.ref (aR D (sPl S oj))]) (rest := []) ⟨hx, hb, hml, hown, hts⟩ (cc_X3_kindOf_R l E A _ (hR.2.2.1 _ hv7).1) (va_cwS 1 hts gX3_share_X3_kindOf rfl rfl rfl (by decide +kernel) ⟨(Nat.le_of_ble_eq_true rfl), (Nat.le_of_ble_eq_true rfl)⟩) hT hI hA hS rfl rfl hl.1 (Nat.le_of_ble_eq_true rfl) dX3_share_35 ⟨(Nat.le_of_ble_eq_true rfl), (Nat.le_of_ble_eq_true rfl)⟩ (fun r w_11 H locs hp_10 hI hS => ?_)
        obtain ⟨rfl, rfl⟩ := hp_10
        refine W.eq (g2 := F0 m 38 ls [.int (kdv S (sPl S oj))]) rfl ?_
        exact re_i hx hb hr hlocks hT hA hS hI (PoC.of (by
                    unfold sp_share
                    try simp only [pv_nI hpj, pv_nI hoj]
                    rw [if_neg ((fun q => q.elim ho_3 ho_6))]
                    rw [show kp S (sPl S oj) = kdv S (sPl S oj) from if_neg ez7, ix_nI (by omega)]) hR rfl) (Nat.le_of_ble_eq_true rfl) (Nat.le_of_ble_eq_true rfl) dX3_share_38

set_option maxHeartbeats 4000000 in
set_option maxRecDepth 100000 in
theorem cc_X3_lump (l : Launch) (E : En) (A : Nat → Prop) (w : Wd) {S : Sx} {D : Ad} (p : Int32) (hW : Wf S) (hR : Rp E S D w) (hb9 : sNr S < 512 ∧ sNt S < 512 ∧ sNl S < 512) : Ct l yX3_lump wsX3_lump ({ frames := 3, cells := 3, slots := 44, locals := 63 } : Room) E A w [.ref (aH D), .int p] (fun r w' => PoC E D (sp_lump S p) r w') 3 44 := by
  refine Met.ofW (cc := cX3_lump) (maxL := 2) (ret := (some .int)) (by decide) rfl ?_
  intro pp0 ee0 s m args below meth cc0 s₁ B hml hv
  obtain ⟨rfl, hT, hI, hA⟩ := hv
  have hx := B.exec
  have hb := B.bytes
  have hr := B.returns
  have hts := atoms_spec (ws := wsX3_lump) B.pre
  have hown : s.vm.findClass RX3 = some m.cls := findClass_of_methodNamed B.named
  have hlocks := B.notSynchronized
  have in_X1 : ∀ w ∈ wsX10, w ∈ wsX3_lump := by decide +kernel
  have in_X3 : ∀ w ∈ wsX30, w ∈ wsX3_lump := by decide +kernel
  have hS : va_S A s.heap s.heap [] := va_S.rf
  have hl := lv_entry ([.ref (aH D), .int p]) (n := 2) (Nat.le_of_ble_eq_true rfl)
  rw [lg_entry_eq]
  generalize (lg_sl ([.ref (aH D), .int p]) ++ List.replicate (2 - (lg_sl ([.ref (aH D), .int p])).length) Slot.unset).toArray = ls at hl ⊢
  have hl : lv_has ls 2 [(0, .ref (aH D)), (1, .int p)] := hl
  refine lv_iload_n hx hb dX3_lump_0 rfl (lv_at hl 1 rfl) ?_
  refine ca_S (As := [.int p]) (rest := []) ⟨hx, hb, hml, hown, hts⟩ (cc_X3_isOutside l E A _ p) (va_cwS 1 hts gX3_lump_X3_isOutside rfl rfl rfl (by decide +kernel) ⟨(Nat.le_of_ble_eq_true rfl), (Nat.le_of_ble_eq_true rfl)⟩) hT hI hA hS rfl rfl hl.1 (Nat.le_of_ble_eq_true rfl) dX3_lump_1 ⟨(Nat.le_of_ble_eq_true rfl), (Nat.le_of_ble_eq_true rfl)⟩ (fun r w_2 H locs hp_1 hI hS => ?_)
  obtain ⟨rfl, ⟨ho_3, rfl⟩ | ⟨ho_3, rfl⟩⟩ := hp_1
  · refine W.eq (g2 := F0 m 4 ls [.int 1]) rfl ?_
    refine lv_if_eq (tgt := 10) hx hb dX3_lump_4 (by decide) (fun c => absurd c (by decide)) (fun _ => ?_)
    refine lv_ldc (v := -2000000001) hx hb hown (hts (.constant RX3 23 (-2000000001)) (by decide +kernel)) dX3_lump_7 ?_
    exact re_i hx hb hr hlocks hT hA hS hI (PoC.of (by
            unfold sp_lump
            rw [if_pos (ho_3)]
            try rw [ix_nI (by omega)]) hR rfl) (Nat.le_of_ble_eq_true rfl) (Nat.le_of_ble_eq_true rfl) dX3_lump_9
  · refine W.eq (g2 := F0 m 4 ls [.int 0]) rfl ?_
    refine lv_if_eq (tgt := 10) hx hb dX3_lump_4 (by decide) (fun _ => ?_) (fun c => absurd c (by decide))
    obtain ⟨pj, hpj, rfl⟩ := isP_nat ho_3
    refine lv_aload_n hx hb dX3_lump_10 rfl (lv_at hl 0 rfl) ?_
    refine wr_get (ci := 2) (C := RX3) (T := TX3) (N := 2) (v := .ref (aP D)) hx hb hts in_X3 hown hT hI hR.1 rfl 0 (by decide) (hts (.fieldLink RX3 11 "CopyRows" "places" "[LCopyRows$Row;") (by decide +kernel)) rfl dX3_lump_11 ?_
    refine lv_iload_n hx hb dX3_lump_14 rfl (lv_at hl 1 rfl) ?_
    refine wr_new (ci := 0) (fs := [.int 0, .int 0, .null, .null]) (C := RX1) (T := TX1) (N := 4) hx hb hts in_X1 tyX1 tyX1_ok hown (hts (.classLink RX3 9 RX1) (by decide +kernel)) (hts (.instantiable RX1 4) (by decide +kernel)) (hts (.initialized RX1) (by decide +kernel)) hT hI hS hA rfl (fun j hj => by rcases (show j = 0 ∨ j = 1 ∨ j = 2 ∨ j = 3 by omega) with rfl | rfl | rfl | rfl <;> rfl) (Nat.le_of_ble_eq_true rfl) (Nat.le_of_ble_eq_true rfl) dX3_lump_15 (fun q H hq hI hS => ?_)
    refine W.widen (k := 1) (n := 4) (Nat.le_of_ble_eq_true rfl) (Nat.le_of_ble_eq_true rfl) ?_
    have hR0 := hR
    have hR := hR.sub (fun a9 x9 h9 => nw_in (y := .inr (0, [.int 0, .int 0, .null, .null])) h9 hq)
    refine lv_dup hx hb dX3_lump_18 rfl ?_
    refine lv_bipush (v := 6) hx hb dX3_lump_19 (by decide) ?_
    refine lv_iconst (v := 0) hx hb dX3_lump_21 (by decide) ?_
    refine ca_I (As := [.int 6, .int 0]) (rest := [.ref q, .int (nI pj), .ref (aP D)]) ⟨hx, hb, hml, hown, hts⟩ (cc_X1_init_p l E A _ 6 0 (by decide) isN6 (va_up_self _ _ _)) (cwI 2 hts gX3_lump_X1_init rfl rfl rfl (hts (.initialized RX1) (by decide +kernel)) (hts (.methodLink RX3 28 yX1_init) (by decide +kernel)) (hts (.instanceMethod yX1_init) (by decide +kernel)) rfl (by decide +kernel) ⟨(Nat.le_of_ble_eq_true rfl), (Nat.le_of_ble_eq_true rfl)⟩) hT hI hA hS rfl rfl hl.1 (Nat.le_of_ble_eq_true rfl) dX3_lump_22 ⟨(Nat.le_of_ble_eq_true rfl), (Nat.le_of_ble_eq_true rfl)⟩ (fun r w_5 H locs hp_4 hI hS => ?_)
    obtain ⟨rfl, hp_4⟩ := hp_4
    obtain ⟨qn, qp, hNq⟩ := NewRow.of hq hp_4
    obtain ⟨hR, hvo, haR, hm1⟩ := hR0.lump hW hb9.2.2 hNq
    refine W.eq (g2 := F0 m 25 ls [.ref q, .int (nI pj), .ref (aP D)]) rfl ?_
    refine W.eq (g2 := F0 m 25 ls (va_rf (some q) :: .int (nI pj) :: .ref (aP D) :: [])) rfl ?_
    refine wr_aastV (t := pj) (o := some q) hx hb hT hI hS hR.2.1 2 rfl (fun v9 hv9 => by cases hv9; exact wr_any hT hI hNq.2.2.2.2.2.2.1 (r := (RX1, TX1, 4)) rfl hT.2.2.2.2.2.2.2.2.2.1) (by omega) (by omega) dX3_lump_25 (fun H locs hI hS => ?_)
    have hR := hR.pl pj (luv S)
    rw [show plO (adR D (luv S) q qn qp) (luv S) = some q from (if_neg hm1).trans (congrArg some haR)] at hR
    refine lv_iconst (v := 1) hx hb dX3_lump_26 (by decide) ?_
    exact re_i hx hb hr hlocks hT hA hS hI (PoC.of (by
            unfold sp_lump
            try simp only [pv_nI hpj]
            rw [if_neg (ho_3)]
            try rw [ix_nI (by omega)]) hR rfl) (Nat.le_of_ble_eq_true rfl) (Nat.le_of_ble_eq_true rfl) dX3_lump_27

set_option maxHeartbeats 4000000 in
set_option maxRecDepth 100000 in
theorem cc_X3_set (l : Launch) (E : En) (A : Nat → Prop) (w : Wd) {S : Sx} {D : Ad} (p k x : Int32) (hW : Wf S) (hR : Rp E S D w) (hb9 : sNr S < 512 ∧ sNt S < 512 ∧ sNl S < 512) : Ct l yX3_set wsX3_set ({ frames := 1, cells := 0, slots := 0, locals := 23 } : Room) E A w [.ref (aH D), .int p, .int k, .int x] (fun r w' => PoC E D (sp_set S p k x) r w') 0 0 := by
  refine Met.ofW (cc := cX3_set) (maxL := 6) (ret := (some .int)) (by decide) rfl ?_
  intro pp0 ee0 s m args below meth cc0 s₁ B hml hv
  obtain ⟨rfl, hT, hI, hA⟩ := hv
  have hx := B.exec
  have hb := B.bytes
  have hr := B.returns
  have hts := atoms_spec (ws := wsX3_set) B.pre
  have hown : s.vm.findClass RX3 = some m.cls := findClass_of_methodNamed B.named
  have hlocks := B.notSynchronized
  have in_X1 : ∀ w ∈ wsX10, w ∈ wsX3_set := by decide +kernel
  have hS : va_S A s.heap s.heap [] := va_S.rf
  have hl := lv_entry ([.ref (aH D), .int p, .int k, .int x]) (n := 6) (Nat.le_of_ble_eq_true rfl)
  rw [lg_entry_eq]
  generalize (lg_sl ([.ref (aH D), .int p, .int k, .int x]) ++ List.replicate (6 - (lg_sl ([.ref (aH D), .int p, .int k, .int x])).length) Slot.unset).toArray = ls at hl ⊢
  have hl : lv_has ls 6 [(0, .ref (aH D)), (1, .int p), (2, .int k), (3, .int x)] := hl
  refine lv_iload_n hx hb dX3_set_0 rfl (lv_at hl 1 rfl) ?_
  refine ca_S (As := [.int p]) (rest := []) ⟨hx, hb, hml, hown, hts⟩ (cc_X3_isOutside l E A _ p) (va_cwS 1 hts gX3_set_X3_isOutside rfl rfl rfl (by decide +kernel) ⟨(Nat.le_of_ble_eq_true rfl), (Nat.le_of_ble_eq_true rfl)⟩) hT hI hA hS rfl rfl hl.1 (Nat.le_of_ble_eq_true rfl) dX3_set_1 ⟨(Nat.le_of_ble_eq_true rfl), (Nat.le_of_ble_eq_true rfl)⟩ (fun r w_2 H locs hp_1 hI hS => ?_)
  obtain ⟨rfl, ⟨ho_3, rfl⟩ | ⟨ho_3, rfl⟩⟩ := hp_1
  · refine W.eq (g2 := F0 m 4 ls [.int 1]) rfl ?_
    refine lv_if_eq (tgt := 10) hx hb dX3_set_4 (by decide) (fun c => absurd c (by decide)) (fun _ => ?_)
    refine lv_ldc (v := -2000000001) hx hb hown (hts (.constant RX3 23 (-2000000001)) (by decide +kernel)) dX3_set_7 ?_
    exact re_i hx hb hr hlocks hT hA hS hI (PoC.of (by
            unfold sp_set
            rw [if_pos (ho_3)]) hR rfl) (Nat.le_of_ble_eq_true rfl) (Nat.le_of_ble_eq_true rfl) dX3_set_9
  · refine W.eq (g2 := F0 m 4 ls [.int 0]) rfl ?_
    refine lv_if_eq (tgt := 10) hx hb dX3_set_4 (by decide) (fun _ => ?_) (fun c => absurd c (by decide))
    refine lv_aload_n hx hb dX3_set_10 rfl (lv_at hl 0 rfl) ?_
    refine lv_iload_n hx hb dX3_set_11 rfl (lv_at hl 1 rfl) ?_
    refine lv_iconst (v := 3) hx hb dX3_set_12 (by decide) ?_
    obtain ⟨pj, hpj, rfl⟩ := isP_nat ho_3
    refine ca_V (As := [.int (nI pj), .int 3]) (rest := []) (r0 := (RX3, TX3, 2)) (ci := 2) ⟨hx, hb, hml, hown, hts⟩ (cc_X3_rowOf l E A _ (by omega) msk3 hW hR) (cwV 2 hts gX3_set_X3_rowOf rfl rfl rfl (by decide +kernel) ⟨(Nat.le_of_ble_eq_true rfl), (Nat.le_of_ble_eq_true rfl)⟩) hT hI hA hS rfl hR.1 rfl rfl hl.1 (Nat.le_of_ble_eq_true rfl) dX3_set_13 ⟨(Nat.le_of_ble_eq_true rfl), (Nat.le_of_ble_eq_true rfl)⟩ (fun r w_5 H locs hp_4 hI hS => ?_)
    rcases hp_4 with ⟨ez6, rfl, hR⟩ | ⟨ez6, hv6, hk6, rfl, hR⟩ | ⟨ez6, hv6, hk6, rfl, hR⟩
    · refine W.eq (g2 := F0 m 16 ls [.null]) rfl ?_
      refine lv_astoreN (lv' := [(4, .null), (0, .ref (aH D)), (1, .int (nI pj)), (2, .int k), (3, .int x)]) hx hb dX3_set_16 hl (by decide) rfl (fun ls hl => ?_)
      refine lv_aloadN hx hb dX3_set_18 (lv_at hl 0 rfl) ?_
      refine lv_ifnonnullN hx hb dX3_set_20 ?_
      refine lv_iconst (v := 0) hx hb dX3_set_23 (by decide) ?_
      exact re_i hx hb hr hlocks hT hA hS hI (PoC.of (by
                unfold sp_set
                try simp only [pv_nI hpj]
                rw [if_neg (ho_3), if_pos (ez6)]) hR rfl) (Nat.le_of_ble_eq_true rfl) (Nat.le_of_ble_eq_true rfl) dX3_set_24
    · refine W.eq (g2 := F0 m 16 ls [.null]) rfl ?_
      refine lv_astoreN (lv' := [(4, .null), (0, .ref (aH D)), (1, .int (nI pj)), (2, .int k), (3, .int x)]) hx hb dX3_set_16 hl (by decide) rfl (fun ls hl => ?_)
      refine lv_aloadN hx hb dX3_set_18 (lv_at hl 0 rfl) ?_
      refine lv_ifnonnullN hx hb dX3_set_20 ?_
      refine lv_iconst (v := 0) hx hb dX3_set_23 (by decide) ?_
      exact re_i hx hb hr hlocks hT hA hS hI (PoC.of (by
                unfold sp_set
                try simp only [pv_nI hpj]
                rw [if_neg (ho_3), if_neg (ez6), if_pos (hk6)]) hR rfl) (Nat.le_of_ble_eq_true rfl) (Nat.le_of_ble_eq_true rfl) dX3_set_24
    · have hln6 := hW.ln hv6
      have hr6 : vR S (sPl S pj) := row_of_N hv6 hk6
      refine W.eq (g2 := F0 m 16 ls [.ref (aR D (sPl S pj))]) rfl ?_
      refine lv_astore (lv' := [(4, .ref (aR D (sPl S pj))), (0, .ref (aH D)), (1, .int (nI pj)), (2, .int k), (3, .int x)]) hx hb dX3_set_16 hl (by decide) rfl (fun ls hl => ?_)
      refine lv_aload hx hb dX3_set_18 (lv_at hl 0 rfl) ?_
      refine lv_ifnonnull (tgt := 25) hx hb dX3_set_20 (by decide) ?_
      refine lv_aload hx hb dX3_set_25 (lv_at hl 0 rfl) ?_
      refine lv_iload_n hx hb dX3_set_27 rfl (lv_at hl 3 rfl) ?_
      refine ca_V (As := [.int k]) (rest := []) (r0 := (RX1, TX1, 4)) (ci := 0) ⟨hx, hb, hml, hown, hts⟩ (cc_X1_has l E A _ k (hR.2.2.1 _ hv6).1) (cwV 1 hts gX3_set_X1_has rfl rfl rfl (by decide +kernel) ⟨(Nat.le_of_ble_eq_true rfl), (Nat.le_of_ble_eq_true rfl)⟩) hT hI hA hS rfl (hR.2.2.1 _ hv6).1 rfl rfl hl.1 (Nat.le_of_ble_eq_true rfl) dX3_set_28 ⟨(Nat.le_of_ble_eq_true rfl), (Nat.le_of_ble_eq_true rfl)⟩ (fun r w_8 H locs hp_7 hI hS => ?_)
      obtain ⟨rfl, ⟨hi_9, rfl⟩ | ⟨hi_9, rfl⟩⟩ := hp_7
      · have hi_9 : ¬ oI (lnv S (sPl S pj)) k := has_yes hi_9
        refine W.eq (g2 := F0 m 31 ls [.int 1]) rfl ?_
        refine lv_if_ne (tgt := 40) hx hb dX3_set_31 (by decide) (fun _ => ?_) (fun c => absurd c (by decide))
        obtain ⟨kj, hkj, rfl⟩ := oI_nat (hW.ln hv6) hi_9
        refine lv_aload hx hb dX3_set_40 (lv_at hl 0 rfl) ?_
        refine wr_get (ci := 0) (C := RX1) (T := TX1) (N := 4) (v := .ref (aN D (sPl S pj))) hx hb hts in_X1 hown hT hI (hR.2.2.1 _ hv6).1 rfl 2 (by decide) (hts (.fieldLink RX3 49 "CopyRows$Row" "numbers" "[I") (by decide +kernel)) rfl dX3_set_42 ?_
        refine lv_iload_n hx hb dX3_set_45 rfl (lv_at hl 3 rfl) ?_
        refine wr_ialdN (t := kj) (n := lnv S (sPl S pj)) (f := itv S (sPl S pj)) hx hb hT hI (hR.num hv6 hk6) (by omega) (by omega) dX3_set_46 ?_
        refine lv_istore (lv' := [(5, .int ((itv S (sPl S pj)) kj)), (4, .ref (aR D (sPl S pj))), (0, .ref (aH D)), (1, .int (nI pj)), (2, .int (nI kj)), (3, .int x)]) hx hb dX3_set_47 hl (by decide) rfl (fun ls hl => ?_)
        refine lv_aload hx hb dX3_set_49 (lv_at hl 1 rfl) ?_
        refine wr_get (ci := 0) (C := RX1) (T := TX1) (N := 4) (v := .ref (aN D (sPl S pj))) hx hb hts in_X1 hown hT hI (hR.2.2.1 _ hv6).1 rfl 2 (by decide) (hts (.fieldLink RX3 49 "CopyRows$Row" "numbers" "[I") (by decide +kernel)) rfl dX3_set_51 ?_
        refine lv_iload_n hx hb dX3_set_54 rfl (lv_at hl 4 rfl) ?_
        refine lv_aload hx hb dX3_set_55 (lv_at hl 1 rfl) ?_
        refine wr_get (ci := 0) (C := RX1) (T := TX1) (N := 4) (v := .int (kdv S (sPl S pj))) hx hb hts in_X1 hown hT hI (hR.2.2.1 _ hv6).1 rfl 0 (by decide) (hts (.fieldLink RX3 53 "CopyRows$Row" "kind" "I") (by decide +kernel)) rfl dX3_set_57 ?_
        refine lv_if_ne (tgt := 68) hx hb dX3_set_60 (by decide) (fun c_10 => ?_) (fun c_10 => ?_)
        · refine lv_iload_n hx hb dX3_set_68 rfl (lv_at hl 5 rfl) ?_
          refine wr_iastN (t := kj) (n := lnv S (sPl S pj)) (f := itv S (sPl S pj)) hx hb hT hI hS (hR.num hv6 hk6) (by omega) (by omega) dX3_set_69 (fun H locs hI hS => ?_)
          have hR := hR.numW (v := sPl S pj) hr6 hk6 (upd (itv S (sPl S pj)) kj (x))
          refine lv_iload hx hb dX3_set_70 (lv_at hl 0 rfl) ?_
          exact re_i hx hb hr hlocks hT hA hS hI (PoC.of (by
                        unfold sp_set
                        try simp only [pv_nI hpj]
                        rw [if_neg (ho_3), if_neg (ez6), if_neg ((not_not_intro hk6)), if_neg (hi_9)]
                        rw [ix_nI (show kj < 2 ^ 31 by omega), if_neg c_10]) hR rfl) (Nat.le_of_ble_eq_true rfl) (Nat.le_of_ble_eq_true rfl) dX3_set_72
        · refine lv_iload_n hx hb dX3_set_63 rfl (lv_at hl 5 rfl) ?_
          refine lv_i2b (v := x.toInt8.toInt32) hx hb dX3_set_64 rfl ?_
          refine lv_goto (tgt := 69) hx hb dX3_set_65 (by decide) ?_
          refine wr_iastN (t := kj) (n := lnv S (sPl S pj)) (f := itv S (sPl S pj)) hx hb hT hI hS (hR.num hv6 hk6) (by omega) (by omega) dX3_set_69 (fun H locs hI hS => ?_)
          have hR := hR.numW (v := sPl S pj) hr6 hk6 (upd (itv S (sPl S pj)) kj (x.toInt8.toInt32))
          refine lv_iload hx hb dX3_set_70 (lv_at hl 0 rfl) ?_
          exact re_i hx hb hr hlocks hT hA hS hI (PoC.of (by
                        unfold sp_set
                        try simp only [pv_nI hpj]
                        rw [if_neg (ho_3), if_neg (ez6), if_neg ((not_not_intro hk6)), if_neg (hi_9)]
                        rw [ix_nI (show kj < 2 ^ 31 by omega), if_pos c_10]) hR rfl) (Nat.le_of_ble_eq_true rfl) (Nat.le_of_ble_eq_true rfl) dX3_set_72
      · have hi_9 : oI (lnv S (sPl S pj)) k := has_no hi_9
        refine W.eq (g2 := F0 m 31 ls [.int 0]) rfl ?_
        refine lv_if_ne (tgt := 40) hx hb dX3_set_31 (by decide) (fun c => absurd c (by decide)) (fun _ => ?_)
        refine lv_aload_n hx hb dX3_set_34 rfl (lv_at hl 1 rfl) ?_
        refine lv_iconst (v := 3) hx hb dX3_set_35 (by decide) ?_
        refine ca_V (As := [.int 3]) (rest := []) (r0 := (RX3, TX3, 2)) (ci := 2) ⟨hx, hb, hml, hown, hts⟩ (cc_X3_fail l E A _ 3 hR) (cwV 1 hts gX3_set_X3_fail rfl rfl rfl (by decide +kernel) ⟨(Nat.le_of_ble_eq_true rfl), (Nat.le_of_ble_eq_true rfl)⟩) hT hI hA hS rfl hR.1 rfl rfl hl.1 (Nat.le_of_ble_eq_true rfl) dX3_set_36 ⟨(Nat.le_of_ble_eq_true rfl), (Nat.le_of_ble_eq_true rfl)⟩ (fun r w_12 H locs hp_11 hI hS => ?_)
        obtain ⟨rfl, hR⟩ := hp_11
        refine W.eq (g2 := F0 m 39 ls [.int 0]) rfl ?_
        exact re_i hx hb hr hlocks hT hA hS hI (PoC.of (by
                    unfold sp_set
                    try simp only [pv_nI hpj]
                    rw [if_neg (ho_3), if_neg (ez6), if_neg ((not_not_intro hk6)), if_pos (hi_9)]) hR rfl) (Nat.le_of_ble_eq_true rfl) (Nat.le_of_ble_eq_true rfl) dX3_set_39
end
section
set_option maxHeartbeats 4000000 in
set_option maxRecDepth 100000 in
theorem cc_X3_thing (l : Launch) (E : En) (A : Nat → Prop) (w : Wd) {S : Sx} {D : Ad} (p k c x : Int32) (hW : Wf S) (hR : Rp E S D w) (hb9 : sNr S < 512 ∧ sNt S < 512 ∧ sNl S < 512) : Ct l yX3_thing wsX3_thing ({ frames := 3, cells := 1, slots := 2, locals := 62 } : Room) E A w [.ref (aH D), .int p, .int k, .int c, .int x] (fun r w' => PoC E D (sp_thing S p k c x) r w') 1 2 := by
  refine Met.ofW (cc := cX3_thing) (maxL := 7) (ret := (some .int)) (by decide) rfl ?_
  intro pp0 ee0 s m args below meth cc0 s₁ B hml hv
  obtain ⟨rfl, hT, hI, hA⟩ := hv
  have hx := B.exec
  have hb := B.bytes
  have hr := B.returns
  have hts := atoms_spec (ws := wsX3_thing) B.pre
  have hown : s.vm.findClass RX3 = some m.cls := findClass_of_methodNamed B.named
  have hlocks := B.notSynchronized
  have in_X1 : ∀ w ∈ wsX10, w ∈ wsX3_thing := by decide +kernel
  have in_X2 : ∀ w ∈ wsX20, w ∈ wsX3_thing := by decide +kernel
  have hS : va_S A s.heap s.heap [] := va_S.rf
  have hl := lv_entry ([.ref (aH D), .int p, .int k, .int c, .int x]) (n := 7) (Nat.le_of_ble_eq_true rfl)
  rw [lg_entry_eq]
  generalize (lg_sl ([.ref (aH D), .int p, .int k, .int c, .int x]) ++ List.replicate (7 - (lg_sl ([.ref (aH D), .int p, .int k, .int c, .int x])).length) Slot.unset).toArray = ls at hl ⊢
  have hl : lv_has ls 7 [(0, .ref (aH D)), (1, .int p), (2, .int k), (3, .int c), (4, .int x)] := hl
  refine lv_iload_n hx hb dX3_thing_0 rfl (lv_at hl 1 rfl) ?_
  refine ca_S (As := [.int p]) (rest := []) ⟨hx, hb, hml, hown, hts⟩ (cc_X3_isOutside l E A _ p) (va_cwS 1 hts gX3_thing_X3_isOutside rfl rfl rfl (by decide +kernel) ⟨(Nat.le_of_ble_eq_true rfl), (Nat.le_of_ble_eq_true rfl)⟩) hT hI hA hS rfl rfl hl.1 (Nat.le_of_ble_eq_true rfl) dX3_thing_1 ⟨(Nat.le_of_ble_eq_true rfl), (Nat.le_of_ble_eq_true rfl)⟩ (fun r w_2 H locs hp_1 hI hS => ?_)
  obtain ⟨rfl, ⟨ho_3, rfl⟩ | ⟨ho_3, rfl⟩⟩ := hp_1
  · refine W.eq (g2 := F0 m 4 ls [.int 1]) rfl ?_
    refine lv_if_ne (tgt := 17) hx hb dX3_thing_4 (by decide) (fun _ => ?_) (fun c => absurd c (by decide))
    refine lv_ldc (v := -2000000001) hx hb hown (hts (.constant RX3 23 (-2000000001)) (by decide +kernel)) dX3_thing_17 ?_
    exact re_i hx hb hr hlocks hT hA hS hI (PoC.of (by
            unfold sp_thing
            rw [if_pos (Or.inl ho_3)]
            try rfl) hR rfl) (Nat.le_of_ble_eq_true rfl) (Nat.le_of_ble_eq_true rfl) dX3_thing_19
  · refine W.eq (g2 := F0 m 4 ls [.int 0]) rfl ?_
    refine lv_if_ne (tgt := 17) hx hb dX3_thing_4 (by decide) (fun c => absurd c (by decide)) (fun _ => ?_)
    refine lv_iload_n hx hb dX3_thing_7 rfl (lv_at hl 3 rfl) ?_
    refine lv_iconst (v := -1) hx hb dX3_thing_8 (by decide) ?_
    refine lv_icmp_lt (tgt := 17) hx hb dX3_thing_9 (by decide) (fun c_4 => ?_) (fun c_4 => ?_)
    · refine lv_ldc (v := -2000000001) hx hb hown (hts (.constant RX3 23 (-2000000001)) (by decide +kernel)) dX3_thing_17 ?_
      exact re_i hx hb hr hlocks hT hA hS hI (PoC.of (by
                unfold sp_thing
                rw [if_pos (Or.inr (Or.inl c_4))]
                try rfl) hR rfl) (Nat.le_of_ble_eq_true rfl) (Nat.le_of_ble_eq_true rfl) dX3_thing_19
    · refine lv_iload_n hx hb dX3_thing_12 rfl (lv_at hl 3 rfl) ?_
      refine lv_iconst (v := 2) hx hb dX3_thing_13 (by decide) ?_
      refine lv_icmp_le (tgt := 20) hx hb dX3_thing_14 (by decide) (fun c_5 => ?_) (fun c_5 => ?_)
      · refine lv_aload_n hx hb dX3_thing_20 rfl (lv_at hl 0 rfl) ?_
        refine lv_iload_n hx hb dX3_thing_21 rfl (lv_at hl 1 rfl) ?_
        refine lv_bipush (v := 56) hx hb dX3_thing_22 (by decide) ?_
        obtain ⟨pj, hpj, rfl⟩ := isP_nat ho_3
        refine ca_V (As := [.int (nI pj), .int 56]) (rest := []) (r0 := (RX3, TX3, 2)) (ci := 2) ⟨hx, hb, hml, hown, hts⟩ (cc_X3_rowOf l E A _ (by omega) msk56 hW hR) (cwV 2 hts gX3_thing_X3_rowOf rfl rfl rfl (by decide +kernel) ⟨(Nat.le_of_ble_eq_true rfl), (Nat.le_of_ble_eq_true rfl)⟩) hT hI hA hS rfl hR.1 rfl rfl hl.1 (Nat.le_of_ble_eq_true rfl) dX3_thing_24 ⟨(Nat.le_of_ble_eq_true rfl), (Nat.le_of_ble_eq_true rfl)⟩ (fun r w_7 H locs hp_6 hI hS => ?_)
        rcases hp_6 with ⟨ez8, rfl, hR⟩ | ⟨ez8, hv8, hk8, rfl, hR⟩ | ⟨ez8, hv8, hk8, rfl, hR⟩
        · refine W.eq (g2 := F0 m 27 ls [.null]) rfl ?_
          refine lv_astoreN (lv' := [(5, .null), (0, .ref (aH D)), (1, .int (nI pj)), (2, .int k), (3, .int c), (4, .int x)]) hx hb dX3_thing_27 hl (by decide) rfl (fun ls hl => ?_)
          refine lv_aloadN hx hb dX3_thing_29 (lv_at hl 0 rfl) ?_
          refine lv_ifnonnullN hx hb dX3_thing_31 ?_
          refine lv_iconst (v := 0) hx hb dX3_thing_34 (by decide) ?_
          exact re_i hx hb hr hlocks hT hA hS hI (PoC.of (by
                        unfold sp_thing
                        try simp only [pv_nI hpj]
                        rw [if_neg ((fun q => q.elim ho_3 (fun q => q.elim c_4 (not_not_intro c_5)))), if_pos (ez8)]
                        try rfl) hR rfl) (Nat.le_of_ble_eq_true rfl) (Nat.le_of_ble_eq_true rfl) dX3_thing_35
        · refine W.eq (g2 := F0 m 27 ls [.null]) rfl ?_
          refine lv_astoreN (lv' := [(5, .null), (0, .ref (aH D)), (1, .int (nI pj)), (2, .int k), (3, .int c), (4, .int x)]) hx hb dX3_thing_27 hl (by decide) rfl (fun ls hl => ?_)
          refine lv_aloadN hx hb dX3_thing_29 (lv_at hl 0 rfl) ?_
          refine lv_ifnonnullN hx hb dX3_thing_31 ?_
          refine lv_iconst (v := 0) hx hb dX3_thing_34 (by decide) ?_
          exact re_i hx hb hr hlocks hT hA hS hI (PoC.of (by
                        unfold sp_thing
                        try simp only [pv_nI hpj]
                        rw [if_neg ((fun q => q.elim ho_3 (fun q => q.elim c_4 (not_not_intro c_5)))), if_neg (ez8), if_pos (hk8)]
                        try rfl) hR rfl) (Nat.le_of_ble_eq_true rfl) (Nat.le_of_ble_eq_true rfl) dX3_thing_35
        · have hln8 := hW.ln hv8
          have hkn8 : ¬ isN (kdv S (sPl S pj)) := by rcases hk8 with h | h | h <;> rw [h] <;> decide
          have hr8 : vR S (sPl S pj) := vO_row hv8 (by rcases hk8 with h | h | h <;> rw [h] <;> decide)
          refine W.eq (g2 := F0 m 27 ls [.ref (aR D (sPl S pj))]) rfl ?_
          refine lv_astore (lv' := [(5, .ref (aR D (sPl S pj))), (0, .ref (aH D)), (1, .int (nI pj)), (2, .int k), (3, .int c), (4, .int x)]) hx hb dX3_thing_27 hl (by decide) rfl (fun ls hl => ?_)
          refine lv_aload hx hb dX3_thing_29 (lv_at hl 0 rfl) ?_
          refine lv_ifnonnull (tgt := 36) hx hb dX3_thing_31 (by decide) ?_
          refine lv_aload hx hb dX3_thing_36 (lv_at hl 0 rfl) ?_
          refine lv_iload_n hx hb dX3_thing_38 rfl (lv_at hl 3 rfl) ?_
          refine ca_V (As := [.int k]) (rest := []) (r0 := (RX1, TX1, 4)) (ci := 0) ⟨hx, hb, hml, hown, hts⟩ (cc_X1_has l E A _ k (hR.2.2.1 _ hv8).1) (cwV 1 hts gX3_thing_X1_has rfl rfl rfl (by decide +kernel) ⟨(Nat.le_of_ble_eq_true rfl), (Nat.le_of_ble_eq_true rfl)⟩) hT hI hA hS rfl (hR.2.2.1 _ hv8).1 rfl rfl hl.1 (Nat.le_of_ble_eq_true rfl) dX3_thing_39 ⟨(Nat.le_of_ble_eq_true rfl), (Nat.le_of_ble_eq_true rfl)⟩ (fun r w_10 H locs hp_9 hI hS => ?_)
          obtain ⟨rfl, ⟨hi_11, rfl⟩ | ⟨hi_11, rfl⟩⟩ := hp_9
          · have hi_11 : ¬ oI (lnv S (sPl S pj)) k := has_yes hi_11
            refine W.eq (g2 := F0 m 42 ls [.int 1]) rfl ?_
            refine lv_if_ne (tgt := 51) hx hb dX3_thing_42 (by decide) (fun _ => ?_) (fun c => absurd c (by decide))
            obtain ⟨kj, hkj, rfl⟩ := oI_nat (hW.ln hv8) hi_11
            refine lv_iload_n hx hb dX3_thing_51 rfl (lv_at hl 4 rfl) ?_
            refine lv_iconst (v := -1) hx hb dX3_thing_52 (by decide) ?_
            refine lv_icmp_ne (tgt := 60) hx hb dX3_thing_53 (by decide) (fun c_12 => ?_) (fun c_12 => ?_)
            · refine wr_new (ci := 1) (fs := [.int 0, .int 0]) (C := RX2) (T := TX2) (N := 2) hx hb hts in_X2 tyX2 tyX2_ok hown (hts (.classLink RX3 56 RX2) (by decide +kernel)) (hts (.instantiable RX2 2) (by decide +kernel)) (hts (.initialized RX2) (by decide +kernel)) hT hI hS hA rfl (fun j hj => by rcases (show j = 0 ∨ j = 1 by omega) with rfl | rfl <;> rfl) (Nat.le_of_ble_eq_true rfl) (Nat.le_of_ble_eq_true rfl) dX3_thing_60 (fun q H hq hI hS => ?_)
              refine W.widen (k := 1) (n := 2) (Nat.le_of_ble_eq_true rfl) (Nat.le_of_ble_eq_true rfl) ?_
              have hR0 := hR
              have hR := hR.sub (fun a9 x9 h9 => nw_in (y := .inr (1, [.int 0, .int 0])) h9 hq)
              refine lv_dup hx hb dX3_thing_63 rfl ?_
              refine lv_iload_n hx hb dX3_thing_64 rfl (lv_at hl 4 rfl) ?_
              refine lv_iload hx hb dX3_thing_65 (lv_at hl 5 rfl) ?_
              refine ca_I (As := [.int c, .int x]) (rest := [.ref q]) ⟨hx, hb, hml, hown, hts⟩ (cc_X2_init l E A _ c x (va_up_self _ _ _)) (cwI 2 hts gX3_thing_X2_init rfl rfl rfl (hts (.initialized RX2) (by decide +kernel)) (hts (.methodLink RX3 58 yX2_init) (by decide +kernel)) (hts (.instanceMethod yX2_init) (by decide +kernel)) rfl (by decide +kernel) ⟨(Nat.le_of_ble_eq_true rfl), (Nat.le_of_ble_eq_true rfl)⟩) hT hI hA hS rfl rfl hl.1 (Nat.le_of_ble_eq_true rfl) dX3_thing_67 ⟨(Nat.le_of_ble_eq_true rfl), (Nat.le_of_ble_eq_true rfl)⟩ (fun r w_14 H locs hp_13 hI hS => ?_)
              obtain ⟨rfl, hth, hkeep⟩ := hp_13
              have hR := hR0.sub (w' := w_14) (fun a9 x9 h9 => by rw [hkeep a9 (nw_ne h9 hq), va_up_ne _ _ (nw_ne h9 hq)]; exact h9)
              refine W.eq (g2 := F0 m 70 ls [.ref q]) rfl ?_
              refine lv_astore (lv' := [(6, .ref q), (5, .ref (aR D (sPl S pj))), (0, .ref (aH D)), (1, .int (nI pj)), (2, .int (nI kj)), (3, .int c), (4, .int x)]) hx hb dX3_thing_70 hl (by decide) rfl (fun ls hl => ?_)
              refine lv_aload hx hb dX3_thing_72 (lv_at hl 1 rfl) ?_
              refine lv_aload hx hb dX3_thing_74 (lv_at hl 0 rfl) ?_
              refine ca_V (As := [.ref q]) (rest := []) (r0 := (RX1, TX1, 4)) (ci := 0) ⟨hx, hb, hml, hown, hts⟩ (cc_X1_takes_T l E A _ (hR.2.2.1 _ hv8).1 hth) (cwV 1 hts gX3_thing_X1_takes rfl rfl rfl (by decide +kernel) ⟨(Nat.le_of_ble_eq_true rfl), (Nat.le_of_ble_eq_true rfl)⟩) hT hI hA hS rfl (hR.2.2.1 _ hv8).1 rfl rfl hl.1 (Nat.le_of_ble_eq_true rfl) dX3_thing_76 ⟨(Nat.le_of_ble_eq_true rfl), (Nat.le_of_ble_eq_true rfl)⟩ (fun r w_16 H locs hp_15 hI hS => ?_)
              obtain ⟨rfl, ⟨hf_17, rfl⟩ | ⟨hf_17, rfl⟩⟩ := hp_15
              · have hf_17 : fT (kdv S (sPl S pj)) c := hf_17
                refine W.eq (g2 := F0 m 79 ls [.int 1]) rfl ?_
                refine lv_if_ne (tgt := 88) hx hb dX3_thing_79 (by decide) (fun _ => ?_) (fun c => absurd c (by decide))
                have hR := hR0.growT (k := c) (x := x) hW hq hth (fun a9 h9 => (hkeep a9 h9).trans (va_up_ne _ _ h9))
                refine lv_aload hx hb dX3_thing_88 (lv_at hl 1 rfl) ?_
                refine wr_get (ci := 0) (C := RX1) (T := TX1) (N := 4) (v := .ref (aQ D (sPl S pj))) hx hb hts in_X1 hown hT hI (hR.2.2.1 _ hv8).1 rfl 3 (by decide) (hts (.fieldLink RX3 63 "CopyRows$Row" "parts" "[LCopyRows$Part;") (by decide +kernel)) rfl dX3_thing_90 ?_
                refine lv_iload_n hx hb dX3_thing_93 rfl (lv_at hl 4 rfl) ?_
                refine lv_aload hx hb dX3_thing_94 (lv_at hl 0 rfl) ?_
                refine W.eq (g2 := F0 m 96 ls (va_rf (some (q)) :: .int (nI kj) :: .ref (aQ D (sPl S pj)) :: [])) rfl ?_
                refine wr_aastV (t := kj) (n := lnv S (sPl S pj)) (o := some (q)) (f := fun k9 => pO (adT D (nI (sNt S)) q) (kdv S (sPl S pj)) (itv S (sPl S pj) k9)) hx hb hT hI hS (hR.par hv8 hkn8) 1 rfl (fun v9 hv9 => by cases hv9; exact wr_any hT hI hth (r := (RX2, TX2, 2)) rfl hT.2.2.2.2.2.2.2.2.1) (by omega) (by omega) dX3_thing_96 (fun H locs hI hS => ?_)
                have hR := hR.parW (v := sPl S pj) hr8 hkn8 (upd (itv S (sPl S pj)) kj (nI (sNt S))) (pO_upd ((pO_th (nI_nm1 (by omega)) (kT_ne2 hk8)).trans (congrArg some adT_self)))
                refine lv_iconst (v := 1) hx hb dX3_thing_97 (by decide) ?_
                exact re_i hx hb hr hlocks hT hA hS hI (PoC.of (by
                                    unfold sp_thing
                                    try simp only [pv_nI hpj, ix_nI (show kj < 2 ^ 31 by omega)]
                                    rw [if_neg ((fun q => q.elim ho_3 (fun q => q.elim c_4 (not_not_intro c_5)))), if_neg (ez8), if_neg ((not_not_intro hk8)), if_neg (hi_11), if_neg (not_not_intro (Or.inr hf_17)), if_neg (c_12)]
                                    try rfl) hR rfl) (Nat.le_of_ble_eq_true rfl) (Nat.le_of_ble_eq_true rfl) dX3_thing_98
              · have hf_17 : ¬ fT (kdv S (sPl S pj)) c := hf_17
                refine W.eq (g2 := F0 m 79 ls [.int 0]) rfl ?_
                refine lv_if_ne (tgt := 88) hx hb dX3_thing_79 (by decide) (fun c => absurd c (by decide)) (fun _ => ?_)
                refine lv_aload_n hx hb dX3_thing_82 rfl (lv_at hl 2 rfl) ?_
                refine lv_iconst (v := 2) hx hb dX3_thing_83 (by decide) ?_
                refine ca_V (As := [.int 2]) (rest := []) (r0 := (RX3, TX3, 2)) (ci := 2) ⟨hx, hb, hml, hown, hts⟩ (cc_X3_fail l E A _ 2 hR) (cwV 1 hts gX3_thing_X3_fail rfl rfl rfl (by decide +kernel) ⟨(Nat.le_of_ble_eq_true rfl), (Nat.le_of_ble_eq_true rfl)⟩) hT hI hA hS rfl hR.1 rfl rfl hl.1 (Nat.le_of_ble_eq_true rfl) dX3_thing_84 ⟨(Nat.le_of_ble_eq_true rfl), (Nat.le_of_ble_eq_true rfl)⟩ (fun r w_19 H locs hp_18 hI hS => ?_)
                obtain ⟨rfl, hR⟩ := hp_18
                refine W.eq (g2 := F0 m 87 ls [.int 0]) rfl ?_
                exact re_i hx hb hr hlocks hT hA hS hI (PoC.of (by
                                    unfold sp_thing
                                    try simp only [pv_nI hpj, ix_nI (show kj < 2 ^ 31 by omega)]
                                    rw [if_neg ((fun q => q.elim ho_3 (fun q => q.elim c_4 (not_not_intro c_5)))), if_neg (ez8), if_neg ((not_not_intro hk8)), if_neg (hi_11), if_pos (fun q => q.elim c_12 hf_17)]
                                    try rfl) hR rfl) (Nat.le_of_ble_eq_true rfl) (Nat.le_of_ble_eq_true rfl) dX3_thing_87
            · refine lv_null hx hb dX3_thing_56 ?_
              refine lv_goto (tgt := 70) hx hb dX3_thing_57 (by decide) ?_
              refine lv_astoreN (lv' := [(6, .null), (5, .ref (aR D (sPl S pj))), (0, .ref (aH D)), (1, .int (nI pj)), (2, .int (nI kj)), (3, .int c), (4, .int x)]) hx hb dX3_thing_70 hl (by decide) rfl (fun ls hl => ?_)
              refine lv_aload hx hb dX3_thing_72 (lv_at hl 1 rfl) ?_
              refine lv_aloadN hx hb dX3_thing_74 (lv_at hl 0 rfl) ?_
              refine ca_V (As := [.null]) (rest := []) (r0 := (RX1, TX1, 4)) (ci := 0) ⟨hx, hb, hml, hown, hts⟩ (cc_X1_takes_N l E A _ (hR.2.2.1 _ hv8).1) (cwV 1 hts gX3_thing_X1_takes rfl rfl rfl (by decide +kernel) ⟨(Nat.le_of_ble_eq_true rfl), (Nat.le_of_ble_eq_true rfl)⟩) hT hI hA hS rfl (hR.2.2.1 _ hv8).1 rfl rfl hl.1 (Nat.le_of_ble_eq_true rfl) dX3_thing_76 ⟨(Nat.le_of_ble_eq_true rfl), (Nat.le_of_ble_eq_true rfl)⟩ (fun r w_21 H locs hp_20 hI hS => ?_)
              obtain ⟨rfl, rfl⟩ := hp_20
              refine W.eq (g2 := F0 m 79 ls [.int 1]) rfl ?_
              refine lv_if_ne (tgt := 88) hx hb dX3_thing_79 (by decide) (fun _ => ?_) (fun c => absurd c (by decide))
              refine lv_aload hx hb dX3_thing_88 (lv_at hl 1 rfl) ?_
              refine wr_get (ci := 0) (C := RX1) (T := TX1) (N := 4) (v := .ref (aQ D (sPl S pj))) hx hb hts in_X1 hown hT hI (hR.2.2.1 _ hv8).1 rfl 3 (by decide) (hts (.fieldLink RX3 63 "CopyRows$Row" "parts" "[LCopyRows$Part;") (by decide +kernel)) rfl dX3_thing_90 ?_
              refine lv_iload_n hx hb dX3_thing_93 rfl (lv_at hl 4 rfl) ?_
              refine lv_aloadN hx hb dX3_thing_94 (lv_at hl 0 rfl) ?_
              refine W.eq (g2 := F0 m 96 ls (va_rf none :: .int (nI kj) :: .ref (aQ D (sPl S pj)) :: [])) rfl ?_
              refine wr_aastV (t := kj) (n := lnv S (sPl S pj)) (o := none) (f := fun k9 => pO D (kdv S (sPl S pj)) (itv S (sPl S pj) k9)) hx hb hT hI hS (hR.par hv8 hkn8) 1 rfl (fun v9 hv9 => by cases hv9) (by omega) (by omega) dX3_thing_96 (fun H locs hI hS => ?_)
              have hR := hR.parW (v := sPl S pj) hr8 hkn8 (upd (itv S (sPl S pj)) kj (-1)) (pO_upd (pO_m1))
              refine lv_iconst (v := 1) hx hb dX3_thing_97 (by decide) ?_
              exact re_i hx hb hr hlocks hT hA hS hI (PoC.of (by
                                unfold sp_thing
                                try simp only [pv_nI hpj, ix_nI (show kj < 2 ^ 31 by omega)]
                                rw [if_neg ((fun q => q.elim ho_3 (fun q => q.elim c_4 (not_not_intro c_5)))), if_neg (ez8), if_neg ((not_not_intro hk8)), if_neg (hi_11), if_neg (not_not_intro (Or.inl c_12)), if_pos (c_12)]
                                try rfl) hR rfl) (Nat.le_of_ble_eq_true rfl) (Nat.le_of_ble_eq_true rfl) dX3_thing_98
          · have hi_11 : oI (lnv S (sPl S pj)) k := has_no hi_11
            refine W.eq (g2 := F0 m 42 ls [.int 0]) rfl ?_
            refine lv_if_ne (tgt := 51) hx hb dX3_thing_42 (by decide) (fun c => absurd c (by decide)) (fun _ => ?_)
            refine lv_aload_n hx hb dX3_thing_45 rfl (lv_at hl 1 rfl) ?_
            refine lv_iconst (v := 3) hx hb dX3_thing_46 (by decide) ?_
            refine ca_V (As := [.int 3]) (rest := []) (r0 := (RX3, TX3, 2)) (ci := 2) ⟨hx, hb, hml, hown, hts⟩ (cc_X3_fail l E A _ 3 hR) (cwV 1 hts gX3_thing_X3_fail rfl rfl rfl (by decide +kernel) ⟨(Nat.le_of_ble_eq_true rfl), (Nat.le_of_ble_eq_true rfl)⟩) hT hI hA hS rfl hR.1 rfl rfl hl.1 (Nat.le_of_ble_eq_true rfl) dX3_thing_47 ⟨(Nat.le_of_ble_eq_true rfl), (Nat.le_of_ble_eq_true rfl)⟩ (fun r w_23 H locs hp_22 hI hS => ?_)
            obtain ⟨rfl, hR⟩ := hp_22
            refine W.eq (g2 := F0 m 50 ls [.int 0]) rfl ?_
            exact re_i hx hb hr hlocks hT hA hS hI (PoC.of (by
                            unfold sp_thing
                            try simp only [pv_nI hpj]
                            rw [if_neg ((fun q => q.elim ho_3 (fun q => q.elim c_4 (not_not_intro c_5)))), if_neg (ez8), if_neg ((not_not_intro hk8)), if_pos (hi_11)]
                            try rfl) hR rfl) (Nat.le_of_ble_eq_true rfl) (Nat.le_of_ble_eq_true rfl) dX3_thing_50
      · refine lv_ldc (v := -2000000001) hx hb hown (hts (.constant RX3 23 (-2000000001)) (by decide +kernel)) dX3_thing_17 ?_
        exact re_i hx hb hr hlocks hT hA hS hI (PoC.of (by
                    unfold sp_thing
                    rw [if_pos (Or.inr (Or.inr (c_5)))]
                    try rfl) hR rfl) (Nat.le_of_ble_eq_true rfl) (Nat.le_of_ble_eq_true rfl) dX3_thing_19

set_option maxHeartbeats 4000000 in
set_option maxRecDepth 100000 in
theorem cc_X3_hang (l : Launch) (E : En) (A : Nat → Prop) (w : Wd) {S : Sx} {D : Ad} (p k o : Int32) (hW : Wf S) (hR : Rp E S D w) (hb9 : sNr S < 512 ∧ sNt S < 512 ∧ sNl S < 512) : Ct l yX3_hang wsX3_hang ({ frames := 1, cells := 0, slots := 0, locals := 23 } : Room) E A w [.ref (aH D), .int p, .int k, .int o] (fun r w' => PoC E D (sp_hang S p k o) r w') 0 0 := by
  refine Met.ofW (cc := cX3_hang) (maxL := 6) (ret := (some .int)) (by decide) rfl ?_
  intro pp0 ee0 s m args below meth cc0 s₁ B hml hv
  obtain ⟨rfl, hT, hI, hA⟩ := hv
  have hx := B.exec
  have hb := B.bytes
  have hr := B.returns
  have hts := atoms_spec (ws := wsX3_hang) B.pre
  have hown : s.vm.findClass RX3 = some m.cls := findClass_of_methodNamed B.named
  have hlocks := B.notSynchronized
  have in_X1 : ∀ w ∈ wsX10, w ∈ wsX3_hang := by decide +kernel
  have in_X3 : ∀ w ∈ wsX30, w ∈ wsX3_hang := by decide +kernel
  have hS : va_S A s.heap s.heap [] := va_S.rf
  have hl := lv_entry ([.ref (aH D), .int p, .int k, .int o]) (n := 6) (Nat.le_of_ble_eq_true rfl)
  rw [lg_entry_eq]
  generalize (lg_sl ([.ref (aH D), .int p, .int k, .int o]) ++ List.replicate (6 - (lg_sl ([.ref (aH D), .int p, .int k, .int o])).length) Slot.unset).toArray = ls at hl ⊢
  have hl : lv_has ls 6 [(0, .ref (aH D)), (1, .int p), (2, .int k), (3, .int o)] := hl
  refine lv_iload_n hx hb dX3_hang_0 rfl (lv_at hl 1 rfl) ?_
  refine ca_S (As := [.int p]) (rest := []) ⟨hx, hb, hml, hown, hts⟩ (cc_X3_isOutside l E A _ p) (va_cwS 1 hts gX3_hang_X3_isOutside rfl rfl rfl (by decide +kernel) ⟨(Nat.le_of_ble_eq_true rfl), (Nat.le_of_ble_eq_true rfl)⟩) hT hI hA hS rfl rfl hl.1 (Nat.le_of_ble_eq_true rfl) dX3_hang_1 ⟨(Nat.le_of_ble_eq_true rfl), (Nat.le_of_ble_eq_true rfl)⟩ (fun r w_2 H locs hp_1 hI hS => ?_)
  obtain ⟨rfl, ⟨ho_3, rfl⟩ | ⟨ho_3, rfl⟩⟩ := hp_1
  · refine W.eq (g2 := F0 m 4 ls [.int 1]) rfl ?_
    refine lv_if_ne (tgt := 14) hx hb dX3_hang_4 (by decide) (fun _ => ?_) (fun c => absurd c (by decide))
    refine lv_ldc (v := -2000000001) hx hb hown (hts (.constant RX3 23 (-2000000001)) (by decide +kernel)) dX3_hang_14 ?_
    exact re_i hx hb hr hlocks hT hA hS hI (PoC.of (by
            unfold sp_hang
            rw [if_pos (Or.inl ho_3)]
            try rfl) hR rfl) (Nat.le_of_ble_eq_true rfl) (Nat.le_of_ble_eq_true rfl) dX3_hang_16
  · refine W.eq (g2 := F0 m 4 ls [.int 0]) rfl ?_
    refine lv_if_ne (tgt := 14) hx hb dX3_hang_4 (by decide) (fun c => absurd c (by decide)) (fun _ => ?_)
    refine lv_iload_n hx hb dX3_hang_7 rfl (lv_at hl 3 rfl) ?_
    refine ca_S (As := [.int o]) (rest := []) ⟨hx, hb, hml, hown, hts⟩ (cc_X3_isOutside l E A _ o) (va_cwS 1 hts gX3_hang_X3_isOutside rfl rfl rfl (by decide +kernel) ⟨(Nat.le_of_ble_eq_true rfl), (Nat.le_of_ble_eq_true rfl)⟩) hT hI hA hS rfl rfl hl.1 (Nat.le_of_ble_eq_true rfl) dX3_hang_8 ⟨(Nat.le_of_ble_eq_true rfl), (Nat.le_of_ble_eq_true rfl)⟩ (fun r w_5 H locs hp_4 hI hS => ?_)
    obtain ⟨rfl, ⟨ho_6, rfl⟩ | ⟨ho_6, rfl⟩⟩ := hp_4
    · refine W.eq (g2 := F0 m 11 ls [.int 1]) rfl ?_
      refine lv_if_eq (tgt := 17) hx hb dX3_hang_11 (by decide) (fun c => absurd c (by decide)) (fun _ => ?_)
      refine lv_ldc (v := -2000000001) hx hb hown (hts (.constant RX3 23 (-2000000001)) (by decide +kernel)) dX3_hang_14 ?_
      exact re_i hx hb hr hlocks hT hA hS hI (PoC.of (by
                unfold sp_hang
                rw [if_pos (Or.inr (ho_6))]
                try rfl) hR rfl) (Nat.le_of_ble_eq_true rfl) (Nat.le_of_ble_eq_true rfl) dX3_hang_16
    · refine W.eq (g2 := F0 m 11 ls [.int 0]) rfl ?_
      refine lv_if_eq (tgt := 17) hx hb dX3_hang_11 (by decide) (fun _ => ?_) (fun c => absurd c (by decide))
      refine lv_aload_n hx hb dX3_hang_17 rfl (lv_at hl 0 rfl) ?_
      refine lv_iload_n hx hb dX3_hang_18 rfl (lv_at hl 1 rfl) ?_
      refine lv_iconst (v := 4) hx hb dX3_hang_19 (by decide) ?_
      obtain ⟨pj, hpj, rfl⟩ := isP_nat ho_3
      refine ca_V (As := [.int (nI pj), .int 4]) (rest := []) (r0 := (RX3, TX3, 2)) (ci := 2) ⟨hx, hb, hml, hown, hts⟩ (cc_X3_rowOf l E A _ (by omega) msk4 hW hR) (cwV 2 hts gX3_hang_X3_rowOf rfl rfl rfl (by decide +kernel) ⟨(Nat.le_of_ble_eq_true rfl), (Nat.le_of_ble_eq_true rfl)⟩) hT hI hA hS rfl hR.1 rfl rfl hl.1 (Nat.le_of_ble_eq_true rfl) dX3_hang_20 ⟨(Nat.le_of_ble_eq_true rfl), (Nat.le_of_ble_eq_true rfl)⟩ (fun r w_8 H locs hp_7 hI hS => ?_)
      rcases hp_7 with ⟨ez9, rfl, hR⟩ | ⟨ez9, hv9, hk9, rfl, hR⟩ | ⟨ez9, hv9, hk9, rfl, hR⟩
      · refine W.eq (g2 := F0 m 23 ls [.null]) rfl ?_
        refine lv_astoreN (lv' := [(4, .null), (0, .ref (aH D)), (1, .int (nI pj)), (2, .int k), (3, .int o)]) hx hb dX3_hang_23 hl (by decide) rfl (fun ls hl => ?_)
        refine lv_aloadN hx hb dX3_hang_25 (lv_at hl 0 rfl) ?_
        refine lv_ifnonnullN hx hb dX3_hang_27 ?_
        refine lv_iconst (v := 0) hx hb dX3_hang_30 (by decide) ?_
        exact re_i hx hb hr hlocks hT hA hS hI (PoC.of (by
                    unfold sp_hang
                    try simp only [pv_nI hpj]
                    rw [if_neg ((fun q => q.elim ho_3 ho_6)), if_pos (ez9)]
                    try rfl) hR rfl) (Nat.le_of_ble_eq_true rfl) (Nat.le_of_ble_eq_true rfl) dX3_hang_31
      · refine W.eq (g2 := F0 m 23 ls [.null]) rfl ?_
        refine lv_astoreN (lv' := [(4, .null), (0, .ref (aH D)), (1, .int (nI pj)), (2, .int k), (3, .int o)]) hx hb dX3_hang_23 hl (by decide) rfl (fun ls hl => ?_)
        refine lv_aloadN hx hb dX3_hang_25 (lv_at hl 0 rfl) ?_
        refine lv_ifnonnullN hx hb dX3_hang_27 ?_
        refine lv_iconst (v := 0) hx hb dX3_hang_30 (by decide) ?_
        exact re_i hx hb hr hlocks hT hA hS hI (PoC.of (by
                    unfold sp_hang
                    try simp only [pv_nI hpj]
                    rw [if_neg ((fun q => q.elim ho_3 ho_6)), if_neg (ez9), if_pos (hk9)]
                    try rfl) hR rfl) (Nat.le_of_ble_eq_true rfl) (Nat.le_of_ble_eq_true rfl) dX3_hang_31
      · have hln9 := hW.ln hv9
        have hk9 : kdv S (sPl S pj) = 2 := hk9
        have hkn9 : ¬ isN (kdv S (sPl S pj)) := by rw [hk9]; decide
        have hr9 : vR S (sPl S pj) := vO_row hv9 (by rw [hk9]; decide)
        refine W.eq (g2 := F0 m 23 ls [.ref (aR D (sPl S pj))]) rfl ?_
        refine lv_astore (lv' := [(4, .ref (aR D (sPl S pj))), (0, .ref (aH D)), (1, .int (nI pj)), (2, .int k), (3, .int o)]) hx hb dX3_hang_23 hl (by decide) rfl (fun ls hl => ?_)
        refine lv_aload hx hb dX3_hang_25 (lv_at hl 0 rfl) ?_
        refine lv_ifnonnull (tgt := 32) hx hb dX3_hang_27 (by decide) ?_
        refine lv_aload_n hx hb dX3_hang_32 rfl (lv_at hl 1 rfl) ?_
        refine wr_get (ci := 2) (C := RX3) (T := TX3) (N := 2) (v := .ref (aP D)) hx hb hts in_X3 hown hT hI hR.1 rfl 0 (by decide) (hts (.fieldLink RX3 11 "CopyRows" "places" "[LCopyRows$Row;") (by decide +kernel)) rfl dX3_hang_33 ?_
        refine lv_iload_n hx hb dX3_hang_36 rfl (lv_at hl 4 rfl) ?_
        obtain ⟨oj, hoj, rfl⟩ := isP_nat ho_6
        refine wr_aaldN (t := oj) hx hb hT hI hR.2.1 2 rfl (by omega) (by omega) dX3_hang_37 ?_
        rcases hW.pl D oj with ⟨ez10, ep10⟩ | ⟨ez10, hv10, ep10⟩
        · refine W.eq (g2 := F0 m 38 ls [.null]) (by rw [ep10]; rfl) ?_
          refine lv_astoreN (lv' := [(5, .null), (4, .ref (aR D (sPl S pj))), (0, .ref (aH D)), (1, .int (nI pj)), (2, .int k), (3, .int (nI oj))]) hx hb dX3_hang_38 hl (by decide) rfl (fun ls hl => ?_)
          refine lv_aloadN hx hb dX3_hang_40 (lv_at hl 0 rfl) ?_
          refine lv_ifnullN (tgt := 60) hx hb dX3_hang_42 (by decide) ?_
          refine lv_aload hx hb dX3_hang_60 (lv_at hl 1 rfl) ?_
          refine lv_iload_n hx hb dX3_hang_62 rfl (lv_at hl 4 rfl) ?_
          refine ca_V (As := [.int k]) (rest := []) (r0 := (RX1, TX1, 4)) (ci := 0) ⟨hx, hb, hml, hown, hts⟩ (cc_X1_has l E A _ k (hR.2.2.1 _ hv9).1) (cwV 1 hts gX3_hang_X1_has rfl rfl rfl (by decide +kernel) ⟨(Nat.le_of_ble_eq_true rfl), (Nat.le_of_ble_eq_true rfl)⟩) hT hI hA hS rfl (hR.2.2.1 _ hv9).1 rfl rfl hl.1 (Nat.le_of_ble_eq_true rfl) dX3_hang_63 ⟨(Nat.le_of_ble_eq_true rfl), (Nat.le_of_ble_eq_true rfl)⟩ (fun r w_12 H locs hp_11 hI hS => ?_)
          obtain ⟨rfl, ⟨hi_13, rfl⟩ | ⟨hi_13, rfl⟩⟩ := hp_11
          · have hi_13 : ¬ oI (lnv S (sPl S pj)) k := has_yes hi_13
            refine W.eq (g2 := F0 m 66 ls [.int 1]) rfl ?_
            refine lv_if_ne (tgt := 75) hx hb dX3_hang_66 (by decide) (fun _ => ?_) (fun c => absurd c (by decide))
            obtain ⟨kj, hkj, rfl⟩ := oI_nat (hW.ln hv9) hi_13
            refine lv_aload hx hb dX3_hang_75 (lv_at hl 1 rfl) ?_
            refine wr_get (ci := 0) (C := RX1) (T := TX1) (N := 4) (v := .ref (aQ D (sPl S pj))) hx hb hts in_X1 hown hT hI (hR.2.2.1 _ hv9).1 rfl 3 (by decide) (hts (.fieldLink RX3 63 "CopyRows$Row" "parts" "[LCopyRows$Part;") (by decide +kernel)) rfl dX3_hang_77 ?_
            refine lv_iload_n hx hb dX3_hang_80 rfl (lv_at hl 4 rfl) ?_
            refine lv_aloadN hx hb dX3_hang_81 (lv_at hl 0 rfl) ?_
            refine W.eq (g2 := F0 m 83 ls (va_rf none :: .int (nI kj) :: .ref (aQ D (sPl S pj)) :: [])) rfl ?_
            refine wr_aastV (t := kj) (n := lnv S (sPl S pj)) (o := none) (f := fun k9 => pO D (kdv S (sPl S pj)) (itv S (sPl S pj) k9)) hx hb hT hI hS (hR.par hv9 hkn9) 1 rfl (fun v9 hv9 => by cases hv9) (by omega) (by omega) dX3_hang_83 (fun H locs hI hS => ?_)
            have hR := hR.parW (v := sPl S pj) hr9 hkn9 (upd (itv S (sPl S pj)) kj (sPl S oj)) (pO_upd ((congrArg (pO D _) ez10).trans pO_m1))
            refine lv_iconst (v := 1) hx hb dX3_hang_84 (by decide) ?_
            exact re_i hx hb hr hlocks hT hA hS hI (PoC.of (by
                            unfold sp_hang
                            try simp only [pv_nI hpj, pv_nI hoj, ix_nI (show kj < 2 ^ 31 by omega)]
                            rw [if_neg ((fun q => q.elim ho_3 ho_6)), if_neg (ez9), if_neg ((not_not_intro hk9)), if_neg (not_not_intro (Or.inl ez10)), if_neg (hi_13)]
                            try rfl) hR rfl) (Nat.le_of_ble_eq_true rfl) (Nat.le_of_ble_eq_true rfl) dX3_hang_85
          · have hi_13 : oI (lnv S (sPl S pj)) k := has_no hi_13
            refine W.eq (g2 := F0 m 66 ls [.int 0]) rfl ?_
            refine lv_if_ne (tgt := 75) hx hb dX3_hang_66 (by decide) (fun c => absurd c (by decide)) (fun _ => ?_)
            refine lv_aload_n hx hb dX3_hang_69 rfl (lv_at hl 2 rfl) ?_
            refine lv_iconst (v := 3) hx hb dX3_hang_70 (by decide) ?_
            refine ca_V (As := [.int 3]) (rest := []) (r0 := (RX3, TX3, 2)) (ci := 2) ⟨hx, hb, hml, hown, hts⟩ (cc_X3_fail l E A _ 3 hR) (cwV 1 hts gX3_hang_X3_fail rfl rfl rfl (by decide +kernel) ⟨(Nat.le_of_ble_eq_true rfl), (Nat.le_of_ble_eq_true rfl)⟩) hT hI hA hS rfl hR.1 rfl rfl hl.1 (Nat.le_of_ble_eq_true rfl) dX3_hang_71 ⟨(Nat.le_of_ble_eq_true rfl), (Nat.le_of_ble_eq_true rfl)⟩ (fun r w_15 H locs hp_14 hI hS => ?_)
            obtain ⟨rfl, hR⟩ := hp_14
            refine W.eq (g2 := F0 m 74 ls [.int 0]) rfl ?_
            exact re_i hx hb hr hlocks hT hA hS hI (PoC.of (by
                            unfold sp_hang
                            try simp only [pv_nI hpj, pv_nI hoj]
                            rw [if_neg ((fun q => q.elim ho_3 ho_6)), if_neg (ez9), if_neg ((not_not_intro hk9)), if_neg (not_not_intro (Or.inl ez10)), if_pos (hi_13)]
                            try rfl) hR rfl) (Nat.le_of_ble_eq_true rfl) (Nat.le_of_ble_eq_true rfl) dX3_hang_74
        · refine W.eq (g2 := F0 m 38 ls [.ref (aR D (sPl S oj))]) (by rw [ep10]; rfl) ?_
          refine lv_astore (lv' := [(5, .ref (aR D (sPl S oj))), (4, .ref (aR D (sPl S pj))), (0, .ref (aH D)), (1, .int (nI pj)), (2, .int k), (3, .int (nI oj))]) hx hb dX3_hang_38 hl (by decide) rfl (fun ls hl => ?_)
          refine lv_aload hx hb dX3_hang_40 (lv_at hl 0 rfl) ?_
          refine lv_ifnull hx hb dX3_hang_42 ?_
          refine lv_aload hx hb dX3_hang_45 (lv_at hl 0 rfl) ?_
          refine wr_get (ci := 0) (C := RX1) (T := TX1) (N := 4) (v := .int (kdv S (sPl S oj))) hx hb hts in_X1 hown hT hI (hR.2.2.1 _ hv10).1 rfl 0 (by decide) (hts (.fieldLink RX3 53 "CopyRows$Row" "kind" "I") (by decide +kernel)) rfl dX3_hang_47 ?_
          refine lv_iconst (v := 1) hx hb dX3_hang_50 (by decide) ?_
          refine lv_icmp_eq (tgt := 60) hx hb dX3_hang_51 (by decide) (fun c_16 => ?_) (fun c_16 => ?_)
          · refine lv_aload hx hb dX3_hang_60 (lv_at hl 1 rfl) ?_
            refine lv_iload_n hx hb dX3_hang_62 rfl (lv_at hl 4 rfl) ?_
            refine ca_V (As := [.int k]) (rest := []) (r0 := (RX1, TX1, 4)) (ci := 0) ⟨hx, hb, hml, hown, hts⟩ (cc_X1_has l E A _ k (hR.2.2.1 _ hv9).1) (cwV 1 hts gX3_hang_X1_has rfl rfl rfl (by decide +kernel) ⟨(Nat.le_of_ble_eq_true rfl), (Nat.le_of_ble_eq_true rfl)⟩) hT hI hA hS rfl (hR.2.2.1 _ hv9).1 rfl rfl hl.1 (Nat.le_of_ble_eq_true rfl) dX3_hang_63 ⟨(Nat.le_of_ble_eq_true rfl), (Nat.le_of_ble_eq_true rfl)⟩ (fun r w_18 H locs hp_17 hI hS => ?_)
            obtain ⟨rfl, ⟨hi_19, rfl⟩ | ⟨hi_19, rfl⟩⟩ := hp_17
            · have hi_19 : ¬ oI (lnv S (sPl S pj)) k := has_yes hi_19
              refine W.eq (g2 := F0 m 66 ls [.int 1]) rfl ?_
              refine lv_if_ne (tgt := 75) hx hb dX3_hang_66 (by decide) (fun _ => ?_) (fun c => absurd c (by decide))
              obtain ⟨kj, hkj, rfl⟩ := oI_nat (hW.ln hv9) hi_19
              refine lv_aload hx hb dX3_hang_75 (lv_at hl 1 rfl) ?_
              refine wr_get (ci := 0) (C := RX1) (T := TX1) (N := 4) (v := .ref (aQ D (sPl S pj))) hx hb hts in_X1 hown hT hI (hR.2.2.1 _ hv9).1 rfl 3 (by decide) (hts (.fieldLink RX3 63 "CopyRows$Row" "parts" "[LCopyRows$Part;") (by decide +kernel)) rfl dX3_hang_77 ?_
              refine lv_iload_n hx hb dX3_hang_80 rfl (lv_at hl 4 rfl) ?_
              refine lv_aload hx hb dX3_hang_81 (lv_at hl 0 rfl) ?_
              refine W.eq (g2 := F0 m 83 ls (va_rf (some (aR D (sPl S oj))) :: .int (nI kj) :: .ref (aQ D (sPl S pj)) :: [])) rfl ?_
              refine wr_aastV (t := kj) (n := lnv S (sPl S pj)) (o := some (aR D (sPl S oj))) (f := fun k9 => pO D (kdv S (sPl S pj)) (itv S (sPl S pj) k9)) hx hb hT hI hS (hR.par hv9 hkn9) 1 rfl (fun v9 hv9 => by cases hv9; exact wr_any hT hI (hR.2.2.1 _ hv10).1 (r := (RX1, TX1, 4)) rfl hT.2.2.2.2.2.2.2.1) (by omega) (by omega) dX3_hang_83 (fun H locs hI hS => ?_)
              have hR := hR.parW (v := sPl S pj) hr9 hkn9 (upd (itv S (sPl S pj)) kj (sPl S oj)) (pO_upd (show pO D (kdv S (sPl S pj)) (sPl S oj) = some (aR D (sPl S oj)) from by rw [hk9]; exact pO_row ez10))
              refine lv_iconst (v := 1) hx hb dX3_hang_84 (by decide) ?_
              exact re_i hx hb hr hlocks hT hA hS hI (PoC.of (by
                                unfold sp_hang
                                try simp only [pv_nI hpj, pv_nI hoj, ix_nI (show kj < 2 ^ 31 by omega)]
                                rw [if_neg ((fun q => q.elim ho_3 ho_6)), if_neg (ez9), if_neg ((not_not_intro hk9)), if_neg (not_not_intro (Or.inr c_16)), if_neg (hi_19)]
                                try rfl) hR rfl) (Nat.le_of_ble_eq_true rfl) (Nat.le_of_ble_eq_true rfl) dX3_hang_85
            · have hi_19 : oI (lnv S (sPl S pj)) k := has_no hi_19
              refine W.eq (g2 := F0 m 66 ls [.int 0]) rfl ?_
              refine lv_if_ne (tgt := 75) hx hb dX3_hang_66 (by decide) (fun c => absurd c (by decide)) (fun _ => ?_)
              refine lv_aload_n hx hb dX3_hang_69 rfl (lv_at hl 2 rfl) ?_
              refine lv_iconst (v := 3) hx hb dX3_hang_70 (by decide) ?_
              refine ca_V (As := [.int 3]) (rest := []) (r0 := (RX3, TX3, 2)) (ci := 2) ⟨hx, hb, hml, hown, hts⟩ (cc_X3_fail l E A _ 3 hR) (cwV 1 hts gX3_hang_X3_fail rfl rfl rfl (by decide +kernel) ⟨(Nat.le_of_ble_eq_true rfl), (Nat.le_of_ble_eq_true rfl)⟩) hT hI hA hS rfl hR.1 rfl rfl hl.1 (Nat.le_of_ble_eq_true rfl) dX3_hang_71 ⟨(Nat.le_of_ble_eq_true rfl), (Nat.le_of_ble_eq_true rfl)⟩ (fun r w_21 H locs hp_20 hI hS => ?_)
              obtain ⟨rfl, hR⟩ := hp_20
              refine W.eq (g2 := F0 m 74 ls [.int 0]) rfl ?_
              exact re_i hx hb hr hlocks hT hA hS hI (PoC.of (by
                                unfold sp_hang
                                try simp only [pv_nI hpj, pv_nI hoj]
                                rw [if_neg ((fun q => q.elim ho_3 ho_6)), if_neg (ez9), if_neg ((not_not_intro hk9)), if_neg (not_not_intro (Or.inr c_16)), if_pos (hi_19)]
                                try rfl) hR rfl) (Nat.le_of_ble_eq_true rfl) (Nat.le_of_ble_eq_true rfl) dX3_hang_74
          · refine lv_aload_n hx hb dX3_hang_54 rfl (lv_at hl 2 rfl) ?_
            refine lv_iconst (v := 5) hx hb dX3_hang_55 (by decide) ?_
            refine ca_V (As := [.int 5]) (rest := []) (r0 := (RX3, TX3, 2)) (ci := 2) ⟨hx, hb, hml, hown, hts⟩ (cc_X3_fail l E A _ 5 hR) (cwV 1 hts gX3_hang_X3_fail rfl rfl rfl (by decide +kernel) ⟨(Nat.le_of_ble_eq_true rfl), (Nat.le_of_ble_eq_true rfl)⟩) hT hI hA hS rfl hR.1 rfl rfl hl.1 (Nat.le_of_ble_eq_true rfl) dX3_hang_56 ⟨(Nat.le_of_ble_eq_true rfl), (Nat.le_of_ble_eq_true rfl)⟩ (fun r w_23 H locs hp_22 hI hS => ?_)
            obtain ⟨rfl, hR⟩ := hp_22
            refine W.eq (g2 := F0 m 59 ls [.int 0]) rfl ?_
            exact re_i hx hb hr hlocks hT hA hS hI (PoC.of (by
                            unfold sp_hang
                            try simp only [pv_nI hpj, pv_nI hoj]
                            rw [if_neg ((fun q => q.elim ho_3 ho_6)), if_neg (ez9), if_neg ((not_not_intro hk9)), if_pos (fun q => q.elim ez10 c_16)]
                            try rfl) hR rfl) (Nat.le_of_ble_eq_true rfl) (Nat.le_of_ble_eq_true rfl) dX3_hang_59

set_option maxHeartbeats 4000000 in
set_option maxRecDepth 100000 in
theorem cc_X3_item (l : Launch) (E : En) (A : Nat → Prop) (w : Wd) {S : Sx} {D : Ad} (p k : Int32) (hW : Wf S) (hR : Rp E S D w) (hb9 : sNr S < 512 ∧ sNt S < 512 ∧ sNl S < 512) : Ct l yX3_item wsX3_item ({ frames := 1, cells := 0, slots := 0, locals := 23 } : Room) E A w [.ref (aH D), .int p, .int k] (fun r w' => PoC E D (sp_item S p k) r w') 0 0 := by
  refine Met.ofW (cc := cX3_item) (maxL := 5) (ret := (some .int)) (by decide) rfl ?_
  intro pp0 ee0 s m args below meth cc0 s₁ B hml hv
  obtain ⟨rfl, hT, hI, hA⟩ := hv
  have hx := B.exec
  have hb := B.bytes
  have hr := B.returns
  have hts := atoms_spec (ws := wsX3_item) B.pre
  have hown : s.vm.findClass RX3 = some m.cls := findClass_of_methodNamed B.named
  have hlocks := B.notSynchronized
  have in_X1 : ∀ w ∈ wsX10, w ∈ wsX3_item := by decide +kernel
  have hS : va_S A s.heap s.heap [] := va_S.rf
  have hl := lv_entry ([.ref (aH D), .int p, .int k]) (n := 5) (Nat.le_of_ble_eq_true rfl)
  rw [lg_entry_eq]
  generalize (lg_sl ([.ref (aH D), .int p, .int k]) ++ List.replicate (5 - (lg_sl ([.ref (aH D), .int p, .int k])).length) Slot.unset).toArray = ls at hl ⊢
  have hl : lv_has ls 5 [(0, .ref (aH D)), (1, .int p), (2, .int k)] := hl
  refine lv_iload_n hx hb dX3_item_0 rfl (lv_at hl 1 rfl) ?_
  refine ca_S (As := [.int p]) (rest := []) ⟨hx, hb, hml, hown, hts⟩ (cc_X3_isOutside l E A _ p) (va_cwS 1 hts gX3_item_X3_isOutside rfl rfl rfl (by decide +kernel) ⟨(Nat.le_of_ble_eq_true rfl), (Nat.le_of_ble_eq_true rfl)⟩) hT hI hA hS rfl rfl hl.1 (Nat.le_of_ble_eq_true rfl) dX3_item_1 ⟨(Nat.le_of_ble_eq_true rfl), (Nat.le_of_ble_eq_true rfl)⟩ (fun r w_2 H locs hp_1 hI hS => ?_)
  obtain ⟨rfl, ⟨ho_3, rfl⟩ | ⟨ho_3, rfl⟩⟩ := hp_1
  · refine W.eq (g2 := F0 m 4 ls [.int 1]) rfl ?_
    refine lv_if_eq (tgt := 10) hx hb dX3_item_4 (by decide) (fun c => absurd c (by decide)) (fun _ => ?_)
    refine lv_ldc (v := -2000000001) hx hb hown (hts (.constant RX3 23 (-2000000001)) (by decide +kernel)) dX3_item_7 ?_
    exact re_i hx hb hr hlocks hT hA hS hI (PoC.of (by
            unfold sp_item
            rw [if_pos (ho_3)]
            try rfl) hR rfl) (Nat.le_of_ble_eq_true rfl) (Nat.le_of_ble_eq_true rfl) dX3_item_9
  · refine W.eq (g2 := F0 m 4 ls [.int 0]) rfl ?_
    refine lv_if_eq (tgt := 10) hx hb dX3_item_4 (by decide) (fun _ => ?_) (fun c => absurd c (by decide))
    refine lv_aload_n hx hb dX3_item_10 rfl (lv_at hl 0 rfl) ?_
    refine lv_iload_n hx hb dX3_item_11 rfl (lv_at hl 1 rfl) ?_
    refine lv_bipush (v := 63) hx hb dX3_item_12 (by decide) ?_
    obtain ⟨pj, hpj, rfl⟩ := isP_nat ho_3
    refine ca_V (As := [.int (nI pj), .int 63]) (rest := []) (r0 := (RX3, TX3, 2)) (ci := 2) ⟨hx, hb, hml, hown, hts⟩ (cc_X3_rowOf l E A _ (by omega) msk63 hW hR) (cwV 2 hts gX3_item_X3_rowOf rfl rfl rfl (by decide +kernel) ⟨(Nat.le_of_ble_eq_true rfl), (Nat.le_of_ble_eq_true rfl)⟩) hT hI hA hS rfl hR.1 rfl rfl hl.1 (Nat.le_of_ble_eq_true rfl) dX3_item_14 ⟨(Nat.le_of_ble_eq_true rfl), (Nat.le_of_ble_eq_true rfl)⟩ (fun r w_5 H locs hp_4 hI hS => ?_)
    rcases hp_4 with ⟨ez6, rfl, hR⟩ | ⟨ez6, hv6, hk6, rfl, hR⟩ | ⟨ez6, hv6, hk6, rfl, hR⟩
    · refine W.eq (g2 := F0 m 17 ls [.null]) rfl ?_
      refine lv_astore_nN (lv' := [(3, .null), (0, .ref (aH D)), (1, .int (nI pj)), (2, .int k)]) hx hb dX3_item_17 rfl hl (by decide) rfl (fun ls hl => ?_)
      refine lv_aload_nN hx hb dX3_item_18 rfl (lv_at hl 0 rfl) ?_
      refine lv_ifnonnullN hx hb dX3_item_19 ?_
      refine lv_iconst (v := 0) hx hb dX3_item_22 (by decide) ?_
      exact re_i hx hb hr hlocks hT hA hS hI (PoC.of (by
                unfold sp_item
                try simp only [pv_nI hpj]
                rw [if_neg (ho_3), if_pos (ez6)]
                try rfl) hR rfl) (Nat.le_of_ble_eq_true rfl) (Nat.le_of_ble_eq_true rfl) dX3_item_23
    · refine W.eq (g2 := F0 m 17 ls [.null]) rfl ?_
      refine lv_astore_nN (lv' := [(3, .null), (0, .ref (aH D)), (1, .int (nI pj)), (2, .int k)]) hx hb dX3_item_17 rfl hl (by decide) rfl (fun ls hl => ?_)
      refine lv_aload_nN hx hb dX3_item_18 rfl (lv_at hl 0 rfl) ?_
      refine lv_ifnonnullN hx hb dX3_item_19 ?_
      refine lv_iconst (v := 0) hx hb dX3_item_22 (by decide) ?_
      exact re_i hx hb hr hlocks hT hA hS hI (PoC.of (by
                unfold sp_item
                try simp only [pv_nI hpj]
                rw [if_neg (ho_3), if_neg (ez6), if_pos ((Classical.not_not.mp hk6))]
                try rfl) hR rfl) (Nat.le_of_ble_eq_true rfl) (Nat.le_of_ble_eq_true rfl) dX3_item_23
    · have hln6 := hW.ln hv6
      have hr6 : vR S (sPl S pj) := vO_row hv6 hk6
      refine W.eq (g2 := F0 m 17 ls [.ref (aR D (sPl S pj))]) rfl ?_
      refine lv_astore_n (lv' := [(3, .ref (aR D (sPl S pj))), (0, .ref (aH D)), (1, .int (nI pj)), (2, .int k)]) hx hb dX3_item_17 rfl hl (by decide) rfl (fun ls hl => ?_)
      refine lv_aload_n hx hb dX3_item_18 rfl (lv_at hl 0 rfl) ?_
      refine lv_ifnonnull (tgt := 24) hx hb dX3_item_19 (by decide) ?_
      refine lv_aload_n hx hb dX3_item_24 rfl (lv_at hl 0 rfl) ?_
      refine lv_iload_n hx hb dX3_item_25 rfl (lv_at hl 3 rfl) ?_
      refine ca_V (As := [.int k]) (rest := []) (r0 := (RX1, TX1, 4)) (ci := 0) ⟨hx, hb, hml, hown, hts⟩ (cc_X1_has l E A _ k (hR.2.2.1 _ hv6).1) (cwV 1 hts gX3_item_X1_has rfl rfl rfl (by decide +kernel) ⟨(Nat.le_of_ble_eq_true rfl), (Nat.le_of_ble_eq_true rfl)⟩) hT hI hA hS rfl (hR.2.2.1 _ hv6).1 rfl rfl hl.1 (Nat.le_of_ble_eq_true rfl) dX3_item_26 ⟨(Nat.le_of_ble_eq_true rfl), (Nat.le_of_ble_eq_true rfl)⟩ (fun r w_8 H locs hp_7 hI hS => ?_)
      obtain ⟨rfl, ⟨hi_9, rfl⟩ | ⟨hi_9, rfl⟩⟩ := hp_7
      · have hi_9 : ¬ oI (lnv S (sPl S pj)) k := has_yes hi_9
        refine W.eq (g2 := F0 m 29 ls [.int 1]) rfl ?_
        refine lv_if_ne (tgt := 38) hx hb dX3_item_29 (by decide) (fun _ => ?_) (fun c => absurd c (by decide))
        obtain ⟨kj, hkj, rfl⟩ := oI_nat (hW.ln hv6) hi_9
        refine lv_aload_n hx hb dX3_item_38 rfl (lv_at hl 0 rfl) ?_
        refine ca_V (As := []) (rest := []) (r0 := (RX1, TX1, 4)) (ci := 0) ⟨hx, hb, hml, hown, hts⟩ (cc_X1_isOfNumbers l E A _ (hR.2.2.1 _ hv6).1) (cwV 0 hts gX3_item_X1_isOfNumbers rfl rfl rfl (by decide +kernel) ⟨(Nat.le_of_ble_eq_true rfl), (Nat.le_of_ble_eq_true rfl)⟩) hT hI hA hS rfl (hR.2.2.1 _ hv6).1 rfl rfl hl.1 (Nat.le_of_ble_eq_true rfl) dX3_item_39 ⟨(Nat.le_of_ble_eq_true rfl), (Nat.le_of_ble_eq_true rfl)⟩ (fun r w_11 H locs hp_10 hI hS => ?_)
        obtain ⟨rfl, ⟨hn_12, rfl⟩ | ⟨hn_12, rfl⟩⟩ := hp_10
        · have hn_12 : isN (kdv S (sPl S pj)) := hn_12
          refine W.eq (g2 := F0 m 42 ls [.int 1]) rfl ?_
          refine lv_if_eq (tgt := 52) hx hb dX3_item_42 (by decide) (fun c => absurd c (by decide)) (fun _ => ?_)
          refine lv_aload_n hx hb dX3_item_45 rfl (lv_at hl 0 rfl) ?_
          refine wr_get (ci := 0) (C := RX1) (T := TX1) (N := 4) (v := .ref (aN D (sPl S pj))) hx hb hts in_X1 hown hT hI (hR.2.2.1 _ hv6).1 rfl 2 (by decide) (hts (.fieldLink RX3 49 "CopyRows$Row" "numbers" "[I") (by decide +kernel)) rfl dX3_item_46 ?_
          refine lv_iload_n hx hb dX3_item_49 rfl (lv_at hl 3 rfl) ?_
          refine wr_ialdN (t := kj) (n := lnv S (sPl S pj)) (f := itv S (sPl S pj)) hx hb hT hI (hR.num hv6 hn_12) (by omega) (by omega) dX3_item_50 ?_
          exact re_i hx hb hr hlocks hT hA hS hI (PoC.of (by
                        unfold sp_item
                        try simp only [pv_nI hpj, ix_nI (show kj < 2 ^ 31 by omega)]
                        rw [if_neg (ho_3), if_neg (ez6), if_neg (hk6), if_neg (hi_9), if_pos (hn_12)]
                        try rfl) hR rfl) (Nat.le_of_ble_eq_true rfl) (Nat.le_of_ble_eq_true rfl) dX3_item_51
        · have hn_12 : ¬ isN (kdv S (sPl S pj)) := hn_12
          refine W.eq (g2 := F0 m 42 ls [.int 0]) rfl ?_
          refine lv_if_eq (tgt := 52) hx hb dX3_item_42 (by decide) (fun _ => ?_) (fun c => absurd c (by decide))
          refine lv_aload_n hx hb dX3_item_52 rfl (lv_at hl 0 rfl) ?_
          refine wr_get (ci := 0) (C := RX1) (T := TX1) (N := 4) (v := .ref (aQ D (sPl S pj))) hx hb hts in_X1 hown hT hI (hR.2.2.1 _ hv6).1 rfl 3 (by decide) (hts (.fieldLink RX3 63 "CopyRows$Row" "parts" "[LCopyRows$Part;") (by decide +kernel)) rfl dX3_item_53 ?_
          refine lv_iload_n hx hb dX3_item_56 rfl (lv_at hl 3 rfl) ?_
          refine wr_aaldN (t := kj) (n := lnv S (sPl S pj)) (f := fun k9 => pO D (kdv S (sPl S pj)) (itv S (sPl S pj) k9)) hx hb hT hI (hR.par hv6 hn_12) 1 rfl (by omega) (by omega) dX3_item_57 ?_
          rcases hW.part D hr6 hn_12 kj with ⟨ei13, eo13⟩ | ⟨ei13, ek13, hx13, hxk13, eo13⟩ | ⟨ei13, ek13, hx13, eo13⟩
          · refine W.eq (g2 := F0 m 58 ls [.null]) (by first | (rw [eo13]; rfl) | (dsimp only; rw [eo13]; rfl)) ?_
            refine lv_astoreN (lv' := [(4, .null), (3, .ref (aR D (sPl S pj))), (0, .ref (aH D)), (1, .int (nI pj)), (2, .int (nI kj))]) hx hb dX3_item_58 hl (by decide) rfl (fun ls hl => ?_)
            refine lv_aloadN hx hb dX3_item_60 (lv_at hl 0 rfl) ?_
            refine lv_ifnonnullN hx hb dX3_item_62 ?_
            refine lv_aload_n hx hb dX3_item_65 rfl (lv_at hl 2 rfl) ?_
            refine lv_iconst (v := 1) hx hb dX3_item_66 (by decide) ?_
            refine ca_V (As := [.int 1]) (rest := []) (r0 := (RX3, TX3, 2)) (ci := 2) ⟨hx, hb, hml, hown, hts⟩ (cc_X3_fail l E A _ 1 hR) (cwV 1 hts gX3_item_X3_fail rfl rfl rfl (by decide +kernel) ⟨(Nat.le_of_ble_eq_true rfl), (Nat.le_of_ble_eq_true rfl)⟩) hT hI hA hS rfl hR.1 rfl rfl hl.1 (Nat.le_of_ble_eq_true rfl) dX3_item_67 ⟨(Nat.le_of_ble_eq_true rfl), (Nat.le_of_ble_eq_true rfl)⟩ (fun r w_15 H locs hp_14 hI hS => ?_)
            obtain ⟨rfl, hR⟩ := hp_14
            refine W.eq (g2 := F0 m 70 ls [.int 0]) rfl ?_
            refine lv_goto (tgt := 78) hx hb dX3_item_70 (by decide) ?_
            exact re_i hx hb hr hlocks hT hA hS hI (PoC.of (by
                            unfold sp_item
                            try simp only [pv_nI hpj, ix_nI (show kj < 2 ^ 31 by omega)]
                            rw [if_neg (ho_3), if_neg (ez6), if_neg (hk6), if_neg (hi_9), if_neg (hn_12), if_pos (ei13)]
                            try rfl) hR rfl) (Nat.le_of_ble_eq_true rfl) (Nat.le_of_ble_eq_true rfl) dX3_item_78
          · refine W.eq (g2 := F0 m 58 ls [.ref (aR D (itv S (sPl S pj) kj))]) (by first | (rw [eo13]; rfl) | (dsimp only; rw [eo13]; rfl)) ?_
            refine lv_astore (lv' := [(4, .ref (aR D (itv S (sPl S pj) kj))), (3, .ref (aR D (sPl S pj))), (0, .ref (aH D)), (1, .int (nI pj)), (2, .int (nI kj))]) hx hb dX3_item_58 hl (by decide) rfl (fun ls hl => ?_)
            refine lv_aload hx hb dX3_item_60 (lv_at hl 0 rfl) ?_
            refine lv_ifnonnull (tgt := 73) hx hb dX3_item_62 (by decide) ?_
            refine lv_aload hx hb dX3_item_73 (lv_at hl 0 rfl) ?_
            refine ca_U (As := []) (rest := []) (r0 := (RX1, TX1, 4)) (ci := 0) ⟨hx, hb, hml, hown, hts⟩ (cc_X1_shown l E A _ (hR.2.2.1 _ (Or.inl hx13)).1) (va_cwA 0 hts gX3_item_X1_shown_u71X1 rfl rfl rfl hT.2.2.2.2.2.2.1 (by decide +kernel) ⟨(Nat.le_of_ble_eq_true rfl), (Nat.le_of_ble_eq_true rfl)⟩) hT hI hA hS rfl (hR.2.2.1 _ (Or.inl hx13)).1 rfl rfl hl.1 (Nat.le_of_ble_eq_true rfl) dX3_item_75 ⟨(Nat.le_of_ble_eq_true rfl), (Nat.le_of_ble_eq_true rfl)⟩ (fun r w_17 H locs hp_16 hI hS => ?_)
            obtain ⟨rfl, rfl⟩ := hp_16
            refine W.eq (g2 := F0 m 78 ls [.int (nI (lnv S (itv S (sPl S pj) kj)))]) rfl ?_
            exact re_i hx hb hr hlocks hT hA hS hI (PoC.of (by
                            unfold sp_item
                            try simp only [pv_nI hpj, ix_nI (show kj < 2 ^ 31 by omega)]
                            rw [if_neg (ho_3), if_neg (ez6), if_neg (hk6), if_neg (hi_9), if_neg (hn_12), if_neg (ei13)]
                            rw [if_pos ek13]) hR rfl) (Nat.le_of_ble_eq_true rfl) (Nat.le_of_ble_eq_true rfl) dX3_item_78
          · refine W.eq (g2 := F0 m 58 ls [.ref (aT D (itv S (sPl S pj) kj))]) (by first | (rw [eo13]; rfl) | (dsimp only; rw [eo13]; rfl)) ?_
            refine lv_astore (lv' := [(4, .ref (aT D (itv S (sPl S pj) kj))), (3, .ref (aR D (sPl S pj))), (0, .ref (aH D)), (1, .int (nI pj)), (2, .int (nI kj))]) hx hb dX3_item_58 hl (by decide) rfl (fun ls hl => ?_)
            refine lv_aload hx hb dX3_item_60 (lv_at hl 0 rfl) ?_
            refine lv_ifnonnull (tgt := 73) hx hb dX3_item_62 (by decide) ?_
            refine lv_aload hx hb dX3_item_73 (lv_at hl 0 rfl) ?_
            refine ca_U (As := []) (rest := []) (r0 := (RX2, TX2, 2)) (ci := 1) ⟨hx, hb, hml, hown, hts⟩ (cc_X2_shown l E A _ (hR.2.2.2.1 _ hx13)) (va_cwA 0 hts gX3_item_X2_shown_u71X2 rfl rfl rfl hT.2.2.2.2.2.2.1 (by decide +kernel) ⟨(Nat.le_of_ble_eq_true rfl), (Nat.le_of_ble_eq_true rfl)⟩) hT hI hA hS rfl (hR.2.2.2.1 _ hx13) rfl rfl hl.1 (Nat.le_of_ble_eq_true rfl) dX3_item_75 ⟨(Nat.le_of_ble_eq_true rfl), (Nat.le_of_ble_eq_true rfl)⟩ (fun r w_19 H locs hp_18 hI hS => ?_)
            obtain ⟨rfl, rfl⟩ := hp_18
            refine W.eq (g2 := F0 m 78 ls [.int (sNu S (ix (itv S (sPl S pj) kj)))]) rfl ?_
            exact re_i hx hb hr hlocks hT hA hS hI (PoC.of (by
                            unfold sp_item
                            try simp only [pv_nI hpj, ix_nI (show kj < 2 ^ 31 by omega)]
                            rw [if_neg (ho_3), if_neg (ez6), if_neg (hk6), if_neg (hi_9), if_neg (hn_12), if_neg (ei13)]
                            rw [if_neg ek13]) hR rfl) (Nat.le_of_ble_eq_true rfl) (Nat.le_of_ble_eq_true rfl) dX3_item_78
      · have hi_9 : oI (lnv S (sPl S pj)) k := has_no hi_9
        refine W.eq (g2 := F0 m 29 ls [.int 0]) rfl ?_
        refine lv_if_ne (tgt := 38) hx hb dX3_item_29 (by decide) (fun c => absurd c (by decide)) (fun _ => ?_)
        refine lv_aload_n hx hb dX3_item_32 rfl (lv_at hl 1 rfl) ?_
        refine lv_iconst (v := 3) hx hb dX3_item_33 (by decide) ?_
        refine ca_V (As := [.int 3]) (rest := []) (r0 := (RX3, TX3, 2)) (ci := 2) ⟨hx, hb, hml, hown, hts⟩ (cc_X3_fail l E A _ 3 hR) (cwV 1 hts gX3_item_X3_fail rfl rfl rfl (by decide +kernel) ⟨(Nat.le_of_ble_eq_true rfl), (Nat.le_of_ble_eq_true rfl)⟩) hT hI hA hS rfl hR.1 rfl rfl hl.1 (Nat.le_of_ble_eq_true rfl) dX3_item_34 ⟨(Nat.le_of_ble_eq_true rfl), (Nat.le_of_ble_eq_true rfl)⟩ (fun r w_21 H locs hp_20 hI hS => ?_)
        obtain ⟨rfl, hR⟩ := hp_20
        refine W.eq (g2 := F0 m 37 ls [.int 0]) rfl ?_
        exact re_i hx hb hr hlocks hT hA hS hI (PoC.of (by
                    unfold sp_item
                    try simp only [pv_nI hpj]
                    rw [if_neg (ho_3), if_neg (ez6), if_neg (hk6), if_pos (hi_9)]
                    try rfl) hR rfl) (Nat.le_of_ble_eq_true rfl) (Nat.le_of_ble_eq_true rfl) dX3_item_37

set_option maxHeartbeats 4000000 in
set_option maxRecDepth 100000 in
theorem cc_X3_classOf (l : Launch) (E : En) (A : Nat → Prop) (w : Wd) {S : Sx} {D : Ad} (p k : Int32) (hW : Wf S) (hR : Rp E S D w) (hb9 : sNr S < 512 ∧ sNt S < 512 ∧ sNl S < 512) : Ct l yX3_classOf wsX3_classOf ({ frames := 1, cells := 0, slots := 0, locals := 23 } : Room) E A w [.ref (aH D), .int p, .int k] (fun r w' => PoC E D (sp_classOf S p k) r w') 0 0 := by
  refine Met.ofW (cc := cX3_classOf) (maxL := 6) (ret := (some .int)) (by decide) rfl ?_
  intro pp0 ee0 s m args below meth cc0 s₁ B hml hv
  obtain ⟨rfl, hT, hI, hA⟩ := hv
  have hx := B.exec
  have hb := B.bytes
  have hr := B.returns
  have hts := atoms_spec (ws := wsX3_classOf) B.pre
  have hown : s.vm.findClass RX3 = some m.cls := findClass_of_methodNamed B.named
  have hlocks := B.notSynchronized
  have in_X1 : ∀ w ∈ wsX10, w ∈ wsX3_classOf := by decide +kernel
  have in_X2 : ∀ w ∈ wsX20, w ∈ wsX3_classOf := by decide +kernel
  have hS : va_S A s.heap s.heap [] := va_S.rf
  have hl := lv_entry ([.ref (aH D), .int p, .int k]) (n := 6) (Nat.le_of_ble_eq_true rfl)
  rw [lg_entry_eq]
  generalize (lg_sl ([.ref (aH D), .int p, .int k]) ++ List.replicate (6 - (lg_sl ([.ref (aH D), .int p, .int k])).length) Slot.unset).toArray = ls at hl ⊢
  have hl : lv_has ls 6 [(0, .ref (aH D)), (1, .int p), (2, .int k)] := hl
  refine lv_iload_n hx hb dX3_classOf_0 rfl (lv_at hl 1 rfl) ?_
  refine ca_S (As := [.int p]) (rest := []) ⟨hx, hb, hml, hown, hts⟩ (cc_X3_isOutside l E A _ p) (va_cwS 1 hts gX3_classOf_X3_isOutside rfl rfl rfl (by decide +kernel) ⟨(Nat.le_of_ble_eq_true rfl), (Nat.le_of_ble_eq_true rfl)⟩) hT hI hA hS rfl rfl hl.1 (Nat.le_of_ble_eq_true rfl) dX3_classOf_1 ⟨(Nat.le_of_ble_eq_true rfl), (Nat.le_of_ble_eq_true rfl)⟩ (fun r w_2 H locs hp_1 hI hS => ?_)
  obtain ⟨rfl, ⟨ho_3, rfl⟩ | ⟨ho_3, rfl⟩⟩ := hp_1
  · refine W.eq (g2 := F0 m 4 ls [.int 1]) rfl ?_
    refine lv_if_eq (tgt := 10) hx hb dX3_classOf_4 (by decide) (fun c => absurd c (by decide)) (fun _ => ?_)
    refine lv_ldc (v := -2000000001) hx hb hown (hts (.constant RX3 23 (-2000000001)) (by decide +kernel)) dX3_classOf_7 ?_
    exact re_i hx hb hr hlocks hT hA hS hI (PoC.of (by
            unfold sp_classOf
            rw [if_pos (ho_3)]) hR rfl) (Nat.le_of_ble_eq_true rfl) (Nat.le_of_ble_eq_true rfl) dX3_classOf_9
  · refine W.eq (g2 := F0 m 4 ls [.int 0]) rfl ?_
    refine lv_if_eq (tgt := 10) hx hb dX3_classOf_4 (by decide) (fun _ => ?_) (fun c => absurd c (by decide))
    refine lv_aload_n hx hb dX3_classOf_10 rfl (lv_at hl 0 rfl) ?_
    refine lv_iload_n hx hb dX3_classOf_11 rfl (lv_at hl 1 rfl) ?_
    refine lv_bipush (v := 56) hx hb dX3_classOf_12 (by decide) ?_
    obtain ⟨pj, hpj, rfl⟩ := isP_nat ho_3
    refine ca_V (As := [.int (nI pj), .int 56]) (rest := []) (r0 := (RX3, TX3, 2)) (ci := 2) ⟨hx, hb, hml, hown, hts⟩ (cc_X3_rowOf l E A _ (by omega) msk56 hW hR) (cwV 2 hts gX3_classOf_X3_rowOf rfl rfl rfl (by decide +kernel) ⟨(Nat.le_of_ble_eq_true rfl), (Nat.le_of_ble_eq_true rfl)⟩) hT hI hA hS rfl hR.1 rfl rfl hl.1 (Nat.le_of_ble_eq_true rfl) dX3_classOf_14 ⟨(Nat.le_of_ble_eq_true rfl), (Nat.le_of_ble_eq_true rfl)⟩ (fun r w_5 H locs hp_4 hI hS => ?_)
    rcases hp_4 with ⟨ez6, rfl, hR⟩ | ⟨ez6, hv6, hk6, rfl, hR⟩ | ⟨ez6, hv6, hk6, rfl, hR⟩
    · refine W.eq (g2 := F0 m 17 ls [.null]) rfl ?_
      refine lv_astore_nN (lv' := [(3, .null), (0, .ref (aH D)), (1, .int (nI pj)), (2, .int k)]) hx hb dX3_classOf_17 rfl hl (by decide) rfl (fun ls hl => ?_)
      refine lv_aload_nN hx hb dX3_classOf_18 rfl (lv_at hl 0 rfl) ?_
      refine lv_ifnonnullN hx hb dX3_classOf_19 ?_
      refine lv_iconst (v := 0) hx hb dX3_classOf_22 (by decide) ?_
      exact re_i hx hb hr hlocks hT hA hS hI (PoC.of (by
                unfold sp_classOf
                try simp only [pv_nI hpj]
                rw [if_neg (ho_3), if_pos (ez6)]) hR rfl) (Nat.le_of_ble_eq_true rfl) (Nat.le_of_ble_eq_true rfl) dX3_classOf_23
    · refine W.eq (g2 := F0 m 17 ls [.null]) rfl ?_
      refine lv_astore_nN (lv' := [(3, .null), (0, .ref (aH D)), (1, .int (nI pj)), (2, .int k)]) hx hb dX3_classOf_17 rfl hl (by decide) rfl (fun ls hl => ?_)
      refine lv_aload_nN hx hb dX3_classOf_18 rfl (lv_at hl 0 rfl) ?_
      refine lv_ifnonnullN hx hb dX3_classOf_19 ?_
      refine lv_iconst (v := 0) hx hb dX3_classOf_22 (by decide) ?_
      exact re_i hx hb hr hlocks hT hA hS hI (PoC.of (by
                unfold sp_classOf
                try simp only [pv_nI hpj]
                rw [if_neg (ho_3), if_neg (ez6), if_pos (hk6)]) hR rfl) (Nat.le_of_ble_eq_true rfl) (Nat.le_of_ble_eq_true rfl) dX3_classOf_23
    · have hln6 := hW.ln hv6
      have hkn6 : ¬ isN (kdv S (sPl S pj)) := by rcases hk6 with h | h | h <;> rw [h] <;> decide
      have hr6 : vR S (sPl S pj) := vO_row hv6 (by rcases hk6 with h | h | h <;> rw [h] <;> decide)
      refine W.eq (g2 := F0 m 17 ls [.ref (aR D (sPl S pj))]) rfl ?_
      refine lv_astore_n (lv' := [(3, .ref (aR D (sPl S pj))), (0, .ref (aH D)), (1, .int (nI pj)), (2, .int k)]) hx hb dX3_classOf_17 rfl hl (by decide) rfl (fun ls hl => ?_)
      refine lv_aload_n hx hb dX3_classOf_18 rfl (lv_at hl 0 rfl) ?_
      refine lv_ifnonnull (tgt := 24) hx hb dX3_classOf_19 (by decide) ?_
      refine lv_aload_n hx hb dX3_classOf_24 rfl (lv_at hl 0 rfl) ?_
      refine lv_iload_n hx hb dX3_classOf_25 rfl (lv_at hl 3 rfl) ?_
      refine ca_V (As := [.int k]) (rest := []) (r0 := (RX1, TX1, 4)) (ci := 0) ⟨hx, hb, hml, hown, hts⟩ (cc_X1_has l E A _ k (hR.2.2.1 _ hv6).1) (cwV 1 hts gX3_classOf_X1_has rfl rfl rfl (by decide +kernel) ⟨(Nat.le_of_ble_eq_true rfl), (Nat.le_of_ble_eq_true rfl)⟩) hT hI hA hS rfl (hR.2.2.1 _ hv6).1 rfl rfl hl.1 (Nat.le_of_ble_eq_true rfl) dX3_classOf_26 ⟨(Nat.le_of_ble_eq_true rfl), (Nat.le_of_ble_eq_true rfl)⟩ (fun r w_8 H locs hp_7 hI hS => ?_)
      obtain ⟨rfl, ⟨hi_9, rfl⟩ | ⟨hi_9, rfl⟩⟩ := hp_7
      · have hi_9 : ¬ oI (lnv S (sPl S pj)) k := has_yes hi_9
        refine W.eq (g2 := F0 m 29 ls [.int 1]) rfl ?_
        refine lv_if_ne (tgt := 38) hx hb dX3_classOf_29 (by decide) (fun _ => ?_) (fun c => absurd c (by decide))
        obtain ⟨kj, hkj, rfl⟩ := oI_nat (hW.ln hv6) hi_9
        refine lv_aload_n hx hb dX3_classOf_38 rfl (lv_at hl 0 rfl) ?_
        refine wr_get (ci := 0) (C := RX1) (T := TX1) (N := 4) (v := .ref (aQ D (sPl S pj))) hx hb hts in_X1 hown hT hI (hR.2.2.1 _ hv6).1 rfl 3 (by decide) (hts (.fieldLink RX3 63 "CopyRows$Row" "parts" "[LCopyRows$Part;") (by decide +kernel)) rfl dX3_classOf_39 ?_
        refine lv_iload_n hx hb dX3_classOf_42 rfl (lv_at hl 3 rfl) ?_
        refine wr_aaldN (t := kj) (n := lnv S (sPl S pj)) (f := fun k9 => pO D (kdv S (sPl S pj)) (itv S (sPl S pj) k9)) hx hb hT hI (hR.par hv6 hkn6) 1 rfl (by omega) (by omega) dX3_classOf_43 ?_
        rcases hW.part D hr6 hkn6 kj with ⟨ei10, eo10⟩ | ⟨ei10, ek10, hx10, hxk10, eo10⟩ | ⟨ei10, ek10, hx10, eo10⟩
        · refine W.eq (g2 := F0 m 44 ls [.null]) (by first | (rw [eo10]; rfl) | (dsimp only; rw [eo10]; rfl)) ?_
          refine lv_astoreN (lv' := [(5, .null), (3, .ref (aR D (sPl S pj))), (0, .ref (aH D)), (1, .int (nI pj)), (2, .int (nI kj))]) hx hb dX3_classOf_44 hl (by decide) rfl (fun ls hl => ?_)
          refine lv_aloadN hx hb dX3_classOf_46 (lv_at hl 0 rfl) ?_
          refine lv_instN hx hb dX3_classOf_48 ?_
          refine lv_if_eq (tgt := 69) hx hb dX3_classOf_51 (by decide) (fun _ => ?_) (fun c => absurd c (by decide))
          refine lv_iconst (v := -1) hx hb dX3_classOf_69 (by decide) ?_
          exact re_i hx hb hr hlocks hT hA hS hI (PoC.of (by
                        unfold sp_classOf
                        try simp only [pv_nI hpj, ix_nI (show kj < 2 ^ 31 by omega)]
                        rw [if_neg (ho_3), if_neg (ez6), if_neg ((not_not_intro hk6)), if_neg (hi_9)]
                        rw [if_pos ei10]) hR rfl) (Nat.le_of_ble_eq_true rfl) (Nat.le_of_ble_eq_true rfl) dX3_classOf_70
        · exact absurd ek10 (kT_ne2 hk6)
        · refine W.eq (g2 := F0 m 44 ls [.ref (aT D (itv S (sPl S pj) kj))]) (by first | (rw [eo10]; rfl) | (dsimp only; rw [eo10]; rfl)) ?_
          refine lv_astore (lv' := [(5, .ref (aT D (itv S (sPl S pj) kj))), (3, .ref (aR D (sPl S pj))), (0, .ref (aH D)), (1, .int (nI pj)), (2, .int (nI kj))]) hx hb dX3_classOf_44 hl (by decide) rfl (fun ls hl => ?_)
          refine lv_aload hx hb dX3_classOf_46 (lv_at hl 0 rfl) ?_
          refine va_instY (C := RX2) hx hb hown (hts (.classLink RX3 56 RX2) (by decide +kernel)) hT.2.2.2.2.2.2.2.2.2.2 (wr_recv hT hI (ci := 1) (r := (RX2, TX2, 2)) rfl (hR.2.2.2.1 _ hx10)) dX3_classOf_48 ?_
          refine lv_if_eq (tgt := 69) hx hb dX3_classOf_51 (by decide) (fun c => absurd c (by decide)) (fun _ => ?_)
          refine lv_aload hx hb dX3_classOf_54 (lv_at hl 0 rfl) ?_
          refine va_castY (C := RX2) hx hb hown (hts (.classLink RX3 56 RX2) (by decide +kernel)) hT.2.2.2.2.2.2.2.2.2.2 (wr_recv hT hI (ci := 1) (r := (RX2, TX2, 2)) rfl (hR.2.2.2.1 _ hx10)) dX3_classOf_56 ?_
          refine lv_astore (lv' := [(4, .ref (aT D (itv S (sPl S pj) kj))), (5, .ref (aT D (itv S (sPl S pj) kj))), (3, .ref (aR D (sPl S pj))), (0, .ref (aH D)), (1, .int (nI pj)), (2, .int (nI kj))]) hx hb dX3_classOf_59 hl (by decide) rfl (fun ls hl => ?_)
          refine lv_aload hx hb dX3_classOf_61 (lv_at hl 0 rfl) ?_
          refine wr_get (ci := 1) (C := RX2) (T := TX2) (N := 2) (v := .int (sCl S (ix (itv S (sPl S pj) kj)))) hx hb hts in_X2 hown hT hI (hR.2.2.2.1 _ hx10) rfl 0 (by decide) (hts (.fieldLink RX3 77 "CopyRows$Thing" "cls" "I") (by decide +kernel)) rfl dX3_classOf_63 ?_
          refine lv_goto (tgt := 70) hx hb dX3_classOf_66 (by decide) ?_
          exact re_i hx hb hr hlocks hT hA hS hI (PoC.of (by
                        unfold sp_classOf
                        try simp only [pv_nI hpj, ix_nI (show kj < 2 ^ 31 by omega)]
                        rw [if_neg (ho_3), if_neg (ez6), if_neg ((not_not_intro hk6)), if_neg (hi_9)]
                        rw [if_neg ei10]) hR rfl) (Nat.le_of_ble_eq_true rfl) (Nat.le_of_ble_eq_true rfl) dX3_classOf_70
      · have hi_9 : oI (lnv S (sPl S pj)) k := has_no hi_9
        refine W.eq (g2 := F0 m 29 ls [.int 0]) rfl ?_
        refine lv_if_ne (tgt := 38) hx hb dX3_classOf_29 (by decide) (fun c => absurd c (by decide)) (fun _ => ?_)
        refine lv_aload_n hx hb dX3_classOf_32 rfl (lv_at hl 1 rfl) ?_
        refine lv_iconst (v := 3) hx hb dX3_classOf_33 (by decide) ?_
        refine ca_V (As := [.int 3]) (rest := []) (r0 := (RX3, TX3, 2)) (ci := 2) ⟨hx, hb, hml, hown, hts⟩ (cc_X3_fail l E A _ 3 hR) (cwV 1 hts gX3_classOf_X3_fail rfl rfl rfl (by decide +kernel) ⟨(Nat.le_of_ble_eq_true rfl), (Nat.le_of_ble_eq_true rfl)⟩) hT hI hA hS rfl hR.1 rfl rfl hl.1 (Nat.le_of_ble_eq_true rfl) dX3_classOf_34 ⟨(Nat.le_of_ble_eq_true rfl), (Nat.le_of_ble_eq_true rfl)⟩ (fun r w_12 H locs hp_11 hI hS => ?_)
        obtain ⟨rfl, hR⟩ := hp_11
        refine W.eq (g2 := F0 m 37 ls [.int 0]) rfl ?_
        exact re_i hx hb hr hlocks hT hA hS hI (PoC.of (by
                    unfold sp_classOf
                    try simp only [pv_nI hpj]
                    rw [if_neg (ho_3), if_neg (ez6), if_neg ((not_not_intro hk6)), if_pos (hi_9)]) hR rfl) (Nat.le_of_ble_eq_true rfl) (Nat.le_of_ble_eq_true rfl) dX3_classOf_37
end
section
/-! moves between rows, over the state -/
theorem pO_fit {D : Ad} {S : Sx} {kf x kd : Int32} (h : fitS S kf x kd) : pO D kf x = pO D kd x := by
  unfold pO
  rcases h with h | ⟨h1, h2⟩ | ⟨h1, h2⟩
  · rw [if_pos h, if_pos h]
  · rw [h1, h2]
  · have : ¬ kd = 2 := by
      rcases h2 with h | h | h
      · rw [h]; decide
      · rw [h.1]; decide
      · rw [h.1]; decide
    rw [if_neg h1, if_neg this]
theorem cpy_pO {D : Ad} {S : Sx} {kf kd : Int32} {f g : Nat → Int32} {i j n : Nat} (h : ∀ k, k < n → fitS S kf (f (i + k)) kd) : va_cpy (fun k => pO D kf (f k)) (fun k => pO D kd (g k)) i j n = fun k => pO D kd (va_cpy f g i j n k) := by
  funext k
  unfold va_cpy
  by_cases hk : j ≤ k ∧ k < j + n
  · rw [if_pos hk, if_pos hk]
    exact pO_fit (h (k - j) (by omega))
  · rw [if_neg hk, if_neg hk]
theorem cpy_ini {D : Ad} {kd : Int32} {f : Nat → Int32} {i n : Nat} (hk : ¬ isN kd) : va_cpy (fun k => pO D kd (f k)) (fun _ => none) i 0 n = fun k => pO D kd (va_cpy f (ini kd) i 0 n k) := by
  funext k
  unfold va_cpy
  by_cases h : 0 ≤ k ∧ k < 0 + n
  · rw [if_pos h, if_pos h]
  · rw [if_neg h, if_neg h, ini_p hk]; exact pO_m1.symm
theorem cpy_one {f g : Nat → Int32} {i j : Nat} : va_cpy f g i j 1 = upd g j (f i) := by
  funext k
  unfold va_cpy upd
  by_cases h : k = j
  · subst h; rw [if_pos (by omega), if_pos rfl]; simp
  · rw [if_neg (by omega), if_neg h]
/-- another content for a row -/
theorem Wf.set {S : Sx} (hW : Wf S) {v : Int32} (hv : vR S v) {f : Nat → Int32} (h2 : kdv S v = 2 → ∀ k, f k = -1 ∨ (vR S (f k) ∧ kdv S (f k) = 1)) (h3 : 3 ≤ kdv S v → ∀ k, f k = -1 ∨ vT S (f k)) : Wf (uRow S (ix v) f) := by
  obtain ⟨a1, a2, a3, a4⟩ := hW
  have e1 : kdv S v = sKd S (ix v) := by unfold kdv; rw [if_neg hv.1]
  rw [e1] at h2 h3
  refine ⟨a1, fun r hr => ?_, a3, a4⟩
  obtain ⟨b1, b2, b3, b4⟩ := a2 r hr
  refine ⟨b1, b2, fun hk k => ?_, fun hk k => ?_⟩
  · by_cases e : r = ix v
    · subst e
      rw [show sIt (uRow S (ix v) f) (ix v) = f by simp [sIt, uRow, va_up]]
      rcases h2 hk k with q | ⟨q1, q2⟩
      · exact Or.inl q
      · refine Or.inr ⟨q1, ?_⟩
        unfold kdv at q2
        rwa [if_neg q1.1] at q2
    · rw [show sIt (uRow S (ix v) f) r = sIt S r by simp [sIt, uRow, va_up, e]]
      exact b3 hk k
  · by_cases e : r = ix v
    · subst e
      rw [show sIt (uRow S (ix v) f) (ix v) = f by simp [sIt, uRow, va_up]]
      exact h3 hk k
    · rw [show sIt (uRow S (ix v) f) r = sIt S r by simp [sIt, uRow, va_up, e]]
      exact b4 hk k
theorem isN_lt {k : Int32} (h : isN k) : ¬ 3 ≤ k ∧ ¬ k = 2 := by rcases h with h | h <;> rw [h] <;> decide
theorem kd_ge3 {S : Sx} (hW : Wf S) {v : Int32} (hv : vR S v) (h1 : ¬ isN (kdv S v)) (h2 : ¬ kdv S v = 2) : 3 ≤ kdv S v := by
  rcases kd_cases (hW.kd (Or.inl hv)).1 (hW.kd (Or.inl hv)).2 with q | q | q | q | q | q | q <;> rw [q] at h1 h2 ⊢ <;> first | decide | exact absurd (Or.inl rfl) h1 | exact absurd (Or.inr rfl) h1 | exact absurd rfl h2
/-- items that came from another row -/
theorem Wf.got {S : Sx} (hW : Wf S) {u v : Int32} (hu : vR S u) (hv : vR S v) (hm : mayT (kdv S v) (kdv S u)) {f : Nat → Int32} (h : ∀ k, f k = itv S v k ∨ ∃ j, f k = itv S u j ∧ (¬ isN (kdv S v) → fitS S (kdv S u) (itv S u j) (kdv S v))) : Wf (uRow S (ix v) f) := by
  obtain ⟨-, -, c1, c2⟩ := hW.row hv
  obtain ⟨-, -, d1, d2⟩ := hW.row hu
  refine hW.set hv (fun hk k => ?_) (fun hk k => ?_)
  · rcases h k with q | ⟨j, q, hf⟩
    · rw [q]; exact c1 hk k
    · rw [q]
      have hn : ¬ isN (kdv S v) := fun e => (isN_lt e).2 hk
      rcases hf hn with e | ⟨e1, -⟩ | ⟨-, e2⟩
      · exact Or.inl e
      · exact d1 e1 j
      · rw [hk] at e2
        rcases e2 with e2 | ⟨e2, -⟩ | ⟨e2, -⟩ <;> exact absurd e2 (by decide)
  · rcases h k with q | ⟨j, q, hf⟩
    · rw [q]; exact c2 hk k
    · rw [q]
      have hn : ¬ isN (kdv S v) := fun e => (isN_lt e).1 hk
      rcases hf hn with e | ⟨e1, e2⟩ | ⟨e1, -⟩
      · exact Or.inl e
      · rw [e2] at hk; exact absurd hk (by decide)
      · have hun : ¬ isN (kdv S u) := by
          rcases hm.2 with e | ⟨-, e⟩
          · rw [← e]; exact hn
          · exact e
        exact d2 (kd_ge3 hW hu hun e1) j
theorem may_isN {kd kf : Int32} (h : mayT kd kf) (hk : isN kd) : isN kf := by
  rcases h.2 with e | ⟨e, -⟩
  · rw [← e]; exact hk
  · exact absurd hk e
theorem may_notN {kd kf : Int32} (h : mayT kd kf) (hk : ¬ isN kd) : ¬ isN kf := by
  rcases h.2 with e | ⟨-, e⟩
  · rw [← e]; exact hk
  · exact e
theorem mvN_spec {S : Sx} {u v : Int32} {i n : Nat} : mvN S u v i n ≤ n ∧ (¬ isN (kdv S v) → (∀ k, k < mvN S u v i n → fitS S (kdv S u) (itv S u (i + k)) (kdv S v)) ∧ (mvN S u v i n < n → ¬ fitS S (kdv S u) (itv S u (i + mvN S u v i n)) (kdv S v))) := by
  unfold mvN
  by_cases hk : isN (kdv S v)
  · rw [if_pos hk]; exact ⟨Nat.le_refl _, fun h => absurd hk h⟩
  · rw [if_neg hk]
    obtain ⟨h1, h2, h3, h4⟩ := preN_spec (fitB S (kdv S u) (kdv S v) (itv S u) i) n 0
    refine ⟨by omega, fun _ => ⟨fun k q => ?_, fun q => ?_⟩⟩
    · exact of_decide_eq_true (h3 k (Nat.zero_le _) q)
    · exact of_decide_eq_false (h4 (by omega))
theorem mvN_one {S : Sx} {u v : Int32} {i : Nat} : 1 ≤ mvN S u v i 1 ↔ (isN (kdv S v) ∨ fitS S (kdv S u) (itv S u i) (kdv S v)) := by
  obtain ⟨h1, h2⟩ := mvN_spec (S := S) (u := u) (v := v) (i := i) (n := 1)
  constructor
  · intro h
    by_cases hk : isN (kdv S v)
    · exact Or.inl hk
    · exact Or.inr ((h2 hk).1 0 (by omega))
  · intro h
    by_cases hk : isN (kdv S v)
    · unfold mvN; rw [if_pos hk]; exact Nat.le_refl _
    · have hf := h.resolve_left hk
      by_cases q : mvN S u v i 1 < 1
      · have e : mvN S u v i 1 = 0 := by omega
        have := (h2 hk).2 q
        rw [e] at this
        exact absurd hf this
      · omega
theorem cR_take (l : Launch) (E : En) (A : Nat → Prop) (w : Wd) {S : Sx} {D : Ad} {u v : Int32} (i j n : Nat) (hW : Wf S) (hR : Rp E S D w) (hu : vR S u) (hv : vR S v) (hm : mayT (kdv S v) (kdv S u)) (h4 : i + n ≤ lnv S u) (h5 : j + n ≤ lnv S v) (hf : ¬ isN (kdv S v) → ∀ k, k < n → fitS S (kdv S u) (itv S u (i + k)) (kdv S v)) :
    Ct l yX1_take wsX1_take ({ frames := 1, cells := 0, slots := 0, locals := 20 } : Room) E A w [.ref (aR D v), .ref (aR D u), .int (nI i), .int (nI j), .int (nI n)] (fun r w' => r = none ∧ Rp E (uRow S (ix v) (va_cpy (itv S u) (itv S v) i j n)) D w') 0 0 := by
  have l1 := hW.ln (Or.inl hu)
  have l2 := hW.ln (Or.inl hv)
  by_cases hk : isN (kdv S v)
  · refine Ct.mono (cc_X1_take_n l E A w i j n (by omega) (by omega) h4 h5 hk (hR.2.2.1 _ (Or.inl hv)).1 (hR.2.2.1 _ (Or.inl hu)).1 (hR.num (Or.inl hv) hk) (hR.num (Or.inl hu) (may_isN hm hk))) (fun r w' h => ⟨h.1, ?_⟩)
    rw [← h.2]
    exact hR.numW hv hk _
  · refine Ct.mono (cc_X1_take_p l E A w i j n (by omega) (by omega) h4 h5 hk (hR.2.2.1 _ (Or.inl hv)).1 (hR.2.2.1 _ (Or.inl hu)).1 (hR.par (Or.inl hv) hk) (hR.par (Or.inl hu) (may_notN hm hk)) (fun k _ => hR.ok hW hu (may_notN hm hk) (i + k))) (fun r w' h => ⟨h.1, ?_⟩)
    rw [← h.2]
    exact hR.parW hv hk _ (cpy_pO (hf hk))
theorem cR_count (l : Launch) (E : En) (A : Nat → Prop) (w : Wd) {S : Sx} {D : Ad} {u v : Int32} (i n : Nat) (hW : Wf S) (hR : Rp E S D w) (hu : vR S u) (hv : vR S v) (hm : mayT (kdv S v) (kdv S u)) (h4 : i + n ≤ lnv S u) :
    Ct l yX1_countTaken wsX1_countTaken ({ frames := 2, cells := 0, slots := 0, locals := 42 } : Room) E A w [.ref (aR D v), .ref (aR D u), .int (nI i), .int (nI n)] (fun r w' => w = w' ∧ r = some (.int (nI (mvN S u v i n)))) 0 0 := by
  have l1 := hW.ln (Or.inl hu)
  by_cases hk : isN (kdv S v)
  · refine Ct.mono (cc_X1_countTaken_n l E A w (aR D u) (nI i) (nI n) hk (hR.2.2.1 _ (Or.inl hv)).1) (fun r w' h => ⟨h.1, ?_⟩)
    rw [h.2]; unfold mvN; rw [if_pos hk]
  · refine Ct.mono (cc_X1_countTaken_p l E A w i n (by omega) h4 hk (hR.2.2.1 _ (Or.inl hv)).1 (hR.2.2.1 _ (Or.inl hu)).1 (hR.par (Or.inl hu) (may_notN hm hk)) (fun k _ => hR.ok hW hu (may_notN hm hk) (i + k))) (fun r w' h => ⟨h.1, ?_⟩)
    obtain ⟨-, cn, hr, h1, h2, h3⟩ := h
    rw [hr]
    have e : cn = mvN S u v i n := by
      unfold mvN
      rw [if_neg hk]
      refine preN_uniq h1 (fun k q => ?_) (fun q => ?_)
      · exact decide_eq_true ((hR.fit hW hu (may_notN hm hk) (i + k) (kdv S v)).mp (h2 k q))
      · exact decide_eq_false (fun e => h3 q ((hR.fit hW hu (may_notN hm hk) (i + cn) (kdv S v)).mpr e))
    rw [e]
theorem cR_cut (l : Launch) (E : En) (A : Nat → Prop) (w : Wd) {S : Sx} {D : Ad} {u : Int32} (i n : Nat) (hW : Wf S) (hR : Rp E S D w) (hb : sNr S < 512) (hu : vR S u) (h4 : i + n ≤ lnv S u) :
    Ct l yX1_cut wsX1_cut ({ frames := 3, cells := 3, slots := 44, locals := 63 } : Room) E A w [.ref (aR D u), .int (nI i), .int (nI n)] (fun r w' => ∃ q na qa, r = some (.ref q) ∧ Rp E (uNew S (kdv S u) n (va_cpy (itv S u) (ini (kdv S u)) i 0 n)) (adR D (nI (sNr S)) q na qa) w' ∧ vR (uNew S (kdv S u) n (va_cpy (itv S u) (ini (kdv S u)) i 0 n)) (nI (sNr S)) ∧ lnv (uNew S (kdv S u) n (va_cpy (itv S u) (ini (kdv S u)) i 0 n)) (nI (sNr S)) = n ∧ aR (adR D (nI (sNr S)) q na qa) (nI (sNr S)) = q) 3 44 := by
  have l1 := hW.ln (Or.inl hu)
  have hfi : kdv S u = 2 → ∀ k, va_cpy (itv S u) (ini (kdv S u)) i 0 n k = -1 ∨ vR S (va_cpy (itv S u) (ini (kdv S u)) i 0 n k) := by
    intro e k
    unfold va_cpy
    by_cases h : 0 ≤ k ∧ k < 0 + n
    · rw [if_pos h]
      rcases (hW.row hu).2.2.1 e (i + (k - 0)) with q | q
      · exact Or.inl q
      · exact Or.inr q.1
    · rw [if_neg h, ini_p (by rw [e]; decide)]; exact Or.inl rfl
  by_cases hk : isN (kdv S u)
  · refine Ct.mono (cc_X1_cut_n l E A w i n (by omega) (by omega) h4 hk (hR.2.2.1 _ (Or.inl hu)).1 (hR.num (Or.inl hu) hk)) (fun r w' h => ?_)
    obtain ⟨q, na, qa, hr, hN⟩ := h
    obtain ⟨g1, g2, g3, g4⟩ := hR.new hW hb (NewRow.n hk (by rw [← ini_n hk] at hN; exact hN)) hfi
    exact ⟨q, na, qa, hr, g1, g2, g3, g4⟩
  · refine Ct.mono (cc_X1_cut_p l E A w i n (by omega) (by omega) h4 hk (hR.2.2.1 _ (Or.inl hu)).1 (hR.par (Or.inl hu) hk) (fun k _ => hR.ok hW hu hk (i + k))) (fun r w' h => ?_)
    obtain ⟨q, na, qa, hr, hN⟩ := h
    obtain ⟨g1, g2, g3, g4⟩ := hR.new hW hb (NewRow.p hk (cpy_ini hk) hN) hfi
    exact ⟨q, na, qa, hr, g1, g2, g3, g4⟩
theorem rng_yes {n : Nat} {i k : Int32} (hn : n ≤ 40) (h : ¬ i < 0 ∧ ¬ k < 0 ∧ ¬ nI n < i ∧ ¬ nI n - i < k) : rg n i k := by
  obtain ⟨h1, h2, h3, h4⟩ := h
  obtain ⟨a, ha, rfl⟩ := nI_of h1
  obtain ⟨b, hb, rfl⟩ := nI_of h2
  have h3' : a ≤ n := Nat.not_lt.mp fun q => h3 ((nI_ltI (by omega) ha).mpr q)
  rw [pk_sub h3'] at h4
  have h4' : b ≤ n - a := Nat.not_lt.mp fun q => h4 ((nI_ltI (by omega) hb).mpr q)
  have e1 := nI_toInt ha
  have e2 := nI_toInt hb
  exact ⟨by rw [e1]; omega, by rw [e2]; omega, by rw [e1, e2]; omega⟩
theorem rng_no {n : Nat} {i k : Int32} (hn : n ≤ 40) (h : ¬ (¬ i < 0 ∧ ¬ k < 0 ∧ ¬ nI n < i ∧ ¬ nI n - i < k)) : ¬ rg n i k := by
  rintro ⟨h1, h2, h3⟩
  have g1 : ¬ i < 0 := by rw [Int32.lt_iff_toInt_lt]; simp; exact h1
  have g2 : ¬ k < 0 := by rw [Int32.lt_iff_toInt_lt]; simp; exact h2
  obtain ⟨a, ha, rfl⟩ := nI_of g1
  obtain ⟨b, hb, rfl⟩ := nI_of g2
  rw [nI_toInt ha, nI_toInt hb] at h3
  refine h ⟨g1, g2, fun q => ?_, fun q => ?_⟩
  · have := (nI_ltI (by omega) ha).mp q
    omega
  · rw [pk_sub (by omega)] at q
    have := (nI_ltI (by omega) hb).mp q
    omega
theorem rg_nat {n : Nat} {i k : Int32} (hn : n ≤ 40) (h : rg n i k) : ∃ a b : Nat, a + b ≤ n ∧ i = nI a ∧ k = nI b := by
  obtain ⟨h1, h2, h3⟩ := h
  have g1 : ¬ i < 0 := by rw [Int32.lt_iff_toInt_lt]; simp; exact h1
  have g2 : ¬ k < 0 := by rw [Int32.lt_iff_toInt_lt]; simp; exact h2
  obtain ⟨a, ha, rfl⟩ := nI_of g1
  obtain ⟨b, hb, rfl⟩ := nI_of g2
  rw [nI_toInt ha, nI_toInt hb] at h3
  exact ⟨a, b, by omega, rfl, rfl⟩
end
section
set_option maxHeartbeats 4000000 in
set_option maxRecDepth 100000 in
theorem cc_X3_move (l : Launch) (E : En) (A : Nat → Prop) (w : Wd) {S : Sx} {D : Ad} (x i y j n : Int32) (hW : Wf S) (hR : Rp E S D w) (hb9 : sNr S < 512 ∧ sNt S < 512 ∧ sNl S < 512) : Ct l yX3_move wsX3_move ({ frames := 3, cells := 0, slots := 0, locals := 66 } : Room) E A w [.ref (aH D), .int x, .int i, .int y, .int j, .int n] (fun r w' => PoC E D (sp_move S x i y j n) r w') 0 0 := by
  refine Met.ofW (cc := cX3_move) (maxL := 9) (ret := (some .int)) (by decide) rfl ?_
  intro pp0 ee0 s m args below meth cc0 s₁ B hml hv
  obtain ⟨rfl, hT, hI, hA⟩ := hv
  have hx := B.exec
  have hb := B.bytes
  have hr := B.returns
  have hts := atoms_spec (ws := wsX3_move) B.pre
  have hown : s.vm.findClass RX3 = some m.cls := findClass_of_methodNamed B.named
  have hlocks := B.notSynchronized
  have in_X3 : ∀ w ∈ wsX30, w ∈ wsX3_move := by decide +kernel
  have hS : va_S A s.heap s.heap [] := va_S.rf
  have hl := lv_entry ([.ref (aH D), .int x, .int i, .int y, .int j, .int n]) (n := 9) (Nat.le_of_ble_eq_true rfl)
  rw [lg_entry_eq]
  generalize (lg_sl ([.ref (aH D), .int x, .int i, .int y, .int j, .int n]) ++ List.replicate (9 - (lg_sl ([.ref (aH D), .int x, .int i, .int y, .int j, .int n])).length) Slot.unset).toArray = ls at hl ⊢
  have hl : lv_has ls 9 [(0, .ref (aH D)), (1, .int x), (2, .int i), (3, .int y), (4, .int j), (5, .int n)] := hl
  refine lv_iload_n hx hb dX3_move_0 rfl (lv_at hl 1 rfl) ?_
  refine ca_S (As := [.int x]) (rest := []) ⟨hx, hb, hml, hown, hts⟩ (cc_X3_isOutside l E A _ x) (va_cwS 1 hts gX3_move_X3_isOutside rfl rfl rfl (by decide +kernel) ⟨(Nat.le_of_ble_eq_true rfl), (Nat.le_of_ble_eq_true rfl)⟩) hT hI hA hS rfl rfl hl.1 (Nat.le_of_ble_eq_true rfl) dX3_move_1 ⟨(Nat.le_of_ble_eq_true rfl), (Nat.le_of_ble_eq_true rfl)⟩ (fun r w_2 H locs hp_1 hI hS => ?_)
  obtain ⟨rfl, ⟨ho_3, rfl⟩ | ⟨ho_3, rfl⟩⟩ := hp_1
  · refine W.eq (g2 := F0 m 4 ls [.int 1]) rfl ?_
    refine lv_if_ne (tgt := 14) hx hb dX3_move_4 (by decide) (fun _ => ?_) (fun c => absurd c (by decide))
    refine lv_ldc (v := -2000000001) hx hb hown (hts (.constant RX3 23 (-2000000001)) (by decide +kernel)) dX3_move_14 ?_
    exact re_i hx hb hr hlocks hT hA hS hI (PoC.of (by
            unfold sp_move
            rw [if_pos (Or.inl ho_3)]) hR rfl) (Nat.le_of_ble_eq_true rfl) (Nat.le_of_ble_eq_true rfl) dX3_move_16
  · refine W.eq (g2 := F0 m 4 ls [.int 0]) rfl ?_
    refine lv_if_ne (tgt := 14) hx hb dX3_move_4 (by decide) (fun c => absurd c (by decide)) (fun _ => ?_)
    refine lv_iload_n hx hb dX3_move_7 rfl (lv_at hl 3 rfl) ?_
    refine ca_S (As := [.int y]) (rest := []) ⟨hx, hb, hml, hown, hts⟩ (cc_X3_isOutside l E A _ y) (va_cwS 1 hts gX3_move_X3_isOutside rfl rfl rfl (by decide +kernel) ⟨(Nat.le_of_ble_eq_true rfl), (Nat.le_of_ble_eq_true rfl)⟩) hT hI hA hS rfl rfl hl.1 (Nat.le_of_ble_eq_true rfl) dX3_move_8 ⟨(Nat.le_of_ble_eq_true rfl), (Nat.le_of_ble_eq_true rfl)⟩ (fun r w_5 H locs hp_4 hI hS => ?_)
    obtain ⟨rfl, ⟨ho_6, rfl⟩ | ⟨ho_6, rfl⟩⟩ := hp_4
    · refine W.eq (g2 := F0 m 11 ls [.int 1]) rfl ?_
      refine lv_if_eq (tgt := 17) hx hb dX3_move_11 (by decide) (fun c => absurd c (by decide)) (fun _ => ?_)
      refine lv_ldc (v := -2000000001) hx hb hown (hts (.constant RX3 23 (-2000000001)) (by decide +kernel)) dX3_move_14 ?_
      exact re_i hx hb hr hlocks hT hA hS hI (PoC.of (by
                unfold sp_move
                rw [if_pos (Or.inr (ho_6))]) hR rfl) (Nat.le_of_ble_eq_true rfl) (Nat.le_of_ble_eq_true rfl) dX3_move_16
    · refine W.eq (g2 := F0 m 11 ls [.int 0]) rfl ?_
      refine lv_if_eq (tgt := 17) hx hb dX3_move_11 (by decide) (fun _ => ?_) (fun c => absurd c (by decide))
      obtain ⟨xj, hxj, rfl⟩ := isP_nat ho_3
      obtain ⟨yj, hyj, rfl⟩ := isP_nat ho_6
      refine lv_aload_n hx hb dX3_move_17 rfl (lv_at hl 0 rfl) ?_
      refine wr_get (ci := 2) (C := RX3) (T := TX3) (N := 2) (v := .ref (aP D)) hx hb hts in_X3 hown hT hI hR.1 rfl 0 (by decide) (hts (.fieldLink RX3 11 "CopyRows" "places" "[LCopyRows$Row;") (by decide +kernel)) rfl dX3_move_18 ?_
      refine lv_iload_n hx hb dX3_move_21 rfl (lv_at hl 1 rfl) ?_
      refine wr_aaldN (t := xj) hx hb hT hI hR.2.1 2 rfl (by omega) (by omega) dX3_move_22 ?_
      rcases hW.pl D xj with ⟨ez7, ep7⟩ | ⟨ez7, hv7, ep7⟩
      · refine W.eq (g2 := F0 m 23 ls [.null]) (by rw [ep7]; rfl) ?_
        refine lv_astoreN (lv' := [(6, .null), (0, .ref (aH D)), (1, .int (nI xj)), (2, .int i), (3, .int (nI yj)), (4, .int j), (5, .int n)]) hx hb dX3_move_23 hl (by decide) rfl (fun ls hl => ?_)
        refine lv_aload_n hx hb dX3_move_25 rfl (lv_at hl 1 rfl) ?_
        refine wr_get (ci := 2) (C := RX3) (T := TX3) (N := 2) (v := .ref (aP D)) hx hb hts in_X3 hown hT hI hR.1 rfl 0 (by decide) (hts (.fieldLink RX3 11 "CopyRows" "places" "[LCopyRows$Row;") (by decide +kernel)) rfl dX3_move_26 ?_
        refine lv_iload_n hx hb dX3_move_29 rfl (lv_at hl 4 rfl) ?_
        refine wr_aaldN (t := yj) hx hb hT hI hR.2.1 2 rfl (by omega) (by omega) dX3_move_30 ?_
        rcases hW.pl D yj with ⟨ez8, ep8⟩ | ⟨ez8, hv8, ep8⟩
        · refine W.eq (g2 := F0 m 31 ls [.null]) (by rw [ep8]; rfl) ?_
          refine lv_astoreN (lv' := [(7, .null), (6, .null), (0, .ref (aH D)), (1, .int (nI xj)), (2, .int i), (3, .int (nI yj)), (4, .int j), (5, .int n)]) hx hb dX3_move_31 hl (by decide) rfl (fun ls hl => ?_)
          refine lv_aloadN hx hb dX3_move_33 (lv_at hl 1 rfl) ?_
          refine lv_ifnullN (tgt := 43) hx hb dX3_move_35 (by decide) ?_
          refine lv_aload_n hx hb dX3_move_43 rfl (lv_at hl 2 rfl) ?_
          refine lv_iconst (v := 1) hx hb dX3_move_44 (by decide) ?_
          refine ca_V (As := [.int 1]) (rest := []) (r0 := (RX3, TX3, 2)) (ci := 2) ⟨hx, hb, hml, hown, hts⟩ (cc_X3_fail l E A _ 1 hR) (cwV 1 hts gX3_move_X3_fail rfl rfl rfl (by decide +kernel) ⟨(Nat.le_of_ble_eq_true rfl), (Nat.le_of_ble_eq_true rfl)⟩) hT hI hA hS rfl hR.1 rfl rfl hl.1 (Nat.le_of_ble_eq_true rfl) dX3_move_45 ⟨(Nat.le_of_ble_eq_true rfl), (Nat.le_of_ble_eq_true rfl)⟩ (fun r w_10 H locs hp_9 hI hS => ?_)
          obtain ⟨rfl, hR⟩ := hp_9
          refine W.eq (g2 := F0 m 48 ls [.int 0]) rfl ?_
          exact re_i hx hb hr hlocks hT hA hS hI (PoC.of (by
                        unfold sp_move
                        try simp only [pv_nI hxj, pv_nI hyj]
                        rw [if_neg ((fun q => q.elim ho_3 ho_6)), if_pos (Or.inl ez7)]) hR rfl) (Nat.le_of_ble_eq_true rfl) (Nat.le_of_ble_eq_true rfl) dX3_move_48
        · refine W.eq (g2 := F0 m 31 ls [.ref (aR D (sPl S yj))]) (by rw [ep8]; rfl) ?_
          refine lv_astore (lv' := [(7, .ref (aR D (sPl S yj))), (6, .null), (0, .ref (aH D)), (1, .int (nI xj)), (2, .int i), (3, .int (nI yj)), (4, .int j), (5, .int n)]) hx hb dX3_move_31 hl (by decide) rfl (fun ls hl => ?_)
          refine lv_aloadN hx hb dX3_move_33 (lv_at hl 1 rfl) ?_
          refine lv_ifnullN (tgt := 43) hx hb dX3_move_35 (by decide) ?_
          refine lv_aload_n hx hb dX3_move_43 rfl (lv_at hl 2 rfl) ?_
          refine lv_iconst (v := 1) hx hb dX3_move_44 (by decide) ?_
          refine ca_V (As := [.int 1]) (rest := []) (r0 := (RX3, TX3, 2)) (ci := 2) ⟨hx, hb, hml, hown, hts⟩ (cc_X3_fail l E A _ 1 hR) (cwV 1 hts gX3_move_X3_fail rfl rfl rfl (by decide +kernel) ⟨(Nat.le_of_ble_eq_true rfl), (Nat.le_of_ble_eq_true rfl)⟩) hT hI hA hS rfl hR.1 rfl rfl hl.1 (Nat.le_of_ble_eq_true rfl) dX3_move_45 ⟨(Nat.le_of_ble_eq_true rfl), (Nat.le_of_ble_eq_true rfl)⟩ (fun r w_12 H locs hp_11 hI hS => ?_)
          obtain ⟨rfl, hR⟩ := hp_11
          refine W.eq (g2 := F0 m 48 ls [.int 0]) rfl ?_
          exact re_i hx hb hr hlocks hT hA hS hI (PoC.of (by
                        unfold sp_move
                        try simp only [pv_nI hxj, pv_nI hyj]
                        rw [if_neg ((fun q => q.elim ho_3 ho_6)), if_pos (Or.inl ez7)]) hR rfl) (Nat.le_of_ble_eq_true rfl) (Nat.le_of_ble_eq_true rfl) dX3_move_48
      · refine W.eq (g2 := F0 m 23 ls [.ref (aR D (sPl S xj))]) (by rw [ep7]; rfl) ?_
        refine lv_astore (lv' := [(6, .ref (aR D (sPl S xj))), (0, .ref (aH D)), (1, .int (nI xj)), (2, .int i), (3, .int (nI yj)), (4, .int j), (5, .int n)]) hx hb dX3_move_23 hl (by decide) rfl (fun ls hl => ?_)
        refine lv_aload_n hx hb dX3_move_25 rfl (lv_at hl 1 rfl) ?_
        refine wr_get (ci := 2) (C := RX3) (T := TX3) (N := 2) (v := .ref (aP D)) hx hb hts in_X3 hown hT hI hR.1 rfl 0 (by decide) (hts (.fieldLink RX3 11 "CopyRows" "places" "[LCopyRows$Row;") (by decide +kernel)) rfl dX3_move_26 ?_
        refine lv_iload_n hx hb dX3_move_29 rfl (lv_at hl 4 rfl) ?_
        refine wr_aaldN (t := yj) hx hb hT hI hR.2.1 2 rfl (by omega) (by omega) dX3_move_30 ?_
        rcases hW.pl D yj with ⟨ez13, ep13⟩ | ⟨ez13, hv13, ep13⟩
        · refine W.eq (g2 := F0 m 31 ls [.null]) (by rw [ep13]; rfl) ?_
          refine lv_astoreN (lv' := [(7, .null), (6, .ref (aR D (sPl S xj))), (0, .ref (aH D)), (1, .int (nI xj)), (2, .int i), (3, .int (nI yj)), (4, .int j), (5, .int n)]) hx hb dX3_move_31 hl (by decide) rfl (fun ls hl => ?_)
          refine lv_aload hx hb dX3_move_33 (lv_at hl 1 rfl) ?_
          refine lv_ifnull hx hb dX3_move_35 ?_
          refine lv_aloadN hx hb dX3_move_38 (lv_at hl 0 rfl) ?_
          refine lv_ifnonnullN hx hb dX3_move_40 ?_
          refine lv_aload_n hx hb dX3_move_43 rfl (lv_at hl 2 rfl) ?_
          refine lv_iconst (v := 1) hx hb dX3_move_44 (by decide) ?_
          refine ca_V (As := [.int 1]) (rest := []) (r0 := (RX3, TX3, 2)) (ci := 2) ⟨hx, hb, hml, hown, hts⟩ (cc_X3_fail l E A _ 1 hR) (cwV 1 hts gX3_move_X3_fail rfl rfl rfl (by decide +kernel) ⟨(Nat.le_of_ble_eq_true rfl), (Nat.le_of_ble_eq_true rfl)⟩) hT hI hA hS rfl hR.1 rfl rfl hl.1 (Nat.le_of_ble_eq_true rfl) dX3_move_45 ⟨(Nat.le_of_ble_eq_true rfl), (Nat.le_of_ble_eq_true rfl)⟩ (fun r w_15 H locs hp_14 hI hS => ?_)
          obtain ⟨rfl, hR⟩ := hp_14
          refine W.eq (g2 := F0 m 48 ls [.int 0]) rfl ?_
          exact re_i hx hb hr hlocks hT hA hS hI (PoC.of (by
                        unfold sp_move
                        try simp only [pv_nI hxj, pv_nI hyj]
                        rw [if_neg ((fun q => q.elim ho_3 ho_6)), if_pos (Or.inr (ez13))]) hR rfl) (Nat.le_of_ble_eq_true rfl) (Nat.le_of_ble_eq_true rfl) dX3_move_48
        · refine W.eq (g2 := F0 m 31 ls [.ref (aR D (sPl S yj))]) (by rw [ep13]; rfl) ?_
          refine lv_astore (lv' := [(7, .ref (aR D (sPl S yj))), (6, .ref (aR D (sPl S xj))), (0, .ref (aH D)), (1, .int (nI xj)), (2, .int i), (3, .int (nI yj)), (4, .int j), (5, .int n)]) hx hb dX3_move_31 hl (by decide) rfl (fun ls hl => ?_)
          refine lv_aload hx hb dX3_move_33 (lv_at hl 1 rfl) ?_
          refine lv_ifnull hx hb dX3_move_35 ?_
          refine lv_aload hx hb dX3_move_38 (lv_at hl 0 rfl) ?_
          refine lv_ifnonnull (tgt := 49) hx hb dX3_move_40 (by decide) ?_
          refine lv_aload hx hb dX3_move_49 (lv_at hl 0 rfl) ?_
          refine lv_aload hx hb dX3_move_51 (lv_at hl 1 rfl) ?_
          refine ca_V (As := [.ref (aR D (sPl S xj))]) (rest := []) (r0 := (RX1, TX1, 4)) (ci := 0) ⟨hx, hb, hml, hown, hts⟩ (cc_X1_mayTakeOf l E A _ (hR.2.2.1 _ hv13).1 (hR.2.2.1 _ hv7).1) (cwV 1 hts gX3_move_X1_mayTakeOf rfl rfl rfl (by decide +kernel) ⟨(Nat.le_of_ble_eq_true rfl), (Nat.le_of_ble_eq_true rfl)⟩) hT hI hA hS rfl (hR.2.2.1 _ hv13).1 rfl rfl hl.1 (Nat.le_of_ble_eq_true rfl) dX3_move_53 ⟨(Nat.le_of_ble_eq_true rfl), (Nat.le_of_ble_eq_true rfl)⟩ (fun r w_17 H locs hp_16 hI hS => ?_)
          obtain ⟨rfl, ⟨hm_18, rfl⟩ | ⟨hm_18, rfl⟩⟩ := hp_16
          · have hm_18 : mayT (kdv S (sPl S yj)) (kdv S (sPl S xj)) := hm_18
            have hru : vR S (sPl S xj) := vO_row hv7 (fun e9 => hm_18.1 (Or.inr e9))
            have hrv : vR S (sPl S yj) := vO_row hv13 (fun e9 => hm_18.1 (Or.inl e9))
            have hlu := hW.ln (Or.inl hru)
            have hlv := hW.ln (Or.inl hrv)
            refine W.eq (g2 := F0 m 56 ls [.int 1]) rfl ?_
            refine lv_if_ne (tgt := 65) hx hb dX3_move_56 (by decide) (fun _ => ?_) (fun c => absurd c (by decide))
            refine lv_aload hx hb dX3_move_65 (lv_at hl 1 rfl) ?_
            refine lv_iload_n hx hb dX3_move_67 rfl (lv_at hl 4 rfl) ?_
            refine lv_iload hx hb dX3_move_68 (lv_at hl 7 rfl) ?_
            refine ca_V (As := [.int i, .int n]) (rest := []) (r0 := (RX1, TX1, 4)) (ci := 0) ⟨hx, hb, hml, hown, hts⟩ (cc_X1_hasRange l E A _ i n (hR.2.2.1 _ hv7).1) (cwV 2 hts gX3_move_X1_hasRange rfl rfl rfl (by decide +kernel) ⟨(Nat.le_of_ble_eq_true rfl), (Nat.le_of_ble_eq_true rfl)⟩) hT hI hA hS rfl (hR.2.2.1 _ hv7).1 rfl rfl hl.1 (Nat.le_of_ble_eq_true rfl) dX3_move_70 ⟨(Nat.le_of_ble_eq_true rfl), (Nat.le_of_ble_eq_true rfl)⟩ (fun r w_20 H locs hp_19 hI hS => ?_)
            obtain ⟨rfl, ⟨hg_21, rfl⟩ | ⟨hg_21, rfl⟩⟩ := hp_19
            · have hg_21 : rg (lnv S (sPl S xj)) i n := rng_yes (hW.ln hv7) hg_21
              refine W.eq (g2 := F0 m 73 ls [.int 1]) rfl ?_
              refine lv_if_eq (tgt := 88) hx hb dX3_move_73 (by decide) (fun c => absurd c (by decide)) (fun _ => ?_)
              refine lv_aload hx hb dX3_move_76 (lv_at hl 0 rfl) ?_
              refine lv_iload hx hb dX3_move_78 (lv_at hl 6 rfl) ?_
              refine lv_iload hx hb dX3_move_80 (lv_at hl 7 rfl) ?_
              refine ca_V (As := [.int j, .int n]) (rest := []) (r0 := (RX1, TX1, 4)) (ci := 0) ⟨hx, hb, hml, hown, hts⟩ (cc_X1_hasRange l E A _ j n (hR.2.2.1 _ hv13).1) (cwV 2 hts gX3_move_X1_hasRange rfl rfl rfl (by decide +kernel) ⟨(Nat.le_of_ble_eq_true rfl), (Nat.le_of_ble_eq_true rfl)⟩) hT hI hA hS rfl (hR.2.2.1 _ hv13).1 rfl rfl hl.1 (Nat.le_of_ble_eq_true rfl) dX3_move_82 ⟨(Nat.le_of_ble_eq_true rfl), (Nat.le_of_ble_eq_true rfl)⟩ (fun r w_23 H locs hp_22 hI hS => ?_)
              obtain ⟨rfl, ⟨hg_24, rfl⟩ | ⟨hg_24, rfl⟩⟩ := hp_22
              · have hg_24 : rg (lnv S (sPl S yj)) j n := rng_yes (hW.ln hv13) hg_24
                refine W.eq (g2 := F0 m 85 ls [.int 1]) rfl ?_
                refine lv_if_ne (tgt := 94) hx hb dX3_move_85 (by decide) (fun _ => ?_) (fun c => absurd c (by decide))
                obtain ⟨ia, nb, hin1, rfl, rfl⟩ := rg_nat hlu hg_21
                obtain ⟨ja, nc, hin2, rfl, he2⟩ := rg_nat hlv hg_24
                obtain rfl : nb = nc := nI_inj (by omega) (by omega) he2
                refine lv_aload hx hb dX3_move_94 (lv_at hl 0 rfl) ?_
                refine lv_aload hx hb dX3_move_96 (lv_at hl 1 rfl) ?_
                refine lv_iload_n hx hb dX3_move_98 rfl (lv_at hl 4 rfl) ?_
                refine lv_iload hx hb dX3_move_99 (lv_at hl 7 rfl) ?_
                refine ca_V (As := [.ref (aR D (sPl S xj)), .int (nI ia), .int (nI nb)]) (rest := []) (r0 := (RX1, TX1, 4)) (ci := 0) ⟨hx, hb, hml, hown, hts⟩ (cR_count l E A _ ia nb hW hR hru hrv hm_18 (by omega)) (cwV 3 hts gX3_move_X1_countTaken rfl rfl rfl (by decide +kernel) ⟨(Nat.le_of_ble_eq_true rfl), (Nat.le_of_ble_eq_true rfl)⟩) hT hI hA hS rfl (hR.2.2.1 _ hv13).1 rfl rfl hl.1 (Nat.le_of_ble_eq_true rfl) dX3_move_101 ⟨(Nat.le_of_ble_eq_true rfl), (Nat.le_of_ble_eq_true rfl)⟩ (fun r w_26 H locs hp_25 hI hS => ?_)
                obtain ⟨rfl, rfl⟩ := hp_25
                have hsp := mvN_spec (S := S) (u := sPl S xj) (v := sPl S yj) (i := ia) (n := nb)
                generalize hmv : mvN S (sPl S xj) (sPl S yj) ia nb = mv at hsp ⊢
                refine W.eq (g2 := F0 m 104 ls [.int (nI mv)]) rfl ?_
                refine lv_istore (lv' := [(8, .int (nI mv)), (7, .ref (aR D (sPl S yj))), (6, .ref (aR D (sPl S xj))), (0, .ref (aH D)), (1, .int (nI xj)), (2, .int (nI ia)), (3, .int (nI yj)), (4, .int (nI ja)), (5, .int (nI nb))]) hx hb dX3_move_104 hl (by decide) rfl (fun ls hl => ?_)
                refine lv_aload hx hb dX3_move_106 (lv_at hl 1 rfl) ?_
                refine lv_aload hx hb dX3_move_108 (lv_at hl 2 rfl) ?_
                refine lv_iload_n hx hb dX3_move_110 rfl (lv_at hl 5 rfl) ?_
                refine lv_iload hx hb dX3_move_111 (lv_at hl 7 rfl) ?_
                refine lv_iload hx hb dX3_move_113 (lv_at hl 0 rfl) ?_
                refine ca_V (As := [.ref (aR D (sPl S xj)), .int (nI ia), .int (nI ja), .int (nI mv)]) (rest := []) (r0 := (RX1, TX1, 4)) (ci := 0) ⟨hx, hb, hml, hown, hts⟩ (cR_take l E A _ ia ja mv hW hR hru hrv hm_18 (by omega) (by omega) (fun h9 => (hsp.2 h9).1)) (cwV 4 hts gX3_move_X1_take rfl rfl rfl (by decide +kernel) ⟨(Nat.le_of_ble_eq_true rfl), (Nat.le_of_ble_eq_true rfl)⟩) hT hI hA hS rfl (hR.2.2.1 _ hv13).1 rfl rfl hl.1 (Nat.le_of_ble_eq_true rfl) dX3_move_115 ⟨(Nat.le_of_ble_eq_true rfl), (Nat.le_of_ble_eq_true rfl)⟩ (fun r w_28 H locs hp_27 hI hS => ?_)
                obtain ⟨rfl, hR⟩ := hp_27
                refine W.eq (g2 := F0 m 118 ls []) rfl ?_
                refine lv_aload_n hx hb dX3_move_118 rfl (lv_at hl 3 rfl) ?_
                refine lv_iload hx hb dX3_move_119 (lv_at hl 0 rfl) ?_
                refine lv_iload hx hb dX3_move_121 (lv_at hl 8 rfl) ?_
                refine lv_icmp_ge (tgt := 130) hx hb dX3_move_123 (by decide) (fun c_29 => ?_) (fun c_29 => ?_)
                · have c_29 : nb ≤ mv := (nI_leI (a := nb) (b := mv) (by omega) (by omega)).mp c_29
                  refine lv_iconst (v := 0) hx hb dX3_move_130 (by decide) ?_
                  refine wr_put (ci := 2) (C := RX3) (T := TX3) (N := 2) (v := .int 0) (ty := .int) hx hb hts in_X3 tyX3 tyX3_ok nmX3 hown hT hI hS hR.1 rfl 1 (by decide) (hts (.fieldLink RX3 15 "CopyRows" "code" "I") (by decide +kernel)) rfl (by decide +kernel) rfl rfl (Nat.le_of_ble_eq_true rfl) dX3_move_131 (fun H locs hI hS => ?_)
                  have hR := hR.cod (0)
                  refine lv_iload hx hb dX3_move_134 (lv_at hl 0 rfl) ?_
                  exact re_i hx hb hr hlocks hT hA hS hI (PoC.of (by
                                        unfold sp_move
                                        try simp only [pv_nI hxj, pv_nI hyj, ix_nI (show ia < 2 ^ 31 by omega), ix_nI (show nb < 2 ^ 31 by omega), ix_nI (show ja < 2 ^ 31 by omega)]
                                        rw [if_neg ((fun q => q.elim ho_3 ho_6)), if_neg ((fun q => q.elim ez7 ez13)), if_neg (not_not_intro hm_18), if_neg (fun q => q.elim (not_not_intro hg_21) (not_not_intro hg_24))]
                                        rw [hmv]
                                        rw [if_neg (by omega)]) hR rfl) (Nat.le_of_ble_eq_true rfl) (Nat.le_of_ble_eq_true rfl) dX3_move_136
                · have c_29 : ¬ nb ≤ mv := fun q => c_29 ((nI_leI (a := nb) (b := mv) (by omega) (by omega)).mpr q)
                  refine lv_iconst (v := 2) hx hb dX3_move_126 (by decide) ?_
                  refine lv_goto (tgt := 131) hx hb dX3_move_127 (by decide) ?_
                  refine wr_put (ci := 2) (C := RX3) (T := TX3) (N := 2) (v := .int 2) (ty := .int) hx hb hts in_X3 tyX3 tyX3_ok nmX3 hown hT hI hS hR.1 rfl 1 (by decide) (hts (.fieldLink RX3 15 "CopyRows" "code" "I") (by decide +kernel)) rfl (by decide +kernel) rfl rfl (Nat.le_of_ble_eq_true rfl) dX3_move_131 (fun H locs hI hS => ?_)
                  have hR := hR.cod (2)
                  refine lv_iload hx hb dX3_move_134 (lv_at hl 0 rfl) ?_
                  exact re_i hx hb hr hlocks hT hA hS hI (PoC.of (by
                                        unfold sp_move
                                        try simp only [pv_nI hxj, pv_nI hyj, ix_nI (show ia < 2 ^ 31 by omega), ix_nI (show nb < 2 ^ 31 by omega), ix_nI (show ja < 2 ^ 31 by omega)]
                                        rw [if_neg ((fun q => q.elim ho_3 ho_6)), if_neg ((fun q => q.elim ez7 ez13)), if_neg (not_not_intro hm_18), if_neg (fun q => q.elim (not_not_intro hg_21) (not_not_intro hg_24))]
                                        rw [hmv]
                                        rw [if_pos (by omega)]) hR rfl) (Nat.le_of_ble_eq_true rfl) (Nat.le_of_ble_eq_true rfl) dX3_move_136
              · have hg_24 : ¬ rg (lnv S (sPl S yj)) j n := rng_no (hW.ln hv13) hg_24
                refine W.eq (g2 := F0 m 85 ls [.int 0]) rfl ?_
                refine lv_if_ne (tgt := 94) hx hb dX3_move_85 (by decide) (fun c => absurd c (by decide)) (fun _ => ?_)
                refine lv_aload_n hx hb dX3_move_88 rfl (lv_at hl 2 rfl) ?_
                refine lv_iconst (v := 3) hx hb dX3_move_89 (by decide) ?_
                refine ca_V (As := [.int 3]) (rest := []) (r0 := (RX3, TX3, 2)) (ci := 2) ⟨hx, hb, hml, hown, hts⟩ (cc_X3_fail l E A _ 3 hR) (cwV 1 hts gX3_move_X3_fail rfl rfl rfl (by decide +kernel) ⟨(Nat.le_of_ble_eq_true rfl), (Nat.le_of_ble_eq_true rfl)⟩) hT hI hA hS rfl hR.1 rfl rfl hl.1 (Nat.le_of_ble_eq_true rfl) dX3_move_90 ⟨(Nat.le_of_ble_eq_true rfl), (Nat.le_of_ble_eq_true rfl)⟩ (fun r w_33 H locs hp_32 hI hS => ?_)
                obtain ⟨rfl, hR⟩ := hp_32
                refine W.eq (g2 := F0 m 93 ls [.int 0]) rfl ?_
                exact re_i hx hb hr hlocks hT hA hS hI (PoC.of (by
                                    unfold sp_move
                                    try simp only [pv_nI hxj, pv_nI hyj]
                                    rw [if_neg ((fun q => q.elim ho_3 ho_6)), if_neg ((fun q => q.elim ez7 ez13)), if_neg (not_not_intro hm_18), if_pos (Or.inr hg_24)]) hR rfl) (Nat.le_of_ble_eq_true rfl) (Nat.le_of_ble_eq_true rfl) dX3_move_93
            · have hg_21 : ¬ rg (lnv S (sPl S xj)) i n := rng_no (hW.ln hv7) hg_21
              refine W.eq (g2 := F0 m 73 ls [.int 0]) rfl ?_
              refine lv_if_eq (tgt := 88) hx hb dX3_move_73 (by decide) (fun _ => ?_) (fun c => absurd c (by decide))
              refine lv_aload_n hx hb dX3_move_88 rfl (lv_at hl 2 rfl) ?_
              refine lv_iconst (v := 3) hx hb dX3_move_89 (by decide) ?_
              refine ca_V (As := [.int 3]) (rest := []) (r0 := (RX3, TX3, 2)) (ci := 2) ⟨hx, hb, hml, hown, hts⟩ (cc_X3_fail l E A _ 3 hR) (cwV 1 hts gX3_move_X3_fail rfl rfl rfl (by decide +kernel) ⟨(Nat.le_of_ble_eq_true rfl), (Nat.le_of_ble_eq_true rfl)⟩) hT hI hA hS rfl hR.1 rfl rfl hl.1 (Nat.le_of_ble_eq_true rfl) dX3_move_90 ⟨(Nat.le_of_ble_eq_true rfl), (Nat.le_of_ble_eq_true rfl)⟩ (fun r w_35 H locs hp_34 hI hS => ?_)
              obtain ⟨rfl, hR⟩ := hp_34
              refine W.eq (g2 := F0 m 93 ls [.int 0]) rfl ?_
              exact re_i hx hb hr hlocks hT hA hS hI (PoC.of (by
                                unfold sp_move
                                try simp only [pv_nI hxj, pv_nI hyj]
                                rw [if_neg ((fun q => q.elim ho_3 ho_6)), if_neg ((fun q => q.elim ez7 ez13)), if_neg (not_not_intro hm_18), if_pos (Or.inl hg_21)]) hR rfl) (Nat.le_of_ble_eq_true rfl) (Nat.le_of_ble_eq_true rfl) dX3_move_93
          · have hm_18 : ¬ mayT (kdv S (sPl S yj)) (kdv S (sPl S xj)) := hm_18
            refine W.eq (g2 := F0 m 56 ls [.int 0]) rfl ?_
            refine lv_if_ne (tgt := 65) hx hb dX3_move_56 (by decide) (fun c => absurd c (by decide)) (fun _ => ?_)
            refine lv_aload_n hx hb dX3_move_59 rfl (lv_at hl 2 rfl) ?_
            refine lv_iconst (v := 2) hx hb dX3_move_60 (by decide) ?_
            refine ca_V (As := [.int 2]) (rest := []) (r0 := (RX3, TX3, 2)) (ci := 2) ⟨hx, hb, hml, hown, hts⟩ (cc_X3_fail l E A _ 2 hR) (cwV 1 hts gX3_move_X3_fail rfl rfl rfl (by decide +kernel) ⟨(Nat.le_of_ble_eq_true rfl), (Nat.le_of_ble_eq_true rfl)⟩) hT hI hA hS rfl hR.1 rfl rfl hl.1 (Nat.le_of_ble_eq_true rfl) dX3_move_61 ⟨(Nat.le_of_ble_eq_true rfl), (Nat.le_of_ble_eq_true rfl)⟩ (fun r w_37 H locs hp_36 hI hS => ?_)
            obtain ⟨rfl, hR⟩ := hp_36
            refine W.eq (g2 := F0 m 64 ls [.int 0]) rfl ?_
            exact re_i hx hb hr hlocks hT hA hS hI (PoC.of (by
                            unfold sp_move
                            try simp only [pv_nI hxj, pv_nI hyj]
                            rw [if_neg ((fun q => q.elim ho_3 ho_6)), if_neg ((fun q => q.elim ez7 ez13)), if_pos (hm_18)]) hR rfl) (Nat.le_of_ble_eq_true rfl) (Nat.le_of_ble_eq_true rfl) dX3_move_64

set_option maxHeartbeats 4000000 in
set_option maxRecDepth 100000 in
theorem cc_X3_moveOne (l : Launch) (E : En) (A : Nat → Prop) (w : Wd) {S : Sx} {D : Ad} {u v : Int32} (i j : Int32) (hW : Wf S) (hR : Rp E S D w) (hru : vR S u) (hrv : vR S v) (hm : mayT (kdv S v) (kdv S u)) : Ct l yX3_moveOne wsX3_moveOne ({ frames := 3, cells := 0, slots := 0, locals := 66 } : Room) E A w [.ref (aR D u), .int i, .ref (aR D v), .int j] (fun r w' => ((oI (lnv S u) i ∨ oI (lnv S v) j) ∧ r = some (.int 3) ∧ Rp E S D w') ∨ (¬ (oI (lnv S u) i ∨ oI (lnv S v) j) ∧ ¬ (isN (kdv S v) ∨ fitS S (kdv S u) (itv S u (ix i)) (kdv S v)) ∧ r = some (.int 2) ∧ Rp E S D w') ∨ (¬ (oI (lnv S u) i ∨ oI (lnv S v) j) ∧ (isN (kdv S v) ∨ fitS S (kdv S u) (itv S u (ix i)) (kdv S v)) ∧ r = some (.int 0) ∧ Rp E (uRow S (ix v) (upd (itv S v) (ix j) (itv S u (ix i)))) D w')) 0 0 := by
  refine Met.ofW (cc := cX3_moveOne) (maxL := 4) (ret := (some .int)) (by decide) rfl ?_
  intro pp0 ee0 s m args below meth cc0 s₁ B hml hv
  obtain ⟨rfl, hT, hI, hA⟩ := hv
  have hx := B.exec
  have hb := B.bytes
  have hr := B.returns
  have hts := atoms_spec (ws := wsX3_moveOne) B.pre
  have hown : s.vm.findClass RX3 = some m.cls := findClass_of_methodNamed B.named
  have hlocks := B.notSynchronized
  have hS : va_S A s.heap s.heap [] := va_S.rf
  have hl := lv_entry ([.ref (aR D u), .int i, .ref (aR D v), .int j]) (n := 4) (Nat.le_of_ble_eq_true rfl)
  rw [lg_entry_eq]
  generalize (lg_sl ([.ref (aR D u), .int i, .ref (aR D v), .int j]) ++ List.replicate (4 - (lg_sl ([.ref (aR D u), .int i, .ref (aR D v), .int j])).length) Slot.unset).toArray = ls at hl ⊢
  have hl : lv_has ls 4 [(0, .ref (aR D u)), (1, .int i), (2, .ref (aR D v)), (3, .int j)] := hl
  have hlu := hW.ln (Or.inl hru)
  have hlv := hW.ln (Or.inl hrv)
  refine lv_aload_n hx hb dX3_moveOne_0 rfl (lv_at hl 0 rfl) ?_
  refine lv_iload_n hx hb dX3_moveOne_1 rfl (lv_at hl 1 rfl) ?_
  refine ca_V (As := [.int i]) (rest := []) (r0 := (RX1, TX1, 4)) (ci := 0) ⟨hx, hb, hml, hown, hts⟩ (cc_X1_has l E A _ i (hR.2.2.1 _ (Or.inl hru)).1) (cwV 1 hts gX3_moveOne_X1_has rfl rfl rfl (by decide +kernel) ⟨(Nat.le_of_ble_eq_true rfl), (Nat.le_of_ble_eq_true rfl)⟩) hT hI hA hS rfl (hR.2.2.1 _ (Or.inl hru)).1 rfl rfl hl.1 (Nat.le_of_ble_eq_true rfl) dX3_moveOne_2 ⟨(Nat.le_of_ble_eq_true rfl), (Nat.le_of_ble_eq_true rfl)⟩ (fun r w_2 H locs hp_1 hI hS => ?_)
  obtain ⟨rfl, ⟨hi_3, rfl⟩ | ⟨hi_3, rfl⟩⟩ := hp_1
  · have hi_3 : ¬ oI (lnv S (u)) i := has_yes hi_3
    refine W.eq (g2 := F0 m 5 ls [.int 1]) rfl ?_
    refine lv_if_eq (tgt := 16) hx hb dX3_moveOne_5 (by decide) (fun c => absurd c (by decide)) (fun _ => ?_)
    refine lv_aload_n hx hb dX3_moveOne_8 rfl (lv_at hl 2 rfl) ?_
    refine lv_iload_n hx hb dX3_moveOne_9 rfl (lv_at hl 3 rfl) ?_
    refine ca_V (As := [.int j]) (rest := []) (r0 := (RX1, TX1, 4)) (ci := 0) ⟨hx, hb, hml, hown, hts⟩ (cc_X1_has l E A _ j (hR.2.2.1 _ (Or.inl hrv)).1) (cwV 1 hts gX3_moveOne_X1_has rfl rfl rfl (by decide +kernel) ⟨(Nat.le_of_ble_eq_true rfl), (Nat.le_of_ble_eq_true rfl)⟩) hT hI hA hS rfl (hR.2.2.1 _ (Or.inl hrv)).1 rfl rfl hl.1 (Nat.le_of_ble_eq_true rfl) dX3_moveOne_10 ⟨(Nat.le_of_ble_eq_true rfl), (Nat.le_of_ble_eq_true rfl)⟩ (fun r w_5 H locs hp_4 hI hS => ?_)
    obtain ⟨rfl, ⟨hi_6, rfl⟩ | ⟨hi_6, rfl⟩⟩ := hp_4
    · have hi_6 : ¬ oI (lnv S (v)) j := has_yes hi_6
      refine W.eq (g2 := F0 m 13 ls [.int 1]) rfl ?_
      refine lv_if_ne (tgt := 18) hx hb dX3_moveOne_13 (by decide) (fun _ => ?_) (fun c => absurd c (by decide))
      obtain ⟨ij, hij, rfl⟩ := oI_nat (hW.ln (Or.inl hru)) hi_3
      obtain ⟨jj, hjj, rfl⟩ := oI_nat (hW.ln (Or.inl hrv)) hi_6
      refine lv_aload_n hx hb dX3_moveOne_18 rfl (lv_at hl 2 rfl) ?_
      refine lv_aload_n hx hb dX3_moveOne_19 rfl (lv_at hl 0 rfl) ?_
      refine lv_iload_n hx hb dX3_moveOne_20 rfl (lv_at hl 1 rfl) ?_
      refine lv_iconst (v := 1) hx hb dX3_moveOne_21 (by decide) ?_
      refine ca_V (As := [.ref (aR D u), .int (nI ij), .int 1]) (rest := []) (r0 := (RX1, TX1, 4)) (ci := 0) ⟨hx, hb, hml, hown, hts⟩ (cR_count l E A _ ij 1 hW hR hru hrv hm (by omega)) (cwV 3 hts gX3_moveOne_X1_countTaken rfl rfl rfl (by decide +kernel) ⟨(Nat.le_of_ble_eq_true rfl), (Nat.le_of_ble_eq_true rfl)⟩) hT hI hA hS rfl (hR.2.2.1 _ (Or.inl hrv)).1 rfl rfl hl.1 (Nat.le_of_ble_eq_true rfl) dX3_moveOne_22 ⟨(Nat.le_of_ble_eq_true rfl), (Nat.le_of_ble_eq_true rfl)⟩ (fun r w_8 H locs hp_7 hI hS => ?_)
      obtain ⟨rfl, rfl⟩ := hp_7
      have hsp := mvN_spec (S := S) (u := u) (v := v) (i := ij) (n := 1)
      generalize hmv : mvN S (u) (v) ij 1 = mv at hsp ⊢
      refine W.eq (g2 := F0 m 25 ls [.int (nI mv)]) rfl ?_
      refine lv_iconst (v := 1) hx hb dX3_moveOne_25 (by decide) ?_
      refine lv_icmp_ge (tgt := 31) hx hb dX3_moveOne_26 (by decide) (fun c_9 => ?_) (fun c_9 => ?_)
      · have c_9 : 1 ≤ mv := (nI_leI (a := 1) (b := mv) (by omega) (by omega)).mp c_9
        refine lv_aload_n hx hb dX3_moveOne_31 rfl (lv_at hl 2 rfl) ?_
        refine lv_aload_n hx hb dX3_moveOne_32 rfl (lv_at hl 0 rfl) ?_
        refine lv_iload_n hx hb dX3_moveOne_33 rfl (lv_at hl 1 rfl) ?_
        refine lv_iload_n hx hb dX3_moveOne_34 rfl (lv_at hl 3 rfl) ?_
        refine lv_iconst (v := 1) hx hb dX3_moveOne_35 (by decide) ?_
        refine ca_V (As := [.ref (aR D u), .int (nI ij), .int (nI jj), .int 1]) (rest := []) (r0 := (RX1, TX1, 4)) (ci := 0) ⟨hx, hb, hml, hown, hts⟩ (cR_take l E A _ ij jj 1 hW hR hru hrv hm (by omega) (by omega) (fun h9 k9 hk9 => (hsp.2 h9).1 k9 (by omega))) (cwV 4 hts gX3_moveOne_X1_take rfl rfl rfl (by decide +kernel) ⟨(Nat.le_of_ble_eq_true rfl), (Nat.le_of_ble_eq_true rfl)⟩) hT hI hA hS rfl (hR.2.2.1 _ (Or.inl hrv)).1 rfl rfl hl.1 (Nat.le_of_ble_eq_true rfl) dX3_moveOne_36 ⟨(Nat.le_of_ble_eq_true rfl), (Nat.le_of_ble_eq_true rfl)⟩ (fun r w_11 H locs hp_10 hI hS => ?_)
        obtain ⟨rfl, hR⟩ := hp_10
        refine W.eq (g2 := F0 m 39 ls []) rfl ?_
        refine lv_iconst (v := 0) hx hb dX3_moveOne_39 (by decide) ?_
        exact re_i hx hb hr hlocks hT hA hS hI (by
                    refine Or.inr (Or.inr ⟨(fun q => q.elim hi_3 hi_6), ?_, rfl, ?_⟩)
                    · rw [ix_nI (show ij < 2 ^ 31 by omega)]; exact mvN_one.mp (by rw [hmv]; exact c_9)
                    · rw [ix_nI (show ij < 2 ^ 31 by omega), ix_nI (show jj < 2 ^ 31 by omega), ← cpy_one]; exact hR) (Nat.le_of_ble_eq_true rfl) (Nat.le_of_ble_eq_true rfl) dX3_moveOne_40
      · have c_9 : ¬ 1 ≤ mv := fun q => c_9 ((nI_leI (a := 1) (b := mv) (by omega) (by omega)).mpr q)
        refine lv_iconst (v := 2) hx hb dX3_moveOne_29 (by decide) ?_
        exact re_i hx hb hr hlocks hT hA hS hI (Or.inr (Or.inl ⟨(fun q => q.elim hi_3 hi_6), fun q => c_9 (by rw [← hmv]; exact mvN_one.mpr (by rw [ix_nI (by omega)] at q; exact q)), rfl, hR⟩)) (Nat.le_of_ble_eq_true rfl) (Nat.le_of_ble_eq_true rfl) dX3_moveOne_30
    · have hi_6 : oI (lnv S (v)) j := has_no hi_6
      refine W.eq (g2 := F0 m 13 ls [.int 0]) rfl ?_
      refine lv_if_ne (tgt := 18) hx hb dX3_moveOne_13 (by decide) (fun c => absurd c (by decide)) (fun _ => ?_)
      refine lv_iconst (v := 3) hx hb dX3_moveOne_16 (by decide) ?_
      exact re_i hx hb hr hlocks hT hA hS hI (Or.inl ⟨Or.inr hi_6, rfl, hR⟩) (Nat.le_of_ble_eq_true rfl) (Nat.le_of_ble_eq_true rfl) dX3_moveOne_17
  · have hi_3 : oI (lnv S (u)) i := has_no hi_3
    refine W.eq (g2 := F0 m 5 ls [.int 0]) rfl ?_
    refine lv_if_eq (tgt := 16) hx hb dX3_moveOne_5 (by decide) (fun _ => ?_) (fun c => absurd c (by decide))
    refine lv_iconst (v := 3) hx hb dX3_moveOne_16 (by decide) ?_
    exact re_i hx hb hr hlocks hT hA hS hI (Or.inl ⟨Or.inl hi_3, rfl, hR⟩) (Nat.le_of_ble_eq_true rfl) (Nat.le_of_ble_eq_true rfl) dX3_moveOne_17

set_option maxHeartbeats 4000000 in
set_option maxRecDepth 100000 in
theorem cc_X3_loop (l : Launch) (E : En) (A : Nat → Prop) (w : Wd) {S : Sx} {D : Ad} (x i y j n : Int32) (hW : Wf S) (hR : Rp E S D w) (hb9 : sNr S < 512 ∧ sNt S < 512 ∧ sNl S < 512) : Ct l yX3_loop wsX3_loop ({ frames := 4, cells := 0, slots := 0, locals := 89 } : Room) E A w [.ref (aH D), .int x, .int i, .int y, .int j, .int n] (fun r w' => PoC E D (sp_loop S x i y j n) r w') 0 0 := by
  refine Met.ofW (cc := cX3_loop) (maxL := 9) (ret := (some .int)) (by decide) rfl ?_
  intro pp0 ee0 s m args below meth cc0 s₁ B hml hv
  obtain ⟨rfl, hT, hI, hA⟩ := hv
  have hx := B.exec
  have hb := B.bytes
  have hr := B.returns
  have hts := atoms_spec (ws := wsX3_loop) B.pre
  have hown : s.vm.findClass RX3 = some m.cls := findClass_of_methodNamed B.named
  have hlocks := B.notSynchronized
  have in_X3 : ∀ w ∈ wsX30, w ∈ wsX3_loop := by decide +kernel
  have hS : va_S A s.heap s.heap [] := va_S.rf
  have hl := lv_entry ([.ref (aH D), .int x, .int i, .int y, .int j, .int n]) (n := 9) (Nat.le_of_ble_eq_true rfl)
  rw [lg_entry_eq]
  generalize (lg_sl ([.ref (aH D), .int x, .int i, .int y, .int j, .int n]) ++ List.replicate (9 - (lg_sl ([.ref (aH D), .int x, .int i, .int y, .int j, .int n])).length) Slot.unset).toArray = ls at hl ⊢
  have hl : lv_has ls 9 [(0, .ref (aH D)), (1, .int x), (2, .int i), (3, .int y), (4, .int j), (5, .int n)] := hl
  refine lv_iload_n hx hb dX3_loop_0 rfl (lv_at hl 1 rfl) ?_
  refine ca_S (As := [.int x]) (rest := []) ⟨hx, hb, hml, hown, hts⟩ (cc_X3_isOutside l E A _ x) (va_cwS 1 hts gX3_loop_X3_isOutside rfl rfl rfl (by decide +kernel) ⟨(Nat.le_of_ble_eq_true rfl), (Nat.le_of_ble_eq_true rfl)⟩) hT hI hA hS rfl rfl hl.1 (Nat.le_of_ble_eq_true rfl) dX3_loop_1 ⟨(Nat.le_of_ble_eq_true rfl), (Nat.le_of_ble_eq_true rfl)⟩ (fun r w_2 H locs hp_1 hI hS => ?_)
  obtain ⟨rfl, ⟨ho_3, rfl⟩ | ⟨ho_3, rfl⟩⟩ := hp_1
  · refine W.eq (g2 := F0 m 4 ls [.int 1]) rfl ?_
    refine lv_if_ne (tgt := 14) hx hb dX3_loop_4 (by decide) (fun _ => ?_) (fun c => absurd c (by decide))
    refine lv_ldc (v := -2000000001) hx hb hown (hts (.constant RX3 23 (-2000000001)) (by decide +kernel)) dX3_loop_14 ?_
    exact re_i hx hb hr hlocks hT hA hS hI (PoC.of (by
            unfold sp_loop
            rw [if_pos (Or.inl ho_3)]) hR rfl) (Nat.le_of_ble_eq_true rfl) (Nat.le_of_ble_eq_true rfl) dX3_loop_16
  · refine W.eq (g2 := F0 m 4 ls [.int 0]) rfl ?_
    refine lv_if_ne (tgt := 14) hx hb dX3_loop_4 (by decide) (fun c => absurd c (by decide)) (fun _ => ?_)
    refine lv_iload_n hx hb dX3_loop_7 rfl (lv_at hl 3 rfl) ?_
    refine ca_S (As := [.int y]) (rest := []) ⟨hx, hb, hml, hown, hts⟩ (cc_X3_isOutside l E A _ y) (va_cwS 1 hts gX3_loop_X3_isOutside rfl rfl rfl (by decide +kernel) ⟨(Nat.le_of_ble_eq_true rfl), (Nat.le_of_ble_eq_true rfl)⟩) hT hI hA hS rfl rfl hl.1 (Nat.le_of_ble_eq_true rfl) dX3_loop_8 ⟨(Nat.le_of_ble_eq_true rfl), (Nat.le_of_ble_eq_true rfl)⟩ (fun r w_5 H locs hp_4 hI hS => ?_)
    obtain ⟨rfl, ⟨ho_6, rfl⟩ | ⟨ho_6, rfl⟩⟩ := hp_4
    · refine W.eq (g2 := F0 m 11 ls [.int 1]) rfl ?_
      refine lv_if_eq (tgt := 17) hx hb dX3_loop_11 (by decide) (fun c => absurd c (by decide)) (fun _ => ?_)
      refine lv_ldc (v := -2000000001) hx hb hown (hts (.constant RX3 23 (-2000000001)) (by decide +kernel)) dX3_loop_14 ?_
      exact re_i hx hb hr hlocks hT hA hS hI (PoC.of (by
                unfold sp_loop
                rw [if_pos (Or.inr (ho_6))]) hR rfl) (Nat.le_of_ble_eq_true rfl) (Nat.le_of_ble_eq_true rfl) dX3_loop_16
    · refine W.eq (g2 := F0 m 11 ls [.int 0]) rfl ?_
      refine lv_if_eq (tgt := 17) hx hb dX3_loop_11 (by decide) (fun _ => ?_) (fun c => absurd c (by decide))
      obtain ⟨xj, hxj, rfl⟩ := isP_nat ho_3
      obtain ⟨yj, hyj, rfl⟩ := isP_nat ho_6
      refine lv_aload_n hx hb dX3_loop_17 rfl (lv_at hl 0 rfl) ?_
      refine wr_get (ci := 2) (C := RX3) (T := TX3) (N := 2) (v := .ref (aP D)) hx hb hts in_X3 hown hT hI hR.1 rfl 0 (by decide) (hts (.fieldLink RX3 11 "CopyRows" "places" "[LCopyRows$Row;") (by decide +kernel)) rfl dX3_loop_18 ?_
      refine lv_iload_n hx hb dX3_loop_21 rfl (lv_at hl 1 rfl) ?_
      refine wr_aaldN (t := xj) hx hb hT hI hR.2.1 2 rfl (by omega) (by omega) dX3_loop_22 ?_
      rcases hW.pl D xj with ⟨ez7, ep7⟩ | ⟨ez7, hv7, ep7⟩
      · refine W.eq (g2 := F0 m 23 ls [.null]) (by rw [ep7]; rfl) ?_
        refine lv_astoreN (lv' := [(6, .null), (0, .ref (aH D)), (1, .int (nI xj)), (2, .int i), (3, .int (nI yj)), (4, .int j), (5, .int n)]) hx hb dX3_loop_23 hl (by decide) rfl (fun ls hl => ?_)
        refine lv_aload_n hx hb dX3_loop_25 rfl (lv_at hl 1 rfl) ?_
        refine wr_get (ci := 2) (C := RX3) (T := TX3) (N := 2) (v := .ref (aP D)) hx hb hts in_X3 hown hT hI hR.1 rfl 0 (by decide) (hts (.fieldLink RX3 11 "CopyRows" "places" "[LCopyRows$Row;") (by decide +kernel)) rfl dX3_loop_26 ?_
        refine lv_iload_n hx hb dX3_loop_29 rfl (lv_at hl 4 rfl) ?_
        refine wr_aaldN (t := yj) hx hb hT hI hR.2.1 2 rfl (by omega) (by omega) dX3_loop_30 ?_
        rcases hW.pl D yj with ⟨ez8, ep8⟩ | ⟨ez8, hv8, ep8⟩
        · refine W.eq (g2 := F0 m 31 ls [.null]) (by rw [ep8]; rfl) ?_
          refine lv_astoreN (lv' := [(7, .null), (6, .null), (0, .ref (aH D)), (1, .int (nI xj)), (2, .int i), (3, .int (nI yj)), (4, .int j), (5, .int n)]) hx hb dX3_loop_31 hl (by decide) rfl (fun ls hl => ?_)
          refine lv_aloadN hx hb dX3_loop_33 (lv_at hl 1 rfl) ?_
          refine lv_ifnullN (tgt := 43) hx hb dX3_loop_35 (by decide) ?_
          refine lv_aload_n hx hb dX3_loop_43 rfl (lv_at hl 2 rfl) ?_
          refine lv_iconst (v := 1) hx hb dX3_loop_44 (by decide) ?_
          refine ca_V (As := [.int 1]) (rest := []) (r0 := (RX3, TX3, 2)) (ci := 2) ⟨hx, hb, hml, hown, hts⟩ (cc_X3_fail l E A _ 1 hR) (cwV 1 hts gX3_loop_X3_fail rfl rfl rfl (by decide +kernel) ⟨(Nat.le_of_ble_eq_true rfl), (Nat.le_of_ble_eq_true rfl)⟩) hT hI hA hS rfl hR.1 rfl rfl hl.1 (Nat.le_of_ble_eq_true rfl) dX3_loop_45 ⟨(Nat.le_of_ble_eq_true rfl), (Nat.le_of_ble_eq_true rfl)⟩ (fun r w_10 H locs hp_9 hI hS => ?_)
          obtain ⟨rfl, hR⟩ := hp_9
          refine W.eq (g2 := F0 m 48 ls [.int 0]) rfl ?_
          exact re_i hx hb hr hlocks hT hA hS hI (PoC.of (by
                        unfold sp_loop
                        try simp only [pv_nI hxj, pv_nI hyj]
                        rw [if_neg ((fun q => q.elim ho_3 ho_6)), if_pos (Or.inl ez7)]) hR rfl) (Nat.le_of_ble_eq_true rfl) (Nat.le_of_ble_eq_true rfl) dX3_loop_48
        · refine W.eq (g2 := F0 m 31 ls [.ref (aR D (sPl S yj))]) (by rw [ep8]; rfl) ?_
          refine lv_astore (lv' := [(7, .ref (aR D (sPl S yj))), (6, .null), (0, .ref (aH D)), (1, .int (nI xj)), (2, .int i), (3, .int (nI yj)), (4, .int j), (5, .int n)]) hx hb dX3_loop_31 hl (by decide) rfl (fun ls hl => ?_)
          refine lv_aloadN hx hb dX3_loop_33 (lv_at hl 1 rfl) ?_
          refine lv_ifnullN (tgt := 43) hx hb dX3_loop_35 (by decide) ?_
          refine lv_aload_n hx hb dX3_loop_43 rfl (lv_at hl 2 rfl) ?_
          refine lv_iconst (v := 1) hx hb dX3_loop_44 (by decide) ?_
          refine ca_V (As := [.int 1]) (rest := []) (r0 := (RX3, TX3, 2)) (ci := 2) ⟨hx, hb, hml, hown, hts⟩ (cc_X3_fail l E A _ 1 hR) (cwV 1 hts gX3_loop_X3_fail rfl rfl rfl (by decide +kernel) ⟨(Nat.le_of_ble_eq_true rfl), (Nat.le_of_ble_eq_true rfl)⟩) hT hI hA hS rfl hR.1 rfl rfl hl.1 (Nat.le_of_ble_eq_true rfl) dX3_loop_45 ⟨(Nat.le_of_ble_eq_true rfl), (Nat.le_of_ble_eq_true rfl)⟩ (fun r w_12 H locs hp_11 hI hS => ?_)
          obtain ⟨rfl, hR⟩ := hp_11
          refine W.eq (g2 := F0 m 48 ls [.int 0]) rfl ?_
          exact re_i hx hb hr hlocks hT hA hS hI (PoC.of (by
                        unfold sp_loop
                        try simp only [pv_nI hxj, pv_nI hyj]
                        rw [if_neg ((fun q => q.elim ho_3 ho_6)), if_pos (Or.inl ez7)]) hR rfl) (Nat.le_of_ble_eq_true rfl) (Nat.le_of_ble_eq_true rfl) dX3_loop_48
      · refine W.eq (g2 := F0 m 23 ls [.ref (aR D (sPl S xj))]) (by rw [ep7]; rfl) ?_
        refine lv_astore (lv' := [(6, .ref (aR D (sPl S xj))), (0, .ref (aH D)), (1, .int (nI xj)), (2, .int i), (3, .int (nI yj)), (4, .int j), (5, .int n)]) hx hb dX3_loop_23 hl (by decide) rfl (fun ls hl => ?_)
        refine lv_aload_n hx hb dX3_loop_25 rfl (lv_at hl 1 rfl) ?_
        refine wr_get (ci := 2) (C := RX3) (T := TX3) (N := 2) (v := .ref (aP D)) hx hb hts in_X3 hown hT hI hR.1 rfl 0 (by decide) (hts (.fieldLink RX3 11 "CopyRows" "places" "[LCopyRows$Row;") (by decide +kernel)) rfl dX3_loop_26 ?_
        refine lv_iload_n hx hb dX3_loop_29 rfl (lv_at hl 4 rfl) ?_
        refine wr_aaldN (t := yj) hx hb hT hI hR.2.1 2 rfl (by omega) (by omega) dX3_loop_30 ?_
        rcases hW.pl D yj with ⟨ez13, ep13⟩ | ⟨ez13, hv13, ep13⟩
        · refine W.eq (g2 := F0 m 31 ls [.null]) (by rw [ep13]; rfl) ?_
          refine lv_astoreN (lv' := [(7, .null), (6, .ref (aR D (sPl S xj))), (0, .ref (aH D)), (1, .int (nI xj)), (2, .int i), (3, .int (nI yj)), (4, .int j), (5, .int n)]) hx hb dX3_loop_31 hl (by decide) rfl (fun ls hl => ?_)
          refine lv_aload hx hb dX3_loop_33 (lv_at hl 1 rfl) ?_
          refine lv_ifnull hx hb dX3_loop_35 ?_
          refine lv_aloadN hx hb dX3_loop_38 (lv_at hl 0 rfl) ?_
          refine lv_ifnonnullN hx hb dX3_loop_40 ?_
          refine lv_aload_n hx hb dX3_loop_43 rfl (lv_at hl 2 rfl) ?_
          refine lv_iconst (v := 1) hx hb dX3_loop_44 (by decide) ?_
          refine ca_V (As := [.int 1]) (rest := []) (r0 := (RX3, TX3, 2)) (ci := 2) ⟨hx, hb, hml, hown, hts⟩ (cc_X3_fail l E A _ 1 hR) (cwV 1 hts gX3_loop_X3_fail rfl rfl rfl (by decide +kernel) ⟨(Nat.le_of_ble_eq_true rfl), (Nat.le_of_ble_eq_true rfl)⟩) hT hI hA hS rfl hR.1 rfl rfl hl.1 (Nat.le_of_ble_eq_true rfl) dX3_loop_45 ⟨(Nat.le_of_ble_eq_true rfl), (Nat.le_of_ble_eq_true rfl)⟩ (fun r w_15 H locs hp_14 hI hS => ?_)
          obtain ⟨rfl, hR⟩ := hp_14
          refine W.eq (g2 := F0 m 48 ls [.int 0]) rfl ?_
          exact re_i hx hb hr hlocks hT hA hS hI (PoC.of (by
                        unfold sp_loop
                        try simp only [pv_nI hxj, pv_nI hyj]
                        rw [if_neg ((fun q => q.elim ho_3 ho_6)), if_pos (Or.inr (ez13))]) hR rfl) (Nat.le_of_ble_eq_true rfl) (Nat.le_of_ble_eq_true rfl) dX3_loop_48
        · refine W.eq (g2 := F0 m 31 ls [.ref (aR D (sPl S yj))]) (by rw [ep13]; rfl) ?_
          refine lv_astore (lv' := [(7, .ref (aR D (sPl S yj))), (6, .ref (aR D (sPl S xj))), (0, .ref (aH D)), (1, .int (nI xj)), (2, .int i), (3, .int (nI yj)), (4, .int j), (5, .int n)]) hx hb dX3_loop_31 hl (by decide) rfl (fun ls hl => ?_)
          refine lv_aload hx hb dX3_loop_33 (lv_at hl 1 rfl) ?_
          refine lv_ifnull hx hb dX3_loop_35 ?_
          refine lv_aload hx hb dX3_loop_38 (lv_at hl 0 rfl) ?_
          refine lv_ifnonnull (tgt := 49) hx hb dX3_loop_40 (by decide) ?_
          refine lv_aload hx hb dX3_loop_49 (lv_at hl 0 rfl) ?_
          refine lv_aload hx hb dX3_loop_51 (lv_at hl 1 rfl) ?_
          refine ca_V (As := [.ref (aR D (sPl S xj))]) (rest := []) (r0 := (RX1, TX1, 4)) (ci := 0) ⟨hx, hb, hml, hown, hts⟩ (cc_X1_mayTakeOf l E A _ (hR.2.2.1 _ hv13).1 (hR.2.2.1 _ hv7).1) (cwV 1 hts gX3_loop_X1_mayTakeOf rfl rfl rfl (by decide +kernel) ⟨(Nat.le_of_ble_eq_true rfl), (Nat.le_of_ble_eq_true rfl)⟩) hT hI hA hS rfl (hR.2.2.1 _ hv13).1 rfl rfl hl.1 (Nat.le_of_ble_eq_true rfl) dX3_loop_53 ⟨(Nat.le_of_ble_eq_true rfl), (Nat.le_of_ble_eq_true rfl)⟩ (fun r w_17 H locs hp_16 hI hS => ?_)
          obtain ⟨rfl, ⟨hm_18, rfl⟩ | ⟨hm_18, rfl⟩⟩ := hp_16
          · have hm_18 : mayT (kdv S (sPl S yj)) (kdv S (sPl S xj)) := hm_18
            have hru : vR S (sPl S xj) := vO_row hv7 (fun e9 => hm_18.1 (Or.inr e9))
            have hrv : vR S (sPl S yj) := vO_row hv13 (fun e9 => hm_18.1 (Or.inl e9))
            have hlu := hW.ln (Or.inl hru)
            have hlv := hW.ln (Or.inl hrv)
            refine W.eq (g2 := F0 m 56 ls [.int 1]) rfl ?_
            refine lv_if_ne (tgt := 65) hx hb dX3_loop_56 (by decide) (fun _ => ?_) (fun c => absurd c (by decide))
            by_cases hn0 : n < 0
            · refine lv_aload_n hx hb dX3_loop_65 rfl (lv_at hl 2 rfl) ?_
              refine lv_iconst (v := 0) hx hb dX3_loop_66 (by decide) ?_
              refine wr_put (ci := 2) (C := RX3) (T := TX3) (N := 2) (v := .int 0) (ty := .int) hx hb hts in_X3 tyX3 tyX3_ok nmX3 hown hT hI hS hR.1 rfl 1 (by decide) (hts (.fieldLink RX3 15 "CopyRows" "code" "I") (by decide +kernel)) rfl (by decide +kernel) rfl rfl (Nat.le_of_ble_eq_true rfl) dX3_loop_67 (fun H locs hI hS => ?_)
              have hR := hR.cod (0)
              refine lv_iconst (v := 0) hx hb dX3_loop_70 (by decide) ?_
              refine lv_istore (lv' := [(8, .int 0), (7, .ref (aR D (sPl S yj))), (6, .ref (aR D (sPl S xj))), (0, .ref (aH D)), (1, .int (nI xj)), (2, .int i), (3, .int (nI yj)), (4, .int j), (5, .int n)]) hx hb dX3_loop_71 hl (by decide) rfl (fun ls hl => ?_)
              refine lv_iload hx hb dX3_loop_73 (lv_at hl 0 rfl) ?_
              refine lv_iload hx hb dX3_loop_75 (lv_at hl 8 rfl) ?_
              refine lv_icmp_ge (tgt := 116) hx hb dX3_loop_77 (by decide) (fun c_20 => ?_) (fun c_20 => ?_)
              · refine lv_iload hx hb dX3_loop_116 (lv_at hl 8 rfl) ?_
                refine lv_iconst (v := 0) hx hb dX3_loop_118 (by decide) ?_
                refine va_mmax hx hb (hml.trans hl.1.symm) hown (hts (.methodLink RX3 100 Lib.Math.max.name) (by decide +kernel)) (hts (.static Lib.Math.max.name) (by decide +kernel)) (hts (.initialized "java/lang/Math") (by decide +kernel)) (hts (.code Lib.Math.max.name Lib.Math.max.code 2 (some .int)) (by decide +kernel)) (Nat.le_of_ble_eq_true rfl) (Nat.le_of_ble_eq_true rfl) (Nat.le_of_ble_eq_true rfl) (Nat.le_of_ble_eq_true rfl) dX3_loop_119 ?_
                refine W.eq (g2 := F0 m 122 ls [.int 0]) (by rw [if_pos hn0]) ?_
                exact re_i hx hb hr hlocks hT hA hS hI (PoC.of (by
                                    unfold sp_loop
                                    try simp only [pv_nI hxj, pv_nI hyj]
                                    rw [if_neg ((fun q => q.elim ho_3 ho_6)), if_neg ((fun q => q.elim ez7 ez13)), if_neg (not_not_intro hm_18)]
                                    rw [show ix n = 0 from Int32.toNatClampNeg_eq_zero_iff.mpr (Int32.le_of_lt hn0)]
                                    rfl) hR rfl) (Nat.le_of_ble_eq_true rfl) (Nat.le_of_ble_eq_true rfl) dX3_loop_122
              · exact absurd (Int32.le_of_lt hn0) c_20
            · obtain ⟨nn, hnn, rfl⟩ := nI_of hn0
              refine lv_aload_n hx hb dX3_loop_65 rfl (lv_at hl 2 rfl) ?_
              refine lv_iconst (v := 0) hx hb dX3_loop_66 (by decide) ?_
              refine wr_put (ci := 2) (C := RX3) (T := TX3) (N := 2) (v := .int 0) (ty := .int) hx hb hts in_X3 tyX3 tyX3_ok nmX3 hown hT hI hS hR.1 rfl 1 (by decide) (hts (.fieldLink RX3 15 "CopyRows" "code" "I") (by decide +kernel)) rfl (by decide +kernel) rfl rfl (Nat.le_of_ble_eq_true rfl) dX3_loop_67 (fun H locs hI hS => ?_)
              have hR := hR.cod (0)
              refine lv_iconst (v := 0) hx hb dX3_loop_70 (by decide) ?_
              refine lv_istore (lv' := [(8, .int 0), (7, .ref (aR D (sPl S yj))), (6, .ref (aR D (sPl S xj))), (0, .ref (aH D)), (1, .int (nI xj)), (2, .int i), (3, .int (nI yj)), (4, .int j), (5, .int (nI nn))]) hx hb dX3_loop_71 hl (by decide) rfl (fun ls hl => ?_)
              refine lp_w (ι := Nat × Sx) (fun q9 => nn - q9.1) (fun q9 H locs ls => (q9.1 ≤ nn ∧ Wf q9.2 ∧ (vR q9.2 (sPl S xj) ∧ vR q9.2 (sPl S yj) ∧ mayT (kdv q9.2 (sPl S yj)) (kdv q9.2 (sPl S xj))) ∧ lpS (sPl S xj) (sPl S yj) i j nn 0 S = lpS (sPl S xj) (sPl S yj) i j (nn - q9.1) q9.1 q9.2) ∧ (∃ w9, Hv E A w9 H ∧ Rp E (uCod q9.2 0) D w9) ∧ va_S A s.heap H locs ∧ lv_has ls 9 [(0, .ref (aH D)), (2, .int i), (4, .int j), (5, .int (nI nn)), (6, .ref (aR D (sPl S xj))), (7, .ref (aR D (sPl S yj))), (8, .int (nI q9.1))]) ?_ (0, S) _ _ _ ⟨⟨Nat.zero_le _, hW, ⟨hru, hrv, hm_18⟩, rfl⟩, ⟨_, hI, hR⟩, hS, lv_sub hl [3, 5, 7, 8, 2, 1, 0] rfl⟩
              rintro ⟨t, T9⟩ H locs ls ⟨⟨ht, hW9, ⟨hru, hrv, hm⟩, hlp⟩, ⟨w9, hI, hR⟩, hS, hl⟩ ih
              dsimp only at ht hW9 hru hrv hm hlp hR hl
              refine lv_iload hx hb dX3_loop_73 (lv_at hl 6 rfl) ?_
              refine lv_iload hx hb dX3_loop_75 (lv_at hl 3 rfl) ?_
              refine lv_icmp_ge (tgt := 116) hx hb dX3_loop_77 (by decide) (fun c_22 => ?_) (fun c_22 => ?_)
              · have c_22 : nn ≤ t := (nI_leI (a := nn) (b := t) (by omega) (by omega)).mp c_22
                refine lv_iload hx hb dX3_loop_116 (lv_at hl 3 rfl) ?_
                refine lv_iconst (v := 0) hx hb dX3_loop_118 (by decide) ?_
                refine va_mmax hx hb (hml.trans hl.1.symm) hown (hts (.methodLink RX3 100 Lib.Math.max.name) (by decide +kernel)) (hts (.static Lib.Math.max.name) (by decide +kernel)) (hts (.initialized "java/lang/Math") (by decide +kernel)) (hts (.code Lib.Math.max.name Lib.Math.max.code 2 (some .int)) (by decide +kernel)) (Nat.le_of_ble_eq_true rfl) (Nat.le_of_ble_eq_true rfl) (Nat.le_of_ble_eq_true rfl) (Nat.le_of_ble_eq_true rfl) dX3_loop_119 ?_
                refine W.eq (g2 := F0 m 122 ls [.int (nI nn)]) (by rw [if_neg hn0]) ?_
                exact re_i hx hb hr hlocks hT hA hS hI (PoC.of (by
                                    unfold sp_loop
                                    try simp only [pv_nI hxj, pv_nI hyj]
                                    rw [if_neg ((fun q => q.elim ho_3 ho_6)), if_neg ((fun q => q.elim ez7 ez13)), if_neg (not_not_intro hm_18)]
                                    rw [ix_nI hnn, hlp, show nn - t = 0 by omega]
                                    rw [show t = nn by omega]
                                    rfl) hR rfl) (Nat.le_of_ble_eq_true rfl) (Nat.le_of_ble_eq_true rfl) dX3_loop_122
              · have c_22 : ¬ nn ≤ t := fun q => c_22 ((nI_leI (a := nn) (b := t) (by omega) (by omega)).mpr q)
                refine lv_aload_n hx hb dX3_loop_80 rfl (lv_at hl 0 rfl) ?_
                refine lv_aload hx hb dX3_loop_81 (lv_at hl 4 rfl) ?_
                refine lv_iload_n hx hb dX3_loop_83 rfl (lv_at hl 1 rfl) ?_
                refine lv_iload hx hb dX3_loop_84 (lv_at hl 6 rfl) ?_
                refine lv_iadd hx hb dX3_loop_86 ?_
                refine lv_aload hx hb dX3_loop_87 (lv_at hl 5 rfl) ?_
                refine lv_iload hx hb dX3_loop_89 (lv_at hl 2 rfl) ?_
                refine lv_iload hx hb dX3_loop_91 (lv_at hl 6 rfl) ?_
                refine lv_iadd hx hb dX3_loop_93 ?_
                refine ca_S (As := [.ref (aR D (sPl S xj)), .int (i + (nI t)), .ref (aR D (sPl S yj)), .int (j + (nI t))]) (rest := [.ref (aH D)]) ⟨hx, hb, hml, hown, hts⟩ (cc_X3_moveOne l E A _ (S := uCod T9 0) (i + nI t) (j + nI t) hW9 hR hru hrv hm) (va_cwS 4 hts gX3_loop_X3_moveOne rfl rfl rfl (by decide +kernel) ⟨(Nat.le_of_ble_eq_true rfl), (Nat.le_of_ble_eq_true rfl)⟩) hT hI hA hS rfl rfl hl.1 (Nat.le_of_ble_eq_true rfl) dX3_loop_94 ⟨(Nat.le_of_ble_eq_true rfl), (Nat.le_of_ble_eq_true rfl)⟩ (fun r w_24 H locs hp_23 hI hS => ?_)
                rcases hp_23 with ⟨hin, rfl, hR⟩ | ⟨hin, hok, rfl, hR⟩ | ⟨hin, hok, rfl, hR⟩
                · have hin : oI (lnv T9 (sPl S xj)) (i + nI t) ∨ oI (lnv T9 (sPl S yj)) (j + nI t) := hin
                  refine W.eq (g2 := F0 m 97 ls [.int 3, .ref (aH D)]) rfl ?_
                  refine wr_put (ci := 2) (C := RX3) (T := TX3) (N := 2) (v := .int 3) (ty := .int) hx hb hts in_X3 tyX3 tyX3_ok nmX3 hown hT hI hS hR.1 rfl 1 (by decide) (hts (.fieldLink RX3 15 "CopyRows" "code" "I") (by decide +kernel)) rfl (by decide +kernel) rfl rfl (Nat.le_of_ble_eq_true rfl) dX3_loop_97 (fun H locs hI hS => ?_)
                  have hR := hR.cod (3)
                  refine lv_aload_n hx hb dX3_loop_100 rfl (lv_at hl 0 rfl) ?_
                  refine wr_get (ci := 2) (C := RX3) (T := TX3) (N := 2) (v := .int 3) hx hb hts in_X3 hown hT hI hR.1 rfl 1 (by decide) (hts (.fieldLink RX3 15 "CopyRows" "code" "I") (by decide +kernel)) rfl dX3_loop_101 ?_
                  refine lv_if_eq (tgt := 110) hx hb dX3_loop_104 (by decide) (fun c => absurd c (by decide)) (fun _ => ?_)
                  refine lv_iload hx hb dX3_loop_107 (lv_at hl 6 rfl) ?_
                  exact re_i hx hb hr hlocks hT hA hS hI (PoC.of (by
                                        unfold sp_loop
                                        try simp only [pv_nI hxj, pv_nI hyj]
                                        rw [if_neg ((fun q => q.elim ho_3 ho_6)), if_neg ((fun q => q.elim ez7 ez13)), if_neg (not_not_intro hm_18)]
                                        rw [ix_nI hnn, hlp]
                                        obtain ⟨d9, hd9⟩ : ∃ d9, nn - t = d9 + 1 := ⟨nn - t - 1, by omega⟩
                                        rw [hd9]
                                        simp only [lpS]
                                        rw [if_pos hin]) hR rfl) (Nat.le_of_ble_eq_true rfl) (Nat.le_of_ble_eq_true rfl) dX3_loop_109
                · have hin : ¬ (oI (lnv T9 (sPl S xj)) (i + nI t) ∨ oI (lnv T9 (sPl S yj)) (j + nI t)) := hin
                  have hok : ¬ (isN (kdv T9 (sPl S yj)) ∨ fitS T9 (kdv T9 (sPl S xj)) (itv T9 (sPl S xj) (ix (i + nI t))) (kdv T9 (sPl S yj))) := hok
                  refine W.eq (g2 := F0 m 97 ls [.int 2, .ref (aH D)]) rfl ?_
                  refine wr_put (ci := 2) (C := RX3) (T := TX3) (N := 2) (v := .int 2) (ty := .int) hx hb hts in_X3 tyX3 tyX3_ok nmX3 hown hT hI hS hR.1 rfl 1 (by decide) (hts (.fieldLink RX3 15 "CopyRows" "code" "I") (by decide +kernel)) rfl (by decide +kernel) rfl rfl (Nat.le_of_ble_eq_true rfl) dX3_loop_97 (fun H locs hI hS => ?_)
                  have hR := hR.cod (2)
                  refine lv_aload_n hx hb dX3_loop_100 rfl (lv_at hl 0 rfl) ?_
                  refine wr_get (ci := 2) (C := RX3) (T := TX3) (N := 2) (v := .int 2) hx hb hts in_X3 hown hT hI hR.1 rfl 1 (by decide) (hts (.fieldLink RX3 15 "CopyRows" "code" "I") (by decide +kernel)) rfl dX3_loop_101 ?_
                  refine lv_if_eq (tgt := 110) hx hb dX3_loop_104 (by decide) (fun c => absurd c (by decide)) (fun _ => ?_)
                  refine lv_iload hx hb dX3_loop_107 (lv_at hl 6 rfl) ?_
                  exact re_i hx hb hr hlocks hT hA hS hI (PoC.of (by
                                        unfold sp_loop
                                        try simp only [pv_nI hxj, pv_nI hyj]
                                        rw [if_neg ((fun q => q.elim ho_3 ho_6)), if_neg ((fun q => q.elim ez7 ez13)), if_neg (not_not_intro hm_18)]
                                        rw [ix_nI hnn, hlp]
                                        obtain ⟨d9, hd9⟩ : ∃ d9, nn - t = d9 + 1 := ⟨nn - t - 1, by omega⟩
                                        rw [hd9]
                                        simp only [lpS]
                                        rw [if_neg hin, if_pos hok]) hR rfl) (Nat.le_of_ble_eq_true rfl) (Nat.le_of_ble_eq_true rfl) dX3_loop_109
                · have hin : ¬ (oI (lnv T9 (sPl S xj)) (i + nI t) ∨ oI (lnv T9 (sPl S yj)) (j + nI t)) := hin
                  have hok : isN (kdv T9 (sPl S yj)) ∨ fitS T9 (kdv T9 (sPl S xj)) (itv T9 (sPl S xj) (ix (i + nI t))) (kdv T9 (sPl S yj)) := hok
                  refine W.eq (g2 := F0 m 97 ls [.int 0, .ref (aH D)]) rfl ?_
                  refine wr_put (ci := 2) (C := RX3) (T := TX3) (N := 2) (v := .int 0) (ty := .int) hx hb hts in_X3 tyX3 tyX3_ok nmX3 hown hT hI hS hR.1 rfl 1 (by decide) (hts (.fieldLink RX3 15 "CopyRows" "code" "I") (by decide +kernel)) rfl (by decide +kernel) rfl rfl (Nat.le_of_ble_eq_true rfl) dX3_loop_97 (fun H locs hI hS => ?_)
                  have hR := hR.cod (0)
                  refine lv_aload_n hx hb dX3_loop_100 rfl (lv_at hl 0 rfl) ?_
                  refine wr_get (ci := 2) (C := RX3) (T := TX3) (N := 2) (v := .int 0) hx hb hts in_X3 hown hT hI hR.1 rfl 1 (by decide) (hts (.fieldLink RX3 15 "CopyRows" "code" "I") (by decide +kernel)) rfl dX3_loop_101 ?_
                  refine lv_if_eq (tgt := 110) hx hb dX3_loop_104 (by decide) (fun _ => ?_) (fun c => absurd c (by decide))
                  refine lv_iinc (v := nI (t + 1)) (lv' := [(8, .int (nI (t + 1))), (0, .ref (aH D)), (2, .int i), (4, .int j), (5, .int (nI nn)), (6, .ref (aR D (sPl S xj))), (7, .ref (aR D (sPl S yj)))]) hx hb dX3_loop_110 hl (k := 6) rfl (nI_1 _) (by decide) rfl (fun ls hl => ?_)
                  refine lv_goto (tgt := 73) hx hb dX3_loop_113 (by decide) ?_
                  refine ih (t + 1, uRow T9 (ix (sPl S yj)) (upd (itv T9 (sPl S yj)) (ix (j + nI t)) (itv T9 (sPl S xj) (ix (i + nI t))))) _ _ _ ⟨⟨by show t + 1 ≤ nn; omega, ?_, ⟨hru, hrv, hm⟩, ?_⟩, ⟨_, hI, hR⟩, hS, lv_sub hl [1, 2, 3, 4, 5, 6, 0] rfl⟩ (by show nn - (t + 1) < nn - t; omega)
                  · refine hW9.got hru hrv hm (fun k9 => ?_)
                    by_cases hk9 : k9 = ix (j + nI t)
                    · exact Or.inr ⟨ix (i + nI t), by simp [upd, hk9], fun h9 => hok.resolve_left h9⟩
                    · exact Or.inl (by simp [upd, hk9])
                  · show lpS _ _ i j nn 0 S = lpS _ _ i j (nn - (t + 1)) (t + 1) _
                    rw [hlp]
                    obtain ⟨d9, hd9⟩ : ∃ d9, nn - t = d9 + 1 := ⟨nn - t - 1, by omega⟩
                    rw [hd9, show nn - (t + 1) = d9 by omega]
                    simp only [lpS]
                    rw [if_neg hin, if_neg (not_not_intro hok)]
          · have hm_18 : ¬ mayT (kdv S (sPl S yj)) (kdv S (sPl S xj)) := hm_18
            refine W.eq (g2 := F0 m 56 ls [.int 0]) rfl ?_
            refine lv_if_ne (tgt := 65) hx hb dX3_loop_56 (by decide) (fun c => absurd c (by decide)) (fun _ => ?_)
            refine lv_aload_n hx hb dX3_loop_59 rfl (lv_at hl 2 rfl) ?_
            refine lv_iconst (v := 2) hx hb dX3_loop_60 (by decide) ?_
            refine ca_V (As := [.int 2]) (rest := []) (r0 := (RX3, TX3, 2)) (ci := 2) ⟨hx, hb, hml, hown, hts⟩ (cc_X3_fail l E A _ 2 hR) (cwV 1 hts gX3_loop_X3_fail rfl rfl rfl (by decide +kernel) ⟨(Nat.le_of_ble_eq_true rfl), (Nat.le_of_ble_eq_true rfl)⟩) hT hI hA hS rfl hR.1 rfl rfl hl.1 (Nat.le_of_ble_eq_true rfl) dX3_loop_61 ⟨(Nat.le_of_ble_eq_true rfl), (Nat.le_of_ble_eq_true rfl)⟩ (fun r w_29 H locs hp_28 hI hS => ?_)
            obtain ⟨rfl, hR⟩ := hp_28
            refine W.eq (g2 := F0 m 64 ls [.int 0]) rfl ?_
            exact re_i hx hb hr hlocks hT hA hS hI (PoC.of (by
                            unfold sp_loop
                            try simp only [pv_nI hxj, pv_nI hyj]
                            rw [if_neg ((fun q => q.elim ho_3 ho_6)), if_neg ((fun q => q.elim ez7 ez13)), if_pos (hm_18)]) hR rfl) (Nat.le_of_ble_eq_true rfl) (Nat.le_of_ble_eq_true rfl) dX3_loop_64
end
section
theorem join_fi {S : Sx} (hW : Wf S) {u v : Int32} (hu : vR S u) (hv : vR S v) {n : Nat} (hf : ¬ isN (kdv S v) → ∀ k, k < n → fitS S (kdv S u) (itv S u (0 + k)) (kdv S v)) (m : Nat) : kdv S v = 2 → ∀ k, va_cpy (itv S u) (va_cpy (itv S v) (ini (kdv S v)) 0 0 m) 0 m n k = -1 ∨ vR S (va_cpy (itv S u) (va_cpy (itv S v) (ini (kdv S v)) 0 0 m) 0 m n k) := by
  intro e k
  have hn : ¬ isN (kdv S v) := fun q => (isN_lt q).2 e
  unfold va_cpy
  by_cases h : m ≤ k ∧ k < m + n
  · rw [if_pos h]
    rcases hf hn (k - m) (by omega) with q | ⟨q, -⟩ | ⟨-, q⟩
    · exact Or.inl q
    · rcases (hW.row hu).2.2.1 q (0 + (k - m)) with q | q
      · exact Or.inl q
      · exact Or.inr q.1
    · rw [e] at q
      rcases q with q | ⟨q, -⟩ | ⟨q, -⟩ <;> exact absurd q (by decide)
  · rw [if_neg h]
    by_cases h2 : 0 ≤ k ∧ k < 0 + m
    · rw [if_pos h2]
      rcases (hW.row hv).2.2.1 e (0 + (k - 0)) with q | q
      · exact Or.inl q
      · exact Or.inr q.1
    · rw [if_neg h2, ini_p hn]; exact Or.inl rfl
set_option maxHeartbeats 4000000 in
set_option maxRecDepth 100000 in
theorem cc_X3_copy (l : Launch) (E : En) (A : Nat → Prop) (w : Wd) {S : Sx} {D : Ad} (p o : Int32) (hW : Wf S) (hR : Rp E S D w) (hb9 : sNr S < 512 ∧ sNt S < 512 ∧ sNl S < 512) : Ct l yX3_copy wsX3_copy ({ frames := 4, cells := 3, slots := 44, locals := 86 } : Room) E A w [.ref (aH D), .int p, .int o] (fun r w' => PoC E D (sp_copy S p o) r w') 3 44 := by
  refine Met.ofW (cc := cX3_copy) (maxL := 4) (ret := (some .int)) (by decide) rfl ?_
  intro pp0 ee0 s m args below meth cc0 s₁ B hml hv
  obtain ⟨rfl, hT, hI, hA⟩ := hv
  have hx := B.exec
  have hb := B.bytes
  have hr := B.returns
  have hts := atoms_spec (ws := wsX3_copy) B.pre
  have hown : s.vm.findClass RX3 = some m.cls := findClass_of_methodNamed B.named
  have hlocks := B.notSynchronized
  have in_X1 : ∀ w ∈ wsX10, w ∈ wsX3_copy := by decide +kernel
  have hS : va_S A s.heap s.heap [] := va_S.rf
  have hl := lv_entry ([.ref (aH D), .int p, .int o]) (n := 4) (Nat.le_of_ble_eq_true rfl)
  rw [lg_entry_eq]
  generalize (lg_sl ([.ref (aH D), .int p, .int o]) ++ List.replicate (4 - (lg_sl ([.ref (aH D), .int p, .int o])).length) Slot.unset).toArray = ls at hl ⊢
  have hl : lv_has ls 4 [(0, .ref (aH D)), (1, .int p), (2, .int o)] := hl
  refine lv_iload_n hx hb dX3_copy_0 rfl (lv_at hl 1 rfl) ?_
  refine ca_S (As := [.int p]) (rest := []) ⟨hx, hb, hml, hown, hts⟩ (cc_X3_isOutside l E A _ p) (va_cwS 1 hts gX3_copy_X3_isOutside rfl rfl rfl (by decide +kernel) ⟨(Nat.le_of_ble_eq_true rfl), (Nat.le_of_ble_eq_true rfl)⟩) hT hI hA hS rfl rfl hl.1 (Nat.le_of_ble_eq_true rfl) dX3_copy_1 ⟨(Nat.le_of_ble_eq_true rfl), (Nat.le_of_ble_eq_true rfl)⟩ (fun r w_2 H locs hp_1 hI hS => ?_)
  obtain ⟨rfl, ⟨ho_3, rfl⟩ | ⟨ho_3, rfl⟩⟩ := hp_1
  · refine W.eq (g2 := F0 m 4 ls [.int 1]) rfl ?_
    refine lv_if_ne (tgt := 14) hx hb dX3_copy_4 (by decide) (fun _ => ?_) (fun c => absurd c (by decide))
    refine lv_ldc (v := -2000000001) hx hb hown (hts (.constant RX3 23 (-2000000001)) (by decide +kernel)) dX3_copy_14 ?_
    exact re_i hx hb hr hlocks hT hA hS hI (PoC.of (by
            unfold sp_copy
            rw [if_pos (Or.inl ho_3)]
            try rw [ix_nI (by omega)]
            try rfl) hR rfl) (Nat.le_of_ble_eq_true rfl) (Nat.le_of_ble_eq_true rfl) dX3_copy_16
  · refine W.eq (g2 := F0 m 4 ls [.int 0]) rfl ?_
    refine lv_if_ne (tgt := 14) hx hb dX3_copy_4 (by decide) (fun c => absurd c (by decide)) (fun _ => ?_)
    refine lv_iload_n hx hb dX3_copy_7 rfl (lv_at hl 2 rfl) ?_
    refine ca_S (As := [.int o]) (rest := []) ⟨hx, hb, hml, hown, hts⟩ (cc_X3_isOutside l E A _ o) (va_cwS 1 hts gX3_copy_X3_isOutside rfl rfl rfl (by decide +kernel) ⟨(Nat.le_of_ble_eq_true rfl), (Nat.le_of_ble_eq_true rfl)⟩) hT hI hA hS rfl rfl hl.1 (Nat.le_of_ble_eq_true rfl) dX3_copy_8 ⟨(Nat.le_of_ble_eq_true rfl), (Nat.le_of_ble_eq_true rfl)⟩ (fun r w_5 H locs hp_4 hI hS => ?_)
    obtain ⟨rfl, ⟨ho_6, rfl⟩ | ⟨ho_6, rfl⟩⟩ := hp_4
    · refine W.eq (g2 := F0 m 11 ls [.int 1]) rfl ?_
      refine lv_if_eq (tgt := 17) hx hb dX3_copy_11 (by decide) (fun c => absurd c (by decide)) (fun _ => ?_)
      refine lv_ldc (v := -2000000001) hx hb hown (hts (.constant RX3 23 (-2000000001)) (by decide +kernel)) dX3_copy_14 ?_
      exact re_i hx hb hr hlocks hT hA hS hI (PoC.of (by
                unfold sp_copy
                rw [if_pos (Or.inr (ho_6))]
                try rw [ix_nI (by omega)]
                try rfl) hR rfl) (Nat.le_of_ble_eq_true rfl) (Nat.le_of_ble_eq_true rfl) dX3_copy_16
    · refine W.eq (g2 := F0 m 11 ls [.int 0]) rfl ?_
      refine lv_if_eq (tgt := 17) hx hb dX3_copy_11 (by decide) (fun _ => ?_) (fun c => absurd c (by decide))
      refine lv_aload_n hx hb dX3_copy_17 rfl (lv_at hl 0 rfl) ?_
      refine lv_iload_n hx hb dX3_copy_18 rfl (lv_at hl 2 rfl) ?_
      refine lv_bipush (v := 63) hx hb dX3_copy_19 (by decide) ?_
      obtain ⟨oj, hoj, rfl⟩ := isP_nat ho_6
      refine ca_V (As := [.int (nI oj), .int 63]) (rest := []) (r0 := (RX3, TX3, 2)) (ci := 2) ⟨hx, hb, hml, hown, hts⟩ (cc_X3_rowOf l E A _ (by omega) msk63 hW hR) (cwV 2 hts gX3_copy_X3_rowOf rfl rfl rfl (by decide +kernel) ⟨(Nat.le_of_ble_eq_true rfl), (Nat.le_of_ble_eq_true rfl)⟩) hT hI hA hS rfl hR.1 rfl rfl hl.1 (Nat.le_of_ble_eq_true rfl) dX3_copy_21 ⟨(Nat.le_of_ble_eq_true rfl), (Nat.le_of_ble_eq_true rfl)⟩ (fun r w_8 H locs hp_7 hI hS => ?_)
      rcases hp_7 with ⟨ez9, rfl, hR⟩ | ⟨ez9, hv9, hk9, rfl, hR⟩ | ⟨ez9, hv9, hk9, rfl, hR⟩
      · refine W.eq (g2 := F0 m 24 ls [.null]) rfl ?_
        refine lv_astore_nN (lv' := [(3, .null), (0, .ref (aH D)), (1, .int p), (2, .int (nI oj))]) hx hb dX3_copy_24 rfl hl (by decide) rfl (fun ls hl => ?_)
        refine lv_aload_nN hx hb dX3_copy_25 rfl (lv_at hl 0 rfl) ?_
        refine lv_ifnonnullN hx hb dX3_copy_26 ?_
        refine lv_iconst (v := 0) hx hb dX3_copy_29 (by decide) ?_
        refine lv_goto (tgt := 47) hx hb dX3_copy_30 (by decide) ?_
        exact re_i hx hb hr hlocks hT hA hS hI (PoC.of (by
                    unfold sp_copy
                    try simp only [pv_nI hoj]
                    rw [if_neg ((fun q => q.elim ho_3 ho_6)), if_pos (ez9)]
                    try rw [ix_nI (by omega)]
                    try rfl) hR rfl) (Nat.le_of_ble_eq_true rfl) (Nat.le_of_ble_eq_true rfl) dX3_copy_47
      · refine W.eq (g2 := F0 m 24 ls [.null]) rfl ?_
        refine lv_astore_nN (lv' := [(3, .null), (0, .ref (aH D)), (1, .int p), (2, .int (nI oj))]) hx hb dX3_copy_24 rfl hl (by decide) rfl (fun ls hl => ?_)
        refine lv_aload_nN hx hb dX3_copy_25 rfl (lv_at hl 0 rfl) ?_
        refine lv_ifnonnullN hx hb dX3_copy_26 ?_
        refine lv_iconst (v := 0) hx hb dX3_copy_29 (by decide) ?_
        refine lv_goto (tgt := 47) hx hb dX3_copy_30 (by decide) ?_
        exact re_i hx hb hr hlocks hT hA hS hI (PoC.of (by
                    unfold sp_copy
                    try simp only [pv_nI hoj]
                    rw [if_neg ((fun q => q.elim ho_3 ho_6)), if_neg (ez9), if_pos ((Classical.not_not.mp hk9))]
                    try rw [ix_nI (by omega)]
                    try rfl) hR rfl) (Nat.le_of_ble_eq_true rfl) (Nat.le_of_ble_eq_true rfl) dX3_copy_47
      · have hln9 := hW.ln hv9
        have hr9 : vR S (sPl S oj) := vO_row hv9 hk9
        refine W.eq (g2 := F0 m 24 ls [.ref (aR D (sPl S oj))]) rfl ?_
        refine lv_astore_n (lv' := [(3, .ref (aR D (sPl S oj))), (0, .ref (aH D)), (1, .int p), (2, .int (nI oj))]) hx hb dX3_copy_24 rfl hl (by decide) rfl (fun ls hl => ?_)
        refine lv_aload_n hx hb dX3_copy_25 rfl (lv_at hl 0 rfl) ?_
        refine lv_ifnonnull (tgt := 33) hx hb dX3_copy_26 (by decide) ?_
        obtain ⟨pj, hpj, rfl⟩ := isP_nat ho_3
        refine lv_aload_n hx hb dX3_copy_33 rfl (lv_at hl 1 rfl) ?_
        refine lv_iload_n hx hb dX3_copy_34 rfl (lv_at hl 2 rfl) ?_
        refine lv_aload_n hx hb dX3_copy_35 rfl (lv_at hl 0 rfl) ?_
        refine lv_iconst (v := 0) hx hb dX3_copy_36 (by decide) ?_
        refine lv_aload_n hx hb dX3_copy_37 rfl (lv_at hl 0 rfl) ?_
        refine wr_get (ci := 0) (C := RX1) (T := TX1) (N := 4) (v := .int (nI (lnv S (sPl S oj)))) hx hb hts in_X1 hown hT hI (hR.2.2.1 _ hv9).1 rfl 1 (by decide) (hts (.fieldLink RX3 43 "CopyRows$Row" "length" "I") (by decide +kernel)) rfl dX3_copy_38 ?_
        refine ca_V (As := [.int 0, .int (nI (lnv S (sPl S oj)))]) (rest := [.int (nI pj), .ref (aH D)]) (r0 := (RX1, TX1, 4)) (ci := 0) ⟨hx, hb, hml, hown, hts⟩ (cR_cut l E A _ (S := uCod S 0) 0 (lnv S (sPl S oj)) hW hR hb9.1 hr9 (by show 0 + (lnv S (sPl S oj)) ≤ lnv S (sPl S oj); omega)) (cwV 2 hts gX3_copy_X1_cut rfl rfl rfl (by decide +kernel) ⟨(Nat.le_of_ble_eq_true rfl), (Nat.le_of_ble_eq_true rfl)⟩) hT hI hA hS rfl (hR.2.2.1 _ hv9).1 rfl rfl hl.1 (Nat.le_of_ble_eq_true rfl) dX3_copy_41 ⟨(Nat.le_of_ble_eq_true rfl), (Nat.le_of_ble_eq_true rfl)⟩ (fun r w_11 H locs hp_10 hI hS => ?_)
        obtain ⟨q, qn, qp, rfl, hR, hvr, hlv, haR⟩ := hp_10
        have haR : aR (adR D (nI (sNr S)) q qn qp) (nI (sNr S)) = q := haR
        refine W.eq (g2 := F0 m 44 ls [.ref q, .int (nI pj), .ref (aH D)]) rfl ?_
        refine W.eq (g2 := F0 m 44 ls [.ref (aR (adR D (nI (sNr S)) q qn qp) (nI (sNr S))), .int (nI pj), .ref (aH D)]) (by rw [haR]) ?_
        refine ca_V (As := [.int (nI pj), .ref (aR (adR D (nI (sNr S)) q qn qp) (nI (sNr S)))]) (rest := []) (r0 := (RX3, TX3, 2)) (ci := 2) ⟨hx, hb, hml, hown, hts⟩ (cc_X3_put l E A _ (by omega) (Or.inl hvr) (nI_nm1 (by show sNr S < 2 ^ 31; omega)) hR) (cwV 2 hts gX3_copy_X3_put rfl rfl rfl (by decide +kernel) ⟨(Nat.le_of_ble_eq_true rfl), (Nat.le_of_ble_eq_true rfl)⟩) hT hI hA hS rfl hR.1 rfl rfl hl.1 (Nat.le_of_ble_eq_true rfl) dX3_copy_44 ⟨(Nat.le_of_ble_eq_true rfl), (Nat.le_of_ble_eq_true rfl)⟩ (fun r w_13 H locs hp_12 hI hS => ?_)
        obtain ⟨rfl, hR⟩ := hp_12
        rw [hlv]
        refine W.eq (g2 := F0 m 47 ls [.int (nI (lnv S (sPl S oj)))]) rfl ?_
        exact re_i hx hb hr hlocks hT hA hS hI (PoC.of (by
                    unfold sp_copy
                    try simp only [pv_nI hoj, pv_nI hpj]
                    rw [if_neg ((fun q => q.elim ho_3 ho_6)), if_neg (ez9), if_neg (hk9)]
                    try rw [ix_nI (by omega)]
                    try rfl) hR rfl) (Nat.le_of_ble_eq_true rfl) (Nat.le_of_ble_eq_true rfl) dX3_copy_47

set_option maxHeartbeats 4000000 in
set_option maxRecDepth 100000 in
theorem cc_X3_slice (l : Launch) (E : En) (A : Nat → Prop) (w : Wd) {S : Sx} {D : Ad} (p o i n : Int32) (hW : Wf S) (hR : Rp E S D w) (hb9 : sNr S < 512 ∧ sNt S < 512 ∧ sNl S < 512) : Ct l yX3_slice wsX3_slice ({ frames := 4, cells := 3, slots := 44, locals := 86 } : Room) E A w [.ref (aH D), .int p, .int o, .int i, .int n] (fun r w' => PoC E D (sp_slice S p o i n) r w') 3 44 := by
  refine Met.ofW (cc := cX3_slice) (maxL := 6) (ret := (some .int)) (by decide) rfl ?_
  intro pp0 ee0 s m args below meth cc0 s₁ B hml hv
  obtain ⟨rfl, hT, hI, hA⟩ := hv
  have hx := B.exec
  have hb := B.bytes
  have hr := B.returns
  have hts := atoms_spec (ws := wsX3_slice) B.pre
  have hown : s.vm.findClass RX3 = some m.cls := findClass_of_methodNamed B.named
  have hlocks := B.notSynchronized
  have hS : va_S A s.heap s.heap [] := va_S.rf
  have hl := lv_entry ([.ref (aH D), .int p, .int o, .int i, .int n]) (n := 6) (Nat.le_of_ble_eq_true rfl)
  rw [lg_entry_eq]
  generalize (lg_sl ([.ref (aH D), .int p, .int o, .int i, .int n]) ++ List.replicate (6 - (lg_sl ([.ref (aH D), .int p, .int o, .int i, .int n])).length) Slot.unset).toArray = ls at hl ⊢
  have hl : lv_has ls 6 [(0, .ref (aH D)), (1, .int p), (2, .int o), (3, .int i), (4, .int n)] := hl
  refine lv_iload_n hx hb dX3_slice_0 rfl (lv_at hl 1 rfl) ?_
  refine ca_S (As := [.int p]) (rest := []) ⟨hx, hb, hml, hown, hts⟩ (cc_X3_isOutside l E A _ p) (va_cwS 1 hts gX3_slice_X3_isOutside rfl rfl rfl (by decide +kernel) ⟨(Nat.le_of_ble_eq_true rfl), (Nat.le_of_ble_eq_true rfl)⟩) hT hI hA hS rfl rfl hl.1 (Nat.le_of_ble_eq_true rfl) dX3_slice_1 ⟨(Nat.le_of_ble_eq_true rfl), (Nat.le_of_ble_eq_true rfl)⟩ (fun r w_2 H locs hp_1 hI hS => ?_)
  obtain ⟨rfl, ⟨ho_3, rfl⟩ | ⟨ho_3, rfl⟩⟩ := hp_1
  · refine W.eq (g2 := F0 m 4 ls [.int 1]) rfl ?_
    refine lv_if_ne (tgt := 14) hx hb dX3_slice_4 (by decide) (fun _ => ?_) (fun c => absurd c (by decide))
    refine lv_ldc (v := -2000000001) hx hb hown (hts (.constant RX3 23 (-2000000001)) (by decide +kernel)) dX3_slice_14 ?_
    exact re_i hx hb hr hlocks hT hA hS hI (PoC.of (by
            unfold sp_slice
            rw [if_pos (Or.inl ho_3)]) hR rfl) (Nat.le_of_ble_eq_true rfl) (Nat.le_of_ble_eq_true rfl) dX3_slice_16
  · refine W.eq (g2 := F0 m 4 ls [.int 0]) rfl ?_
    refine lv_if_ne (tgt := 14) hx hb dX3_slice_4 (by decide) (fun c => absurd c (by decide)) (fun _ => ?_)
    refine lv_iload_n hx hb dX3_slice_7 rfl (lv_at hl 2 rfl) ?_
    refine ca_S (As := [.int o]) (rest := []) ⟨hx, hb, hml, hown, hts⟩ (cc_X3_isOutside l E A _ o) (va_cwS 1 hts gX3_slice_X3_isOutside rfl rfl rfl (by decide +kernel) ⟨(Nat.le_of_ble_eq_true rfl), (Nat.le_of_ble_eq_true rfl)⟩) hT hI hA hS rfl rfl hl.1 (Nat.le_of_ble_eq_true rfl) dX3_slice_8 ⟨(Nat.le_of_ble_eq_true rfl), (Nat.le_of_ble_eq_true rfl)⟩ (fun r w_5 H locs hp_4 hI hS => ?_)
    obtain ⟨rfl, ⟨ho_6, rfl⟩ | ⟨ho_6, rfl⟩⟩ := hp_4
    · refine W.eq (g2 := F0 m 11 ls [.int 1]) rfl ?_
      refine lv_if_eq (tgt := 17) hx hb dX3_slice_11 (by decide) (fun c => absurd c (by decide)) (fun _ => ?_)
      refine lv_ldc (v := -2000000001) hx hb hown (hts (.constant RX3 23 (-2000000001)) (by decide +kernel)) dX3_slice_14 ?_
      exact re_i hx hb hr hlocks hT hA hS hI (PoC.of (by
                unfold sp_slice
                rw [if_pos (Or.inr (ho_6))]) hR rfl) (Nat.le_of_ble_eq_true rfl) (Nat.le_of_ble_eq_true rfl) dX3_slice_16
    · refine W.eq (g2 := F0 m 11 ls [.int 0]) rfl ?_
      refine lv_if_eq (tgt := 17) hx hb dX3_slice_11 (by decide) (fun _ => ?_) (fun c => absurd c (by decide))
      refine lv_aload_n hx hb dX3_slice_17 rfl (lv_at hl 0 rfl) ?_
      refine lv_iload_n hx hb dX3_slice_18 rfl (lv_at hl 2 rfl) ?_
      refine lv_bipush (v := 63) hx hb dX3_slice_19 (by decide) ?_
      obtain ⟨oj, hoj, rfl⟩ := isP_nat ho_6
      refine ca_V (As := [.int (nI oj), .int 63]) (rest := []) (r0 := (RX3, TX3, 2)) (ci := 2) ⟨hx, hb, hml, hown, hts⟩ (cc_X3_rowOf l E A _ (by omega) msk63 hW hR) (cwV 2 hts gX3_slice_X3_rowOf rfl rfl rfl (by decide +kernel) ⟨(Nat.le_of_ble_eq_true rfl), (Nat.le_of_ble_eq_true rfl)⟩) hT hI hA hS rfl hR.1 rfl rfl hl.1 (Nat.le_of_ble_eq_true rfl) dX3_slice_21 ⟨(Nat.le_of_ble_eq_true rfl), (Nat.le_of_ble_eq_true rfl)⟩ (fun r w_8 H locs hp_7 hI hS => ?_)
      rcases hp_7 with ⟨ez9, rfl, hR⟩ | ⟨ez9, hv9, hk9, rfl, hR⟩ | ⟨ez9, hv9, hk9, rfl, hR⟩
      · refine W.eq (g2 := F0 m 24 ls [.null]) rfl ?_
        refine lv_astoreN (lv' := [(5, .null), (0, .ref (aH D)), (1, .int p), (2, .int (nI oj)), (3, .int i), (4, .int n)]) hx hb dX3_slice_24 hl (by decide) rfl (fun ls hl => ?_)
        refine lv_aloadN hx hb dX3_slice_26 (lv_at hl 0 rfl) ?_
        refine lv_ifnonnullN hx hb dX3_slice_28 ?_
        refine lv_iconst (v := 0) hx hb dX3_slice_31 (by decide) ?_
        exact re_i hx hb hr hlocks hT hA hS hI (PoC.of (by
                    unfold sp_slice
                    try simp only [pv_nI hoj]
                    rw [if_neg ((fun q => q.elim ho_3 ho_6)), if_pos (ez9)]) hR rfl) (Nat.le_of_ble_eq_true rfl) (Nat.le_of_ble_eq_true rfl) dX3_slice_32
      · refine W.eq (g2 := F0 m 24 ls [.null]) rfl ?_
        refine lv_astoreN (lv' := [(5, .null), (0, .ref (aH D)), (1, .int p), (2, .int (nI oj)), (3, .int i), (4, .int n)]) hx hb dX3_slice_24 hl (by decide) rfl (fun ls hl => ?_)
        refine lv_aloadN hx hb dX3_slice_26 (lv_at hl 0 rfl) ?_
        refine lv_ifnonnullN hx hb dX3_slice_28 ?_
        refine lv_iconst (v := 0) hx hb dX3_slice_31 (by decide) ?_
        exact re_i hx hb hr hlocks hT hA hS hI (PoC.of (by
                    unfold sp_slice
                    try simp only [pv_nI hoj]
                    rw [if_neg ((fun q => q.elim ho_3 ho_6)), if_neg (ez9), if_pos ((Classical.not_not.mp hk9))]) hR rfl) (Nat.le_of_ble_eq_true rfl) (Nat.le_of_ble_eq_true rfl) dX3_slice_32
      · have hln9 := hW.ln hv9
        have hr9 : vR S (sPl S oj) := vO_row hv9 hk9
        refine W.eq (g2 := F0 m 24 ls [.ref (aR D (sPl S oj))]) rfl ?_
        refine lv_astore (lv' := [(5, .ref (aR D (sPl S oj))), (0, .ref (aH D)), (1, .int p), (2, .int (nI oj)), (3, .int i), (4, .int n)]) hx hb dX3_slice_24 hl (by decide) rfl (fun ls hl => ?_)
        refine lv_aload hx hb dX3_slice_26 (lv_at hl 0 rfl) ?_
        refine lv_ifnonnull (tgt := 33) hx hb dX3_slice_28 (by decide) ?_
        refine lv_iload hx hb dX3_slice_33 (lv_at hl 5 rfl) ?_
        refine lv_if_ge (tgt := 44) hx hb dX3_slice_35 (by decide) (fun c_10 => ?_) (fun c_10 => ?_)
        · refine lv_aload hx hb dX3_slice_44 (lv_at hl 0 rfl) ?_
          refine lv_iload_n hx hb dX3_slice_46 rfl (lv_at hl 4 rfl) ?_
          refine lv_iload hx hb dX3_slice_47 (lv_at hl 5 rfl) ?_
          refine ca_V (As := [.int i, .int n]) (rest := []) (r0 := (RX1, TX1, 4)) (ci := 0) ⟨hx, hb, hml, hown, hts⟩ (cc_X1_hasRange l E A _ i n (hR.2.2.1 _ hv9).1) (cwV 2 hts gX3_slice_X1_hasRange rfl rfl rfl (by decide +kernel) ⟨(Nat.le_of_ble_eq_true rfl), (Nat.le_of_ble_eq_true rfl)⟩) hT hI hA hS rfl (hR.2.2.1 _ hv9).1 rfl rfl hl.1 (Nat.le_of_ble_eq_true rfl) dX3_slice_49 ⟨(Nat.le_of_ble_eq_true rfl), (Nat.le_of_ble_eq_true rfl)⟩ (fun r w_12 H locs hp_11 hI hS => ?_)
          obtain ⟨rfl, ⟨hg_13, rfl⟩ | ⟨hg_13, rfl⟩⟩ := hp_11
          · have hg_13 : rg (lnv S (sPl S oj)) i n := rng_yes (hW.ln hv9) hg_13
            refine W.eq (g2 := F0 m 52 ls [.int 1]) rfl ?_
            refine lv_if_ne (tgt := 61) hx hb dX3_slice_52 (by decide) (fun _ => ?_) (fun c => absurd c (by decide))
            obtain ⟨pj, hpj, rfl⟩ := isP_nat ho_3
            obtain ⟨ia, nb, hin1, rfl, rfl⟩ := rg_nat (hW.ln hv9) hg_13
            refine lv_aload_n hx hb dX3_slice_61 rfl (lv_at hl 1 rfl) ?_
            refine lv_iload_n hx hb dX3_slice_62 rfl (lv_at hl 2 rfl) ?_
            refine lv_aload hx hb dX3_slice_63 (lv_at hl 0 rfl) ?_
            refine lv_iload_n hx hb dX3_slice_65 rfl (lv_at hl 4 rfl) ?_
            refine lv_iload hx hb dX3_slice_66 (lv_at hl 5 rfl) ?_
            refine ca_V (As := [.int (nI ia), .int (nI nb)]) (rest := [.int (nI pj), .ref (aH D)]) (r0 := (RX1, TX1, 4)) (ci := 0) ⟨hx, hb, hml, hown, hts⟩ (cR_cut l E A _ (S := uCod S 0) ia nb hW hR hb9.1 hr9 (by show ia + nb ≤ lnv S (sPl S oj); omega)) (cwV 2 hts gX3_slice_X1_cut rfl rfl rfl (by decide +kernel) ⟨(Nat.le_of_ble_eq_true rfl), (Nat.le_of_ble_eq_true rfl)⟩) hT hI hA hS rfl (hR.2.2.1 _ hv9).1 rfl rfl hl.1 (Nat.le_of_ble_eq_true rfl) dX3_slice_68 ⟨(Nat.le_of_ble_eq_true rfl), (Nat.le_of_ble_eq_true rfl)⟩ (fun r w_15 H locs hp_14 hI hS => ?_)
            obtain ⟨q, qn, qp, rfl, hR, hvr, hlv, haR⟩ := hp_14
            have haR : aR (adR D (nI (sNr S)) q qn qp) (nI (sNr S)) = q := haR
            refine W.eq (g2 := F0 m 71 ls [.ref q, .int (nI pj), .ref (aH D)]) rfl ?_
            refine W.eq (g2 := F0 m 71 ls [.ref (aR (adR D (nI (sNr S)) q qn qp) (nI (sNr S))), .int (nI pj), .ref (aH D)]) (by rw [haR]) ?_
            refine ca_V (As := [.int (nI pj), .ref (aR (adR D (nI (sNr S)) q qn qp) (nI (sNr S)))]) (rest := []) (r0 := (RX3, TX3, 2)) (ci := 2) ⟨hx, hb, hml, hown, hts⟩ (cc_X3_put l E A _ (by omega) (Or.inl hvr) (nI_nm1 (by show sNr S < 2 ^ 31; omega)) hR) (cwV 2 hts gX3_slice_X3_put rfl rfl rfl (by decide +kernel) ⟨(Nat.le_of_ble_eq_true rfl), (Nat.le_of_ble_eq_true rfl)⟩) hT hI hA hS rfl hR.1 rfl rfl hl.1 (Nat.le_of_ble_eq_true rfl) dX3_slice_71 ⟨(Nat.le_of_ble_eq_true rfl), (Nat.le_of_ble_eq_true rfl)⟩ (fun r w_17 H locs hp_16 hI hS => ?_)
            obtain ⟨rfl, hR⟩ := hp_16
            rw [hlv]
            refine W.eq (g2 := F0 m 74 ls [.int (nI nb)]) rfl ?_
            exact re_i hx hb hr hlocks hT hA hS hI (PoC.of (by
                            unfold sp_slice
                            try simp only [pv_nI hoj, pv_nI hpj, ix_nI (show ia < 2 ^ 31 by omega), ix_nI (show nb < 2 ^ 31 by omega)]
                            rw [if_neg ((fun q => q.elim ho_3 ho_6)), if_neg (ez9), if_neg (hk9), if_neg ((not_not_intro c_10)), if_neg (not_not_intro hg_13)]
                            try rw [ix_nI (show pj < 2 ^ 31 by omega)]
                            try rfl) hR rfl) (Nat.le_of_ble_eq_true rfl) (Nat.le_of_ble_eq_true rfl) dX3_slice_74
          · have hg_13 : ¬ rg (lnv S (sPl S oj)) i n := rng_no (hW.ln hv9) hg_13
            refine W.eq (g2 := F0 m 52 ls [.int 0]) rfl ?_
            refine lv_if_ne (tgt := 61) hx hb dX3_slice_52 (by decide) (fun c => absurd c (by decide)) (fun _ => ?_)
            refine lv_aload_n hx hb dX3_slice_55 rfl (lv_at hl 1 rfl) ?_
            refine lv_iconst (v := 3) hx hb dX3_slice_56 (by decide) ?_
            refine ca_V (As := [.int 3]) (rest := []) (r0 := (RX3, TX3, 2)) (ci := 2) ⟨hx, hb, hml, hown, hts⟩ (cc_X3_fail l E A _ 3 hR) (cwV 1 hts gX3_slice_X3_fail rfl rfl rfl (by decide +kernel) ⟨(Nat.le_of_ble_eq_true rfl), (Nat.le_of_ble_eq_true rfl)⟩) hT hI hA hS rfl hR.1 rfl rfl hl.1 (Nat.le_of_ble_eq_true rfl) dX3_slice_57 ⟨(Nat.le_of_ble_eq_true rfl), (Nat.le_of_ble_eq_true rfl)⟩ (fun r w_19 H locs hp_18 hI hS => ?_)
            obtain ⟨rfl, hR⟩ := hp_18
            refine W.eq (g2 := F0 m 60 ls [.int 0]) rfl ?_
            exact re_i hx hb hr hlocks hT hA hS hI (PoC.of (by
                            unfold sp_slice
                            try simp only [pv_nI hoj]
                            rw [if_neg ((fun q => q.elim ho_3 ho_6)), if_neg (ez9), if_neg (hk9), if_neg ((not_not_intro c_10)), if_pos (hg_13)]) hR rfl) (Nat.le_of_ble_eq_true rfl) (Nat.le_of_ble_eq_true rfl) dX3_slice_60
        · refine lv_aload_n hx hb dX3_slice_38 rfl (lv_at hl 1 rfl) ?_
          refine lv_iconst (v := 4) hx hb dX3_slice_39 (by decide) ?_
          refine ca_V (As := [.int 4]) (rest := []) (r0 := (RX3, TX3, 2)) (ci := 2) ⟨hx, hb, hml, hown, hts⟩ (cc_X3_fail l E A _ 4 hR) (cwV 1 hts gX3_slice_X3_fail rfl rfl rfl (by decide +kernel) ⟨(Nat.le_of_ble_eq_true rfl), (Nat.le_of_ble_eq_true rfl)⟩) hT hI hA hS rfl hR.1 rfl rfl hl.1 (Nat.le_of_ble_eq_true rfl) dX3_slice_40 ⟨(Nat.le_of_ble_eq_true rfl), (Nat.le_of_ble_eq_true rfl)⟩ (fun r w_21 H locs hp_20 hI hS => ?_)
          obtain ⟨rfl, hR⟩ := hp_20
          refine W.eq (g2 := F0 m 43 ls [.int 0]) rfl ?_
          exact re_i hx hb hr hlocks hT hA hS hI (PoC.of (by
                        unfold sp_slice
                        try simp only [pv_nI hoj]
                        rw [if_neg ((fun q => q.elim ho_3 ho_6)), if_neg (ez9), if_neg (hk9), if_pos (c_10)]) hR rfl) (Nat.le_of_ble_eq_true rfl) (Nat.le_of_ble_eq_true rfl) dX3_slice_43

set_option maxHeartbeats 4000000 in
set_option maxRecDepth 100000 in
theorem cc_X3_join (l : Launch) (E : En) (A : Nat → Prop) (w : Wd) {S : Sx} {D : Ad} (p a b : Int32) (hW : Wf S) (hR : Rp E S D w) (hb9 : sNr S < 512 ∧ sNt S < 512 ∧ sNl S < 512) : Ct l yX3_join wsX3_join ({ frames := 3, cells := 3, slots := 44, locals := 66 } : Room) E A w [.ref (aH D), .int p, .int a, .int b] (fun r w' => PoC E D (sp_join S p a b) r w') 3 44 := by
  refine Met.ofW (cc := cX3_join) (maxL := 7) (ret := (some .int)) (by decide) rfl ?_
  intro pp0 ee0 s m args below meth cc0 s₁ B hml hv
  obtain ⟨rfl, hT, hI, hA⟩ := hv
  have hx := B.exec
  have hb := B.bytes
  have hr := B.returns
  have hts := atoms_spec (ws := wsX3_join) B.pre
  have hown : s.vm.findClass RX3 = some m.cls := findClass_of_methodNamed B.named
  have hlocks := B.notSynchronized
  have in_X1 : ∀ w ∈ wsX10, w ∈ wsX3_join := by decide +kernel
  have in_X3 : ∀ w ∈ wsX30, w ∈ wsX3_join := by decide +kernel
  have hS : va_S A s.heap s.heap [] := va_S.rf
  have hl := lv_entry ([.ref (aH D), .int p, .int a, .int b]) (n := 7) (Nat.le_of_ble_eq_true rfl)
  rw [lg_entry_eq]
  generalize (lg_sl ([.ref (aH D), .int p, .int a, .int b]) ++ List.replicate (7 - (lg_sl ([.ref (aH D), .int p, .int a, .int b])).length) Slot.unset).toArray = ls at hl ⊢
  have hl : lv_has ls 7 [(0, .ref (aH D)), (1, .int p), (2, .int a), (3, .int b)] := hl
  refine lv_iload_n hx hb dX3_join_0 rfl (lv_at hl 1 rfl) ?_
  refine ca_S (As := [.int p]) (rest := []) ⟨hx, hb, hml, hown, hts⟩ (cc_X3_isOutside l E A _ p) (va_cwS 1 hts gX3_join_X3_isOutside rfl rfl rfl (by decide +kernel) ⟨(Nat.le_of_ble_eq_true rfl), (Nat.le_of_ble_eq_true rfl)⟩) hT hI hA hS rfl rfl hl.1 (Nat.le_of_ble_eq_true rfl) dX3_join_1 ⟨(Nat.le_of_ble_eq_true rfl), (Nat.le_of_ble_eq_true rfl)⟩ (fun r w_2 H locs hp_1 hI hS => ?_)
  obtain ⟨rfl, ⟨ho_3, rfl⟩ | ⟨ho_3, rfl⟩⟩ := hp_1
  · refine W.eq (g2 := F0 m 4 ls [.int 1]) rfl ?_
    refine lv_if_ne (tgt := 21) hx hb dX3_join_4 (by decide) (fun _ => ?_) (fun c => absurd c (by decide))
    refine lv_ldc (v := -2000000001) hx hb hown (hts (.constant RX3 23 (-2000000001)) (by decide +kernel)) dX3_join_21 ?_
    exact re_i hx hb hr hlocks hT hA hS hI (PoC.of (by
            unfold sp_join
            rw [if_pos (Or.inl ho_3)]) hR rfl) (Nat.le_of_ble_eq_true rfl) (Nat.le_of_ble_eq_true rfl) dX3_join_23
  · refine W.eq (g2 := F0 m 4 ls [.int 0]) rfl ?_
    refine lv_if_ne (tgt := 21) hx hb dX3_join_4 (by decide) (fun c => absurd c (by decide)) (fun _ => ?_)
    refine lv_iload_n hx hb dX3_join_7 rfl (lv_at hl 2 rfl) ?_
    refine ca_S (As := [.int a]) (rest := []) ⟨hx, hb, hml, hown, hts⟩ (cc_X3_isOutside l E A _ a) (va_cwS 1 hts gX3_join_X3_isOutside rfl rfl rfl (by decide +kernel) ⟨(Nat.le_of_ble_eq_true rfl), (Nat.le_of_ble_eq_true rfl)⟩) hT hI hA hS rfl rfl hl.1 (Nat.le_of_ble_eq_true rfl) dX3_join_8 ⟨(Nat.le_of_ble_eq_true rfl), (Nat.le_of_ble_eq_true rfl)⟩ (fun r w_5 H locs hp_4 hI hS => ?_)
    obtain ⟨rfl, ⟨ho_6, rfl⟩ | ⟨ho_6, rfl⟩⟩ := hp_4
    · refine W.eq (g2 := F0 m 11 ls [.int 1]) rfl ?_
      refine lv_if_ne (tgt := 21) hx hb dX3_join_11 (by decide) (fun _ => ?_) (fun c => absurd c (by decide))
      refine lv_ldc (v := -2000000001) hx hb hown (hts (.constant RX3 23 (-2000000001)) (by decide +kernel)) dX3_join_21 ?_
      exact re_i hx hb hr hlocks hT hA hS hI (PoC.of (by
                unfold sp_join
                rw [if_pos (Or.inr (Or.inl ho_6))]) hR rfl) (Nat.le_of_ble_eq_true rfl) (Nat.le_of_ble_eq_true rfl) dX3_join_23
    · refine W.eq (g2 := F0 m 11 ls [.int 0]) rfl ?_
      refine lv_if_ne (tgt := 21) hx hb dX3_join_11 (by decide) (fun c => absurd c (by decide)) (fun _ => ?_)
      refine lv_iload_n hx hb dX3_join_14 rfl (lv_at hl 3 rfl) ?_
      refine ca_S (As := [.int b]) (rest := []) ⟨hx, hb, hml, hown, hts⟩ (cc_X3_isOutside l E A _ b) (va_cwS 1 hts gX3_join_X3_isOutside rfl rfl rfl (by decide +kernel) ⟨(Nat.le_of_ble_eq_true rfl), (Nat.le_of_ble_eq_true rfl)⟩) hT hI hA hS rfl rfl hl.1 (Nat.le_of_ble_eq_true rfl) dX3_join_15 ⟨(Nat.le_of_ble_eq_true rfl), (Nat.le_of_ble_eq_true rfl)⟩ (fun r w_8 H locs hp_7 hI hS => ?_)
      obtain ⟨rfl, ⟨ho_9, rfl⟩ | ⟨ho_9, rfl⟩⟩ := hp_7
      · refine W.eq (g2 := F0 m 18 ls [.int 1]) rfl ?_
        refine lv_if_eq (tgt := 24) hx hb dX3_join_18 (by decide) (fun c => absurd c (by decide)) (fun _ => ?_)
        refine lv_ldc (v := -2000000001) hx hb hown (hts (.constant RX3 23 (-2000000001)) (by decide +kernel)) dX3_join_21 ?_
        exact re_i hx hb hr hlocks hT hA hS hI (PoC.of (by
                    unfold sp_join
                    rw [if_pos (Or.inr (Or.inr (ho_9)))]) hR rfl) (Nat.le_of_ble_eq_true rfl) (Nat.le_of_ble_eq_true rfl) dX3_join_23
      · refine W.eq (g2 := F0 m 18 ls [.int 0]) rfl ?_
        refine lv_if_eq (tgt := 24) hx hb dX3_join_18 (by decide) (fun _ => ?_) (fun c => absurd c (by decide))
        obtain ⟨pj, hpj, rfl⟩ := isP_nat ho_3
        obtain ⟨aj, haj, rfl⟩ := isP_nat ho_6
        obtain ⟨bj, hbj, rfl⟩ := isP_nat ho_9
        refine lv_aload_n hx hb dX3_join_24 rfl (lv_at hl 0 rfl) ?_
        refine wr_get (ci := 2) (C := RX3) (T := TX3) (N := 2) (v := .ref (aP D)) hx hb hts in_X3 hown hT hI hR.1 rfl 0 (by decide) (hts (.fieldLink RX3 11 "CopyRows" "places" "[LCopyRows$Row;") (by decide +kernel)) rfl dX3_join_25 ?_
        refine lv_iload_n hx hb dX3_join_28 rfl (lv_at hl 2 rfl) ?_
        refine wr_aaldN (t := aj) hx hb hT hI hR.2.1 2 rfl (by omega) (by omega) dX3_join_29 ?_
        rcases hW.pl D aj with ⟨ez10, ep10⟩ | ⟨ez10, hv10, ep10⟩
        · refine W.eq (g2 := F0 m 30 ls [.null]) (by rw [ep10]; rfl) ?_
          refine lv_astoreN (lv' := [(4, .null), (0, .ref (aH D)), (1, .int (nI pj)), (2, .int (nI aj)), (3, .int (nI bj))]) hx hb dX3_join_30 hl (by decide) rfl (fun ls hl => ?_)
          refine lv_aload_n hx hb dX3_join_32 rfl (lv_at hl 1 rfl) ?_
          refine wr_get (ci := 2) (C := RX3) (T := TX3) (N := 2) (v := .ref (aP D)) hx hb hts in_X3 hown hT hI hR.1 rfl 0 (by decide) (hts (.fieldLink RX3 11 "CopyRows" "places" "[LCopyRows$Row;") (by decide +kernel)) rfl dX3_join_33 ?_
          refine lv_iload_n hx hb dX3_join_36 rfl (lv_at hl 4 rfl) ?_
          refine wr_aaldN (t := bj) hx hb hT hI hR.2.1 2 rfl (by omega) (by omega) dX3_join_37 ?_
          rcases hW.pl D bj with ⟨ez11, ep11⟩ | ⟨ez11, hv11, ep11⟩
          · refine W.eq (g2 := F0 m 38 ls [.null]) (by rw [ep11]; rfl) ?_
            refine lv_astoreN (lv' := [(5, .null), (4, .null), (0, .ref (aH D)), (1, .int (nI pj)), (2, .int (nI aj)), (3, .int (nI bj))]) hx hb dX3_join_38 hl (by decide) rfl (fun ls hl => ?_)
            refine lv_aloadN hx hb dX3_join_40 (lv_at hl 1 rfl) ?_
            refine lv_ifnullN (tgt := 50) hx hb dX3_join_42 (by decide) ?_
            refine lv_aload_n hx hb dX3_join_50 rfl (lv_at hl 2 rfl) ?_
            refine lv_iconst (v := 1) hx hb dX3_join_51 (by decide) ?_
            refine ca_V (As := [.int 1]) (rest := []) (r0 := (RX3, TX3, 2)) (ci := 2) ⟨hx, hb, hml, hown, hts⟩ (cc_X3_fail l E A _ 1 hR) (cwV 1 hts gX3_join_X3_fail rfl rfl rfl (by decide +kernel) ⟨(Nat.le_of_ble_eq_true rfl), (Nat.le_of_ble_eq_true rfl)⟩) hT hI hA hS rfl hR.1 rfl rfl hl.1 (Nat.le_of_ble_eq_true rfl) dX3_join_52 ⟨(Nat.le_of_ble_eq_true rfl), (Nat.le_of_ble_eq_true rfl)⟩ (fun r w_13 H locs hp_12 hI hS => ?_)
            obtain ⟨rfl, hR⟩ := hp_12
            refine W.eq (g2 := F0 m 55 ls [.int 0]) rfl ?_
            exact re_i hx hb hr hlocks hT hA hS hI (PoC.of (by
                            unfold sp_join
                            try simp only [pv_nI hpj, pv_nI haj, pv_nI hbj]
                            rw [if_neg ((fun q => q.elim ho_3 (fun q => q.elim ho_6 ho_9))), if_pos (Or.inl ez10)]) hR rfl) (Nat.le_of_ble_eq_true rfl) (Nat.le_of_ble_eq_true rfl) dX3_join_55
          · refine W.eq (g2 := F0 m 38 ls [.ref (aR D (sPl S bj))]) (by rw [ep11]; rfl) ?_
            refine lv_astore (lv' := [(5, .ref (aR D (sPl S bj))), (4, .null), (0, .ref (aH D)), (1, .int (nI pj)), (2, .int (nI aj)), (3, .int (nI bj))]) hx hb dX3_join_38 hl (by decide) rfl (fun ls hl => ?_)
            refine lv_aloadN hx hb dX3_join_40 (lv_at hl 1 rfl) ?_
            refine lv_ifnullN (tgt := 50) hx hb dX3_join_42 (by decide) ?_
            refine lv_aload_n hx hb dX3_join_50 rfl (lv_at hl 2 rfl) ?_
            refine lv_iconst (v := 1) hx hb dX3_join_51 (by decide) ?_
            refine ca_V (As := [.int 1]) (rest := []) (r0 := (RX3, TX3, 2)) (ci := 2) ⟨hx, hb, hml, hown, hts⟩ (cc_X3_fail l E A _ 1 hR) (cwV 1 hts gX3_join_X3_fail rfl rfl rfl (by decide +kernel) ⟨(Nat.le_of_ble_eq_true rfl), (Nat.le_of_ble_eq_true rfl)⟩) hT hI hA hS rfl hR.1 rfl rfl hl.1 (Nat.le_of_ble_eq_true rfl) dX3_join_52 ⟨(Nat.le_of_ble_eq_true rfl), (Nat.le_of_ble_eq_true rfl)⟩ (fun r w_15 H locs hp_14 hI hS => ?_)
            obtain ⟨rfl, hR⟩ := hp_14
            refine W.eq (g2 := F0 m 55 ls [.int 0]) rfl ?_
            exact re_i hx hb hr hlocks hT hA hS hI (PoC.of (by
                            unfold sp_join
                            try simp only [pv_nI hpj, pv_nI haj, pv_nI hbj]
                            rw [if_neg ((fun q => q.elim ho_3 (fun q => q.elim ho_6 ho_9))), if_pos (Or.inl ez10)]) hR rfl) (Nat.le_of_ble_eq_true rfl) (Nat.le_of_ble_eq_true rfl) dX3_join_55
        · refine W.eq (g2 := F0 m 30 ls [.ref (aR D (sPl S aj))]) (by rw [ep10]; rfl) ?_
          refine lv_astore (lv' := [(4, .ref (aR D (sPl S aj))), (0, .ref (aH D)), (1, .int (nI pj)), (2, .int (nI aj)), (3, .int (nI bj))]) hx hb dX3_join_30 hl (by decide) rfl (fun ls hl => ?_)
          refine lv_aload_n hx hb dX3_join_32 rfl (lv_at hl 1 rfl) ?_
          refine wr_get (ci := 2) (C := RX3) (T := TX3) (N := 2) (v := .ref (aP D)) hx hb hts in_X3 hown hT hI hR.1 rfl 0 (by decide) (hts (.fieldLink RX3 11 "CopyRows" "places" "[LCopyRows$Row;") (by decide +kernel)) rfl dX3_join_33 ?_
          refine lv_iload_n hx hb dX3_join_36 rfl (lv_at hl 4 rfl) ?_
          refine wr_aaldN (t := bj) hx hb hT hI hR.2.1 2 rfl (by omega) (by omega) dX3_join_37 ?_
          rcases hW.pl D bj with ⟨ez16, ep16⟩ | ⟨ez16, hv16, ep16⟩
          · refine W.eq (g2 := F0 m 38 ls [.null]) (by rw [ep16]; rfl) ?_
            refine lv_astoreN (lv' := [(5, .null), (4, .ref (aR D (sPl S aj))), (0, .ref (aH D)), (1, .int (nI pj)), (2, .int (nI aj)), (3, .int (nI bj))]) hx hb dX3_join_38 hl (by decide) rfl (fun ls hl => ?_)
            refine lv_aload hx hb dX3_join_40 (lv_at hl 1 rfl) ?_
            refine lv_ifnull hx hb dX3_join_42 ?_
            refine lv_aloadN hx hb dX3_join_45 (lv_at hl 0 rfl) ?_
            refine lv_ifnonnullN hx hb dX3_join_47 ?_
            refine lv_aload_n hx hb dX3_join_50 rfl (lv_at hl 2 rfl) ?_
            refine lv_iconst (v := 1) hx hb dX3_join_51 (by decide) ?_
            refine ca_V (As := [.int 1]) (rest := []) (r0 := (RX3, TX3, 2)) (ci := 2) ⟨hx, hb, hml, hown, hts⟩ (cc_X3_fail l E A _ 1 hR) (cwV 1 hts gX3_join_X3_fail rfl rfl rfl (by decide +kernel) ⟨(Nat.le_of_ble_eq_true rfl), (Nat.le_of_ble_eq_true rfl)⟩) hT hI hA hS rfl hR.1 rfl rfl hl.1 (Nat.le_of_ble_eq_true rfl) dX3_join_52 ⟨(Nat.le_of_ble_eq_true rfl), (Nat.le_of_ble_eq_true rfl)⟩ (fun r w_18 H locs hp_17 hI hS => ?_)
            obtain ⟨rfl, hR⟩ := hp_17
            refine W.eq (g2 := F0 m 55 ls [.int 0]) rfl ?_
            exact re_i hx hb hr hlocks hT hA hS hI (PoC.of (by
                            unfold sp_join
                            try simp only [pv_nI hpj, pv_nI haj, pv_nI hbj]
                            rw [if_neg ((fun q => q.elim ho_3 (fun q => q.elim ho_6 ho_9))), if_pos (Or.inr (ez16))]) hR rfl) (Nat.le_of_ble_eq_true rfl) (Nat.le_of_ble_eq_true rfl) dX3_join_55
          · refine W.eq (g2 := F0 m 38 ls [.ref (aR D (sPl S bj))]) (by rw [ep16]; rfl) ?_
            refine lv_astore (lv' := [(5, .ref (aR D (sPl S bj))), (4, .ref (aR D (sPl S aj))), (0, .ref (aH D)), (1, .int (nI pj)), (2, .int (nI aj)), (3, .int (nI bj))]) hx hb dX3_join_38 hl (by decide) rfl (fun ls hl => ?_)
            refine lv_aload hx hb dX3_join_40 (lv_at hl 1 rfl) ?_
            refine lv_ifnull hx hb dX3_join_42 ?_
            refine lv_aload hx hb dX3_join_45 (lv_at hl 0 rfl) ?_
            refine lv_ifnonnull (tgt := 56) hx hb dX3_join_47 (by decide) ?_
            refine lv_aload hx hb dX3_join_56 (lv_at hl 1 rfl) ?_
            refine wr_get (ci := 0) (C := RX1) (T := TX1) (N := 4) (v := .int (kdv S (sPl S aj))) hx hb hts in_X1 hown hT hI (hR.2.2.1 _ hv10).1 rfl 0 (by decide) (hts (.fieldLink RX3 53 "CopyRows$Row" "kind" "I") (by decide +kernel)) rfl dX3_join_58 ?_
            refine lv_bipush (v := 6) hx hb dX3_join_61 (by decide) ?_
            refine lv_icmp_eq (tgt := 76) hx hb dX3_join_63 (by decide) (fun c_19 => ?_) (fun c_19 => ?_)
            · refine lv_aload_n hx hb dX3_join_76 rfl (lv_at hl 2 rfl) ?_
              refine lv_iconst (v := 5) hx hb dX3_join_77 (by decide) ?_
              refine ca_V (As := [.int 5]) (rest := []) (r0 := (RX3, TX3, 2)) (ci := 2) ⟨hx, hb, hml, hown, hts⟩ (cc_X3_fail l E A _ 5 hR) (cwV 1 hts gX3_join_X3_fail rfl rfl rfl (by decide +kernel) ⟨(Nat.le_of_ble_eq_true rfl), (Nat.le_of_ble_eq_true rfl)⟩) hT hI hA hS rfl hR.1 rfl rfl hl.1 (Nat.le_of_ble_eq_true rfl) dX3_join_78 ⟨(Nat.le_of_ble_eq_true rfl), (Nat.le_of_ble_eq_true rfl)⟩ (fun r w_21 H locs hp_20 hI hS => ?_)
              obtain ⟨rfl, hR⟩ := hp_20
              refine W.eq (g2 := F0 m 81 ls [.int 0]) rfl ?_
              exact re_i hx hb hr hlocks hT hA hS hI (PoC.of (by
                                unfold sp_join
                                try simp only [pv_nI hpj, pv_nI haj, pv_nI hbj]
                                rw [if_neg ((fun q => q.elim ho_3 (fun q => q.elim ho_6 ho_9))), if_neg ((fun q => q.elim ez10 ez16)), if_pos (Or.inl c_19)]) hR rfl) (Nat.le_of_ble_eq_true rfl) (Nat.le_of_ble_eq_true rfl) dX3_join_81
            · refine lv_aload hx hb dX3_join_66 (lv_at hl 0 rfl) ?_
              refine wr_get (ci := 0) (C := RX1) (T := TX1) (N := 4) (v := .int (kdv S (sPl S bj))) hx hb hts in_X1 hown hT hI (hR.2.2.1 _ hv16).1 rfl 0 (by decide) (hts (.fieldLink RX3 53 "CopyRows$Row" "kind" "I") (by decide +kernel)) rfl dX3_join_68 ?_
              refine lv_bipush (v := 6) hx hb dX3_join_71 (by decide) ?_
              refine lv_icmp_ne (tgt := 82) hx hb dX3_join_73 (by decide) (fun c_22 => ?_) (fun c_22 => ?_)
              · have hla := hW.ln hv10
                have hlb := hW.ln hv16
                refine lv_aload hx hb dX3_join_82 (lv_at hl 1 rfl) ?_
                refine wr_get (ci := 0) (C := RX1) (T := TX1) (N := 4) (v := .int (nI (lnv S (sPl S aj)))) hx hb hts in_X1 hown hT hI (hR.2.2.1 _ hv10).1 rfl 1 (by decide) (hts (.fieldLink RX3 43 "CopyRows$Row" "length" "I") (by decide +kernel)) rfl dX3_join_84 ?_
                refine lv_aload hx hb dX3_join_87 (lv_at hl 0 rfl) ?_
                refine wr_get (ci := 0) (C := RX1) (T := TX1) (N := 4) (v := .int (nI (lnv S (sPl S bj)))) hx hb hts in_X1 hown hT hI (hR.2.2.1 _ hv16).1 rfl 1 (by decide) (hts (.fieldLink RX3 43 "CopyRows$Row" "length" "I") (by decide +kernel)) rfl dX3_join_89 ?_
                refine lv_iadd hx hb dX3_join_92 ?_
                refine W.eq (g2 := F0 m 93 ls [.int (nI ((lnv S (sPl S aj)) + (lnv S (sPl S bj))))]) (by rw [show (nI (lnv S (sPl S aj)) : Int32) + nI (lnv S (sPl S bj)) = nI (lnv S (sPl S aj) + lnv S (sPl S bj)) from nI_add _ _]) ?_
                refine lv_bipush (v := 40) hx hb dX3_join_93 (by decide) ?_
                refine lv_icmp_le (tgt := 104) hx hb dX3_join_95 (by decide) (fun c_23 => ?_) (fun c_23 => ?_)
                · have c_23 : (lnv S (sPl S aj)) + (lnv S (sPl S bj)) ≤ 40 := (nI_leI (a := (lnv S (sPl S aj)) + (lnv S (sPl S bj))) (b := 40) (by omega) (by omega)).mp c_23
                  refine lv_aload hx hb dX3_join_104 (lv_at hl 1 rfl) ?_
                  refine lv_aload hx hb dX3_join_106 (lv_at hl 0 rfl) ?_
                  refine ca_V (As := [.ref (aR D (sPl S bj))]) (rest := []) (r0 := (RX1, TX1, 4)) (ci := 0) ⟨hx, hb, hml, hown, hts⟩ (cc_X1_mayTakeOf l E A _ (hR.2.2.1 _ hv10).1 (hR.2.2.1 _ hv16).1) (cwV 1 hts gX3_join_X1_mayTakeOf rfl rfl rfl (by decide +kernel) ⟨(Nat.le_of_ble_eq_true rfl), (Nat.le_of_ble_eq_true rfl)⟩) hT hI hA hS rfl (hR.2.2.1 _ hv10).1 rfl rfl hl.1 (Nat.le_of_ble_eq_true rfl) dX3_join_108 ⟨(Nat.le_of_ble_eq_true rfl), (Nat.le_of_ble_eq_true rfl)⟩ (fun r w_25 H locs hp_24 hI hS => ?_)
                  obtain ⟨rfl, ⟨hm_26, rfl⟩ | ⟨hm_26, rfl⟩⟩ := hp_24
                  · have hm_26 : mayT (kdv S (sPl S aj)) (kdv S (sPl S bj)) := hm_26
                    have hru : vR S (sPl S bj) := vO_row hv16 (fun e9 => hm_26.1 (Or.inr e9))
                    have hrv : vR S (sPl S aj) := vO_row hv10 (fun e9 => hm_26.1 (Or.inl e9))
                    have hlu := hW.ln (Or.inl hru)
                    have hlv := hW.ln (Or.inl hrv)
                    refine W.eq (g2 := F0 m 111 ls [.int 1]) rfl ?_
                    refine lv_if_eq (tgt := 135) hx hb dX3_join_111 (by decide) (fun c => absurd c (by decide)) (fun _ => ?_)
                    refine lv_aload hx hb dX3_join_114 (lv_at hl 1 rfl) ?_
                    refine lv_aload hx hb dX3_join_116 (lv_at hl 0 rfl) ?_
                    refine lv_iconst (v := 0) hx hb dX3_join_118 (by decide) ?_
                    refine lv_aload hx hb dX3_join_119 (lv_at hl 0 rfl) ?_
                    refine wr_get (ci := 0) (C := RX1) (T := TX1) (N := 4) (v := .int (nI (lnv S (sPl S bj)))) hx hb hts in_X1 hown hT hI (hR.2.2.1 _ hv16).1 rfl 1 (by decide) (hts (.fieldLink RX3 43 "CopyRows$Row" "length" "I") (by decide +kernel)) rfl dX3_join_121 ?_
                    refine ca_V (As := [.ref (aR D (sPl S bj)), .int 0, .int (nI (lnv S (sPl S bj)))]) (rest := []) (r0 := (RX1, TX1, 4)) (ci := 0) ⟨hx, hb, hml, hown, hts⟩ (cR_count l E A _ 0 (lnv S (sPl S bj)) hW hR hru hrv hm_26 (by omega)) (cwV 3 hts gX3_join_X1_countTaken rfl rfl rfl (by decide +kernel) ⟨(Nat.le_of_ble_eq_true rfl), (Nat.le_of_ble_eq_true rfl)⟩) hT hI hA hS rfl (hR.2.2.1 _ hv10).1 rfl rfl hl.1 (Nat.le_of_ble_eq_true rfl) dX3_join_124 ⟨(Nat.le_of_ble_eq_true rfl), (Nat.le_of_ble_eq_true rfl)⟩ (fun r w_28 H locs hp_27 hI hS => ?_)
                    obtain ⟨rfl, rfl⟩ := hp_27
                    have hsp := mvN_spec (S := S) (u := sPl S bj) (v := sPl S aj) (i := 0) (n := lnv S (sPl S bj))
                    generalize hmv : mvN S (sPl S bj) (sPl S aj) 0 (lnv S (sPl S bj)) = mv at hsp ⊢
                    refine W.eq (g2 := F0 m 127 ls [.int (nI mv)]) rfl ?_
                    refine lv_aload hx hb dX3_join_127 (lv_at hl 0 rfl) ?_
                    refine wr_get (ci := 0) (C := RX1) (T := TX1) (N := 4) (v := .int (nI (lnv S (sPl S bj)))) hx hb hts in_X1 hown hT hI (hR.2.2.1 _ hv16).1 rfl 1 (by decide) (hts (.fieldLink RX3 43 "CopyRows$Row" "length" "I") (by decide +kernel)) rfl dX3_join_129 ?_
                    refine lv_icmp_ge (tgt := 141) hx hb dX3_join_132 (by decide) (fun c_29 => ?_) (fun c_29 => ?_)
                    · have c_29 : lnv S (sPl S bj) ≤ mv := (nI_leI (a := lnv S (sPl S bj)) (b := mv) (by omega) (by omega)).mp c_29
                      by_cases hkn : isN (kdv S (sPl S aj))
                      · refine wr_new (ci := 0) (fs := [.int 0, .int 0, .null, .null]) (C := RX1) (T := TX1) (N := 4) hx hb hts in_X1 tyX1 tyX1_ok hown (hts (.classLink RX3 9 RX1) (by decide +kernel)) (hts (.instantiable RX1 4) (by decide +kernel)) (hts (.initialized RX1) (by decide +kernel)) hT hI hS hA rfl (fun j hj => by rcases (show j = 0 ∨ j = 1 ∨ j = 2 ∨ j = 3 by omega) with rfl | rfl | rfl | rfl <;> rfl) (Nat.le_of_ble_eq_true rfl) (Nat.le_of_ble_eq_true rfl) dX3_join_141 (fun q H hq hI hS => ?_)
                        refine W.widen (k := 1) (n := 4) (Nat.le_of_ble_eq_true rfl) (Nat.le_of_ble_eq_true rfl) ?_
                        have hR0 := hR
                        have hR := hR.sub (fun a9 x9 h9 => nw_in (y := .inr (0, [.int 0, .int 0, .null, .null])) h9 hq)
                        refine lv_dup hx hb dX3_join_144 rfl ?_
                        refine lv_aload hx hb dX3_join_145 (lv_at hl 1 rfl) ?_
                        refine wr_get (ci := 0) (C := RX1) (T := TX1) (N := 4) (v := .int (kdv S (sPl S aj))) hx hb hts in_X1 hown hT hI (hR.2.2.1 _ hv10).1 rfl 0 (by decide) (hts (.fieldLink RX3 53 "CopyRows$Row" "kind" "I") (by decide +kernel)) rfl dX3_join_147 ?_
                        refine lv_aload hx hb dX3_join_150 (lv_at hl 1 rfl) ?_
                        refine wr_get (ci := 0) (C := RX1) (T := TX1) (N := 4) (v := .int (nI (lnv S (sPl S aj)))) hx hb hts in_X1 hown hT hI (hR.2.2.1 _ hv10).1 rfl 1 (by decide) (hts (.fieldLink RX3 43 "CopyRows$Row" "length" "I") (by decide +kernel)) rfl dX3_join_152 ?_
                        refine lv_aload hx hb dX3_join_155 (lv_at hl 0 rfl) ?_
                        refine wr_get (ci := 0) (C := RX1) (T := TX1) (N := 4) (v := .int (nI (lnv S (sPl S bj)))) hx hb hts in_X1 hown hT hI (hR.2.2.1 _ hv16).1 rfl 1 (by decide) (hts (.fieldLink RX3 43 "CopyRows$Row" "length" "I") (by decide +kernel)) rfl dX3_join_157 ?_
                        refine lv_iadd hx hb dX3_join_160 ?_
                        refine W.eq (g2 := F0 m 161 ls [.int (nI ((lnv S (sPl S aj)) + (lnv S (sPl S bj)))), .int (kdv S (sPl S aj)), .ref q, .ref q]) (by rw [show (nI (lnv S (sPl S aj)) : Int32) + nI (lnv S (sPl S bj)) = nI (lnv S (sPl S aj) + lnv S (sPl S bj)) from nI_add _ _]) ?_
                        refine ca_I (As := [.int (kdv S (sPl S aj)), .int (nI ((lnv S (sPl S aj)) + (lnv S (sPl S bj))))]) (rest := [.ref q]) ⟨hx, hb, hml, hown, hts⟩ (cc_X1_init_n l E A _ (kdv S (sPl S aj)) (lnv S (sPl S aj) + lnv S (sPl S bj)) (by omega) hkn (va_up_self _ _ _)) (cwI 2 hts gX3_join_X1_init rfl rfl rfl (hts (.initialized RX1) (by decide +kernel)) (hts (.methodLink RX3 28 yX1_init) (by decide +kernel)) (hts (.instanceMethod yX1_init) (by decide +kernel)) rfl (by decide +kernel) ⟨(Nat.le_of_ble_eq_true rfl), (Nat.le_of_ble_eq_true rfl)⟩) hT hI hA hS rfl rfl hl.1 (Nat.le_of_ble_eq_true rfl) dX3_join_161 ⟨(Nat.le_of_ble_eq_true rfl), (Nat.le_of_ble_eq_true rfl)⟩ (fun r w_31 H locs hp_30 hI hS => ?_)
                        obtain ⟨rfl, hp_30⟩ := hp_30
                        obtain ⟨qn, qp, hNq⟩ := NewRow.of hq hp_30
                        have hR := hR0.sub (w' := w_31) (fun a9 x9 h9 => hNq.keeps h9)
                        refine W.eq (g2 := F0 m 164 ls [.ref q]) rfl ?_
                        refine lv_astore (lv' := [(6, .ref q), (5, .ref (aR D (sPl S bj))), (4, .ref (aR D (sPl S aj))), (0, .ref (aH D)), (1, .int (nI pj)), (2, .int (nI aj)), (3, .int (nI bj))]) hx hb dX3_join_164 hl (by decide) rfl (fun ls hl => ?_)
                        refine lv_aload hx hb dX3_join_166 (lv_at hl 0 rfl) ?_
                        refine lv_aload hx hb dX3_join_168 (lv_at hl 2 rfl) ?_
                        refine lv_iconst (v := 0) hx hb dX3_join_170 (by decide) ?_
                        refine lv_iconst (v := 0) hx hb dX3_join_171 (by decide) ?_
                        refine lv_aload hx hb dX3_join_172 (lv_at hl 2 rfl) ?_
                        refine wr_get (ci := 0) (C := RX1) (T := TX1) (N := 4) (v := .int (nI (lnv S (sPl S aj)))) hx hb hts in_X1 hown hT hI (hR.2.2.1 _ hv10).1 rfl 1 (by decide) (hts (.fieldLink RX3 43 "CopyRows$Row" "length" "I") (by decide +kernel)) rfl dX3_join_174 ?_
                        refine ca_V (As := [.ref (aR D (sPl S aj)), .int 0, .int 0, .int (nI (lnv S (sPl S aj)))]) (rest := []) (r0 := (RX1, TX1, 4)) (ci := 0) ⟨hx, hb, hml, hown, hts⟩ (cc_X1_take_n l E A _ 0 0 (lnv S (sPl S aj)) (by omega) (by omega) (by omega) (by omega) hkn hNq.2.2.2.2.2.2.1 (hR.2.2.1 _ hv10).1 hNq.2.2.2.2.2.2.2.1 (hR.num hv10 hkn)) (cwV 4 hts gX3_join_X1_take rfl rfl rfl (by decide +kernel) ⟨(Nat.le_of_ble_eq_true rfl), (Nat.le_of_ble_eq_true rfl)⟩) hT hI hA hS rfl hNq.2.2.2.2.2.2.1 rfl rfl hl.1 (Nat.le_of_ble_eq_true rfl) dX3_join_177 ⟨(Nat.le_of_ble_eq_true rfl), (Nat.le_of_ble_eq_true rfl)⟩ (fun r w_33 H locs hp_32 hI hS => ?_)
                        obtain ⟨rfl, rfl⟩ := hp_32
                        have hNq := hNq.fillN (f2 := (va_cpy (itv S (sPl S aj)) (fun _ => 0) 0 0 (lnv S (sPl S aj))))
                        have hR := hR0.sub (fun a9 x9 h9 => hNq.keeps h9)
                        refine W.eq (g2 := F0 m 180 ls []) rfl ?_
                        refine lv_aload hx hb dX3_join_180 (lv_at hl 0 rfl) ?_
                        refine lv_aload hx hb dX3_join_182 (lv_at hl 1 rfl) ?_
                        refine lv_iconst (v := 0) hx hb dX3_join_184 (by decide) ?_
                        refine lv_aload hx hb dX3_join_185 (lv_at hl 2 rfl) ?_
                        refine wr_get (ci := 0) (C := RX1) (T := TX1) (N := 4) (v := .int (nI (lnv S (sPl S aj)))) hx hb hts in_X1 hown hT hI (hR.2.2.1 _ hv10).1 rfl 1 (by decide) (hts (.fieldLink RX3 43 "CopyRows$Row" "length" "I") (by decide +kernel)) rfl dX3_join_187 ?_
                        refine lv_aload hx hb dX3_join_190 (lv_at hl 1 rfl) ?_
                        refine wr_get (ci := 0) (C := RX1) (T := TX1) (N := 4) (v := .int (nI (lnv S (sPl S bj)))) hx hb hts in_X1 hown hT hI (hR.2.2.1 _ hv16).1 rfl 1 (by decide) (hts (.fieldLink RX3 43 "CopyRows$Row" "length" "I") (by decide +kernel)) rfl dX3_join_192 ?_
                        refine ca_V (As := [.ref (aR D (sPl S bj)), .int 0, .int (nI (lnv S (sPl S aj))), .int (nI (lnv S (sPl S bj)))]) (rest := []) (r0 := (RX1, TX1, 4)) (ci := 0) ⟨hx, hb, hml, hown, hts⟩ (cc_X1_take_n l E A _ 0 (lnv S (sPl S aj)) (lnv S (sPl S bj)) (by omega) (by omega) (by omega) (by omega) hkn hNq.2.2.2.2.2.2.1 (hR.2.2.1 _ hv16).1 hNq.2.2.2.2.2.2.2.1 (hR.num hv16 (may_isN hm_26 hkn))) (cwV 4 hts gX3_join_X1_take rfl rfl rfl (by decide +kernel) ⟨(Nat.le_of_ble_eq_true rfl), (Nat.le_of_ble_eq_true rfl)⟩) hT hI hA hS rfl hNq.2.2.2.2.2.2.1 rfl rfl hl.1 (Nat.le_of_ble_eq_true rfl) dX3_join_195 ⟨(Nat.le_of_ble_eq_true rfl), (Nat.le_of_ble_eq_true rfl)⟩ (fun r w_35 H locs hp_34 hI hS => ?_)
                        obtain ⟨rfl, rfl⟩ := hp_34
                        have hNq := hNq.fillN (f2 := (va_cpy (itv S (sPl S bj)) (va_cpy (itv S (sPl S aj)) (fun _ => 0) 0 0 (lnv S (sPl S aj))) 0 (lnv S (sPl S aj)) (lnv S (sPl S bj))))
                        have hR := hR0.sub (fun a9 x9 h9 => hNq.keeps h9)
                        refine W.eq (g2 := F0 m 198 ls []) rfl ?_
                        refine lv_aload_n hx hb dX3_join_198 rfl (lv_at hl 3 rfl) ?_
                        refine lv_iload_n hx hb dX3_join_199 rfl (lv_at hl 4 rfl) ?_
                        refine lv_aload hx hb dX3_join_200 (lv_at hl 0 rfl) ?_
                        obtain ⟨hR, hvr, hlv, haR⟩ := hR0.new (f := va_cpy (itv S (sPl S bj)) (va_cpy (itv S (sPl S aj)) (ini (kdv S (sPl S aj))) 0 0 (lnv S (sPl S aj))) 0 (lnv S (sPl S aj)) (lnv S (sPl S bj))) hW hb9.1 (NewRow.n hkn (by rw [ini_n hkn]; exact hNq)) (join_fi hW hru hrv (fun h9 k9 hk9 => (hsp.2 h9).1 k9 (by omega)) _)
                        refine W.eq (g2 := F0 m 202 ls [.ref (aR (adR D (nI (sNr S)) q qn qp) (nI (sNr S))), .int (nI pj), .ref (aH D)]) (by rw [haR]) ?_
                        refine ca_V (As := [.int (nI pj), .ref (aR (adR D (nI (sNr S)) q qn qp) (nI (sNr S)))]) (rest := []) (r0 := (RX3, TX3, 2)) (ci := 2) ⟨hx, hb, hml, hown, hts⟩ (cc_X3_put l E A _ (by omega) (Or.inl hvr) (nI_nm1 (by show sNr S < 2 ^ 31; omega)) hR) (cwV 2 hts gX3_join_X3_put rfl rfl rfl (by decide +kernel) ⟨(Nat.le_of_ble_eq_true rfl), (Nat.le_of_ble_eq_true rfl)⟩) hT hI hA hS rfl hR.1 rfl rfl hl.1 (Nat.le_of_ble_eq_true rfl) dX3_join_202 ⟨(Nat.le_of_ble_eq_true rfl), (Nat.le_of_ble_eq_true rfl)⟩ (fun r w_37 H locs hp_36 hI hS => ?_)
                        obtain ⟨rfl, hR⟩ := hp_36
                        rw [hlv]
                        refine W.eq (g2 := F0 m 205 ls [.int (nI (lnv S (sPl S aj) + lnv S (sPl S bj)))]) rfl ?_
                        exact re_i hx hb hr hlocks hT hA hS hI (PoC.of (by
                                                    unfold sp_join
                                                    try simp only [pv_nI hpj, pv_nI haj, pv_nI hbj]
                                                    rw [if_neg ((fun q => q.elim ho_3 (fun q => q.elim ho_6 ho_9))), if_neg ((fun q => q.elim ez10 ez16)), if_neg ((fun q => q.elim c_19 c_22)), if_neg (not_not_intro c_23), if_neg (fun q9 => q9.elim (not_not_intro hm_26) (fun q9 => by rw [hmv] at q9; omega))]
                                                    try rw [ix_nI (show pj < 2 ^ 31 by omega)]) hR rfl) (Nat.le_of_ble_eq_true rfl) (Nat.le_of_ble_eq_true rfl) dX3_join_205
                      · refine wr_new (ci := 0) (fs := [.int 0, .int 0, .null, .null]) (C := RX1) (T := TX1) (N := 4) hx hb hts in_X1 tyX1 tyX1_ok hown (hts (.classLink RX3 9 RX1) (by decide +kernel)) (hts (.instantiable RX1 4) (by decide +kernel)) (hts (.initialized RX1) (by decide +kernel)) hT hI hS hA rfl (fun j hj => by rcases (show j = 0 ∨ j = 1 ∨ j = 2 ∨ j = 3 by omega) with rfl | rfl | rfl | rfl <;> rfl) (Nat.le_of_ble_eq_true rfl) (Nat.le_of_ble_eq_true rfl) dX3_join_141 (fun q H hq hI hS => ?_)
                        refine W.widen (k := 1) (n := 4) (Nat.le_of_ble_eq_true rfl) (Nat.le_of_ble_eq_true rfl) ?_
                        have hR0 := hR
                        have hR := hR.sub (fun a9 x9 h9 => nw_in (y := .inr (0, [.int 0, .int 0, .null, .null])) h9 hq)
                        refine lv_dup hx hb dX3_join_144 rfl ?_
                        refine lv_aload hx hb dX3_join_145 (lv_at hl 1 rfl) ?_
                        refine wr_get (ci := 0) (C := RX1) (T := TX1) (N := 4) (v := .int (kdv S (sPl S aj))) hx hb hts in_X1 hown hT hI (hR.2.2.1 _ hv10).1 rfl 0 (by decide) (hts (.fieldLink RX3 53 "CopyRows$Row" "kind" "I") (by decide +kernel)) rfl dX3_join_147 ?_
                        refine lv_aload hx hb dX3_join_150 (lv_at hl 1 rfl) ?_
                        refine wr_get (ci := 0) (C := RX1) (T := TX1) (N := 4) (v := .int (nI (lnv S (sPl S aj)))) hx hb hts in_X1 hown hT hI (hR.2.2.1 _ hv10).1 rfl 1 (by decide) (hts (.fieldLink RX3 43 "CopyRows$Row" "length" "I") (by decide +kernel)) rfl dX3_join_152 ?_
                        refine lv_aload hx hb dX3_join_155 (lv_at hl 0 rfl) ?_
                        refine wr_get (ci := 0) (C := RX1) (T := TX1) (N := 4) (v := .int (nI (lnv S (sPl S bj)))) hx hb hts in_X1 hown hT hI (hR.2.2.1 _ hv16).1 rfl 1 (by decide) (hts (.fieldLink RX3 43 "CopyRows$Row" "length" "I") (by decide +kernel)) rfl dX3_join_157 ?_
                        refine lv_iadd hx hb dX3_join_160 ?_
                        refine W.eq (g2 := F0 m 161 ls [.int (nI ((lnv S (sPl S aj)) + (lnv S (sPl S bj)))), .int (kdv S (sPl S aj)), .ref q, .ref q]) (by rw [show (nI (lnv S (sPl S aj)) : Int32) + nI (lnv S (sPl S bj)) = nI (lnv S (sPl S aj) + lnv S (sPl S bj)) from nI_add _ _]) ?_
                        refine ca_I (As := [.int (kdv S (sPl S aj)), .int (nI ((lnv S (sPl S aj)) + (lnv S (sPl S bj))))]) (rest := [.ref q]) ⟨hx, hb, hml, hown, hts⟩ (cc_X1_init_p l E A _ (kdv S (sPl S aj)) (lnv S (sPl S aj) + lnv S (sPl S bj)) (by omega) hkn (va_up_self _ _ _)) (cwI 2 hts gX3_join_X1_init rfl rfl rfl (hts (.initialized RX1) (by decide +kernel)) (hts (.methodLink RX3 28 yX1_init) (by decide +kernel)) (hts (.instanceMethod yX1_init) (by decide +kernel)) rfl (by decide +kernel) ⟨(Nat.le_of_ble_eq_true rfl), (Nat.le_of_ble_eq_true rfl)⟩) hT hI hA hS rfl rfl hl.1 (Nat.le_of_ble_eq_true rfl) dX3_join_161 ⟨(Nat.le_of_ble_eq_true rfl), (Nat.le_of_ble_eq_true rfl)⟩ (fun r w_39 H locs hp_38 hI hS => ?_)
                        obtain ⟨rfl, hp_38⟩ := hp_38
                        obtain ⟨qn, qp, hNq⟩ := NewRow.of hq hp_38
                        have hR := hR0.sub (w' := w_39) (fun a9 x9 h9 => hNq.keeps h9)
                        refine W.eq (g2 := F0 m 164 ls [.ref q]) rfl ?_
                        refine lv_astore (lv' := [(6, .ref q), (5, .ref (aR D (sPl S bj))), (4, .ref (aR D (sPl S aj))), (0, .ref (aH D)), (1, .int (nI pj)), (2, .int (nI aj)), (3, .int (nI bj))]) hx hb dX3_join_164 hl (by decide) rfl (fun ls hl => ?_)
                        refine lv_aload hx hb dX3_join_166 (lv_at hl 0 rfl) ?_
                        refine lv_aload hx hb dX3_join_168 (lv_at hl 2 rfl) ?_
                        refine lv_iconst (v := 0) hx hb dX3_join_170 (by decide) ?_
                        refine lv_iconst (v := 0) hx hb dX3_join_171 (by decide) ?_
                        refine lv_aload hx hb dX3_join_172 (lv_at hl 2 rfl) ?_
                        refine wr_get (ci := 0) (C := RX1) (T := TX1) (N := 4) (v := .int (nI (lnv S (sPl S aj)))) hx hb hts in_X1 hown hT hI (hR.2.2.1 _ hv10).1 rfl 1 (by decide) (hts (.fieldLink RX3 43 "CopyRows$Row" "length" "I") (by decide +kernel)) rfl dX3_join_174 ?_
                        refine ca_V (As := [.ref (aR D (sPl S aj)), .int 0, .int 0, .int (nI (lnv S (sPl S aj)))]) (rest := []) (r0 := (RX1, TX1, 4)) (ci := 0) ⟨hx, hb, hml, hown, hts⟩ (cc_X1_take_p l E A _ 0 0 (lnv S (sPl S aj)) (by omega) (by omega) (by omega) (by omega) hkn hNq.2.2.2.2.2.2.1 (hR.2.2.1 _ hv10).1 hNq.2.2.2.2.2.2.2.2.1 (hR.par hv10 hkn) (fun k9 _ => hR.ok hW hrv hkn _)) (cwV 4 hts gX3_join_X1_take rfl rfl rfl (by decide +kernel) ⟨(Nat.le_of_ble_eq_true rfl), (Nat.le_of_ble_eq_true rfl)⟩) hT hI hA hS rfl hNq.2.2.2.2.2.2.1 rfl rfl hl.1 (Nat.le_of_ble_eq_true rfl) dX3_join_177 ⟨(Nat.le_of_ble_eq_true rfl), (Nat.le_of_ble_eq_true rfl)⟩ (fun r w_41 H locs hp_40 hI hS => ?_)
                        obtain ⟨rfl, rfl⟩ := hp_40
                        have hNq := hNq.fillP (g2 := (va_cpy (fun k9 => pO D (kdv S (sPl S aj)) (itv S (sPl S aj) k9)) (fun _ => none) 0 0 (lnv S (sPl S aj))))
                        have hR := hR0.sub (fun a9 x9 h9 => hNq.keeps h9)
                        refine W.eq (g2 := F0 m 180 ls []) rfl ?_
                        refine lv_aload hx hb dX3_join_180 (lv_at hl 0 rfl) ?_
                        refine lv_aload hx hb dX3_join_182 (lv_at hl 1 rfl) ?_
                        refine lv_iconst (v := 0) hx hb dX3_join_184 (by decide) ?_
                        refine lv_aload hx hb dX3_join_185 (lv_at hl 2 rfl) ?_
                        refine wr_get (ci := 0) (C := RX1) (T := TX1) (N := 4) (v := .int (nI (lnv S (sPl S aj)))) hx hb hts in_X1 hown hT hI (hR.2.2.1 _ hv10).1 rfl 1 (by decide) (hts (.fieldLink RX3 43 "CopyRows$Row" "length" "I") (by decide +kernel)) rfl dX3_join_187 ?_
                        refine lv_aload hx hb dX3_join_190 (lv_at hl 1 rfl) ?_
                        refine wr_get (ci := 0) (C := RX1) (T := TX1) (N := 4) (v := .int (nI (lnv S (sPl S bj)))) hx hb hts in_X1 hown hT hI (hR.2.2.1 _ hv16).1 rfl 1 (by decide) (hts (.fieldLink RX3 43 "CopyRows$Row" "length" "I") (by decide +kernel)) rfl dX3_join_192 ?_
                        refine ca_V (As := [.ref (aR D (sPl S bj)), .int 0, .int (nI (lnv S (sPl S aj))), .int (nI (lnv S (sPl S bj)))]) (rest := []) (r0 := (RX1, TX1, 4)) (ci := 0) ⟨hx, hb, hml, hown, hts⟩ (cc_X1_take_p l E A _ 0 (lnv S (sPl S aj)) (lnv S (sPl S bj)) (by omega) (by omega) (by omega) (by omega) hkn hNq.2.2.2.2.2.2.1 (hR.2.2.1 _ hv16).1 hNq.2.2.2.2.2.2.2.2.1 (hR.par hv16 (may_notN hm_26 hkn)) (fun k9 _ => hR.ok hW hru (may_notN hm_26 hkn) _)) (cwV 4 hts gX3_join_X1_take rfl rfl rfl (by decide +kernel) ⟨(Nat.le_of_ble_eq_true rfl), (Nat.le_of_ble_eq_true rfl)⟩) hT hI hA hS rfl hNq.2.2.2.2.2.2.1 rfl rfl hl.1 (Nat.le_of_ble_eq_true rfl) dX3_join_195 ⟨(Nat.le_of_ble_eq_true rfl), (Nat.le_of_ble_eq_true rfl)⟩ (fun r w_43 H locs hp_42 hI hS => ?_)
                        obtain ⟨rfl, rfl⟩ := hp_42
                        have hNq := hNq.fillP (g2 := (va_cpy (fun k9 => pO D (kdv S (sPl S bj)) (itv S (sPl S bj) k9)) (va_cpy (fun k9 => pO D (kdv S (sPl S aj)) (itv S (sPl S aj) k9)) (fun _ => none) 0 0 (lnv S (sPl S aj))) 0 (lnv S (sPl S aj)) (lnv S (sPl S bj))))
                        have hR := hR0.sub (fun a9 x9 h9 => hNq.keeps h9)
                        refine W.eq (g2 := F0 m 198 ls []) rfl ?_
                        refine lv_aload_n hx hb dX3_join_198 rfl (lv_at hl 3 rfl) ?_
                        refine lv_iload_n hx hb dX3_join_199 rfl (lv_at hl 4 rfl) ?_
                        refine lv_aload hx hb dX3_join_200 (lv_at hl 0 rfl) ?_
                        obtain ⟨hR, hvr, hlv, haR⟩ := hR0.new (f := va_cpy (itv S (sPl S bj)) (va_cpy (itv S (sPl S aj)) (ini (kdv S (sPl S aj))) 0 0 (lnv S (sPl S aj))) 0 (lnv S (sPl S aj)) (lnv S (sPl S bj))) hW hb9.1 (NewRow.p hkn (by rw [cpy_ini hkn]; exact cpy_pO (fun k9 (hk9 : k9 < lnv S (sPl S bj)) => (hsp.2 hkn).1 k9 (by omega))) hNq) (join_fi hW hru hrv (fun h9 k9 hk9 => (hsp.2 h9).1 k9 (by omega)) _)
                        refine W.eq (g2 := F0 m 202 ls [.ref (aR (adR D (nI (sNr S)) q qn qp) (nI (sNr S))), .int (nI pj), .ref (aH D)]) (by rw [haR]) ?_
                        refine ca_V (As := [.int (nI pj), .ref (aR (adR D (nI (sNr S)) q qn qp) (nI (sNr S)))]) (rest := []) (r0 := (RX3, TX3, 2)) (ci := 2) ⟨hx, hb, hml, hown, hts⟩ (cc_X3_put l E A _ (by omega) (Or.inl hvr) (nI_nm1 (by show sNr S < 2 ^ 31; omega)) hR) (cwV 2 hts gX3_join_X3_put rfl rfl rfl (by decide +kernel) ⟨(Nat.le_of_ble_eq_true rfl), (Nat.le_of_ble_eq_true rfl)⟩) hT hI hA hS rfl hR.1 rfl rfl hl.1 (Nat.le_of_ble_eq_true rfl) dX3_join_202 ⟨(Nat.le_of_ble_eq_true rfl), (Nat.le_of_ble_eq_true rfl)⟩ (fun r w_45 H locs hp_44 hI hS => ?_)
                        obtain ⟨rfl, hR⟩ := hp_44
                        rw [hlv]
                        refine W.eq (g2 := F0 m 205 ls [.int (nI (lnv S (sPl S aj) + lnv S (sPl S bj)))]) rfl ?_
                        exact re_i hx hb hr hlocks hT hA hS hI (PoC.of (by
                                                    unfold sp_join
                                                    try simp only [pv_nI hpj, pv_nI haj, pv_nI hbj]
                                                    rw [if_neg ((fun q => q.elim ho_3 (fun q => q.elim ho_6 ho_9))), if_neg ((fun q => q.elim ez10 ez16)), if_neg ((fun q => q.elim c_19 c_22)), if_neg (not_not_intro c_23), if_neg (fun q9 => q9.elim (not_not_intro hm_26) (fun q9 => by rw [hmv] at q9; omega))]
                                                    try rw [ix_nI (show pj < 2 ^ 31 by omega)]) hR rfl) (Nat.le_of_ble_eq_true rfl) (Nat.le_of_ble_eq_true rfl) dX3_join_205
                    · have c_29 : ¬ lnv S (sPl S bj) ≤ mv := fun q => c_29 ((nI_leI (a := lnv S (sPl S bj)) (b := mv) (by omega) (by omega)).mpr q)
                      refine lv_aload_n hx hb dX3_join_135 rfl (lv_at hl 2 rfl) ?_
                      refine lv_iconst (v := 2) hx hb dX3_join_136 (by decide) ?_
                      refine ca_V (As := [.int 2]) (rest := []) (r0 := (RX3, TX3, 2)) (ci := 2) ⟨hx, hb, hml, hown, hts⟩ (cc_X3_fail l E A _ 2 hR) (cwV 1 hts gX3_join_X3_fail rfl rfl rfl (by decide +kernel) ⟨(Nat.le_of_ble_eq_true rfl), (Nat.le_of_ble_eq_true rfl)⟩) hT hI hA hS rfl hR.1 rfl rfl hl.1 (Nat.le_of_ble_eq_true rfl) dX3_join_137 ⟨(Nat.le_of_ble_eq_true rfl), (Nat.le_of_ble_eq_true rfl)⟩ (fun r w_47 H locs hp_46 hI hS => ?_)
                      obtain ⟨rfl, hR⟩ := hp_46
                      refine W.eq (g2 := F0 m 140 ls [.int 0]) rfl ?_
                      exact re_i hx hb hr hlocks hT hA hS hI (PoC.of (by
                                                unfold sp_join
                                                try simp only [pv_nI hpj, pv_nI haj, pv_nI hbj]
                                                rw [if_neg ((fun q => q.elim ho_3 (fun q => q.elim ho_6 ho_9))), if_neg ((fun q => q.elim ez10 ez16)), if_neg ((fun q => q.elim c_19 c_22)), if_neg (not_not_intro c_23), if_pos (Or.inr (by rw [hmv]; omega))]) hR rfl) (Nat.le_of_ble_eq_true rfl) (Nat.le_of_ble_eq_true rfl) dX3_join_140
                  · have hm_26 : ¬ mayT (kdv S (sPl S aj)) (kdv S (sPl S bj)) := hm_26
                    refine W.eq (g2 := F0 m 111 ls [.int 0]) rfl ?_
                    refine lv_if_eq (tgt := 135) hx hb dX3_join_111 (by decide) (fun _ => ?_) (fun c => absurd c (by decide))
                    refine lv_aload_n hx hb dX3_join_135 rfl (lv_at hl 2 rfl) ?_
                    refine lv_iconst (v := 2) hx hb dX3_join_136 (by decide) ?_
                    refine ca_V (As := [.int 2]) (rest := []) (r0 := (RX3, TX3, 2)) (ci := 2) ⟨hx, hb, hml, hown, hts⟩ (cc_X3_fail l E A _ 2 hR) (cwV 1 hts gX3_join_X3_fail rfl rfl rfl (by decide +kernel) ⟨(Nat.le_of_ble_eq_true rfl), (Nat.le_of_ble_eq_true rfl)⟩) hT hI hA hS rfl hR.1 rfl rfl hl.1 (Nat.le_of_ble_eq_true rfl) dX3_join_137 ⟨(Nat.le_of_ble_eq_true rfl), (Nat.le_of_ble_eq_true rfl)⟩ (fun r w_49 H locs hp_48 hI hS => ?_)
                    obtain ⟨rfl, hR⟩ := hp_48
                    refine W.eq (g2 := F0 m 140 ls [.int 0]) rfl ?_
                    exact re_i hx hb hr hlocks hT hA hS hI (PoC.of (by
                                            unfold sp_join
                                            try simp only [pv_nI hpj, pv_nI haj, pv_nI hbj]
                                            rw [if_neg ((fun q => q.elim ho_3 (fun q => q.elim ho_6 ho_9))), if_neg ((fun q => q.elim ez10 ez16)), if_neg ((fun q => q.elim c_19 c_22)), if_neg (not_not_intro c_23), if_pos (Or.inl hm_26)]) hR rfl) (Nat.le_of_ble_eq_true rfl) (Nat.le_of_ble_eq_true rfl) dX3_join_140
                · have c_23 : ¬ (lnv S (sPl S aj)) + (lnv S (sPl S bj)) ≤ 40 := fun q => c_23 ((nI_leI (a := (lnv S (sPl S aj)) + (lnv S (sPl S bj))) (b := 40) (by omega) (by omega)).mpr q)
                  refine lv_aload_n hx hb dX3_join_98 rfl (lv_at hl 2 rfl) ?_
                  refine lv_iconst (v := 3) hx hb dX3_join_99 (by decide) ?_
                  refine ca_V (As := [.int 3]) (rest := []) (r0 := (RX3, TX3, 2)) (ci := 2) ⟨hx, hb, hml, hown, hts⟩ (cc_X3_fail l E A _ 3 hR) (cwV 1 hts gX3_join_X3_fail rfl rfl rfl (by decide +kernel) ⟨(Nat.le_of_ble_eq_true rfl), (Nat.le_of_ble_eq_true rfl)⟩) hT hI hA hS rfl hR.1 rfl rfl hl.1 (Nat.le_of_ble_eq_true rfl) dX3_join_100 ⟨(Nat.le_of_ble_eq_true rfl), (Nat.le_of_ble_eq_true rfl)⟩ (fun r w_51 H locs hp_50 hI hS => ?_)
                  obtain ⟨rfl, hR⟩ := hp_50
                  refine W.eq (g2 := F0 m 103 ls [.int 0]) rfl ?_
                  exact re_i hx hb hr hlocks hT hA hS hI (PoC.of (by
                                        unfold sp_join
                                        try simp only [pv_nI hpj, pv_nI haj, pv_nI hbj]
                                        rw [if_neg ((fun q => q.elim ho_3 (fun q => q.elim ho_6 ho_9))), if_neg ((fun q => q.elim ez10 ez16)), if_neg ((fun q => q.elim c_19 c_22)), if_pos (c_23)]) hR rfl) (Nat.le_of_ble_eq_true rfl) (Nat.le_of_ble_eq_true rfl) dX3_join_103
              · refine lv_aload_n hx hb dX3_join_76 rfl (lv_at hl 2 rfl) ?_
                refine lv_iconst (v := 5) hx hb dX3_join_77 (by decide) ?_
                refine ca_V (As := [.int 5]) (rest := []) (r0 := (RX3, TX3, 2)) (ci := 2) ⟨hx, hb, hml, hown, hts⟩ (cc_X3_fail l E A _ 5 hR) (cwV 1 hts gX3_join_X3_fail rfl rfl rfl (by decide +kernel) ⟨(Nat.le_of_ble_eq_true rfl), (Nat.le_of_ble_eq_true rfl)⟩) hT hI hA hS rfl hR.1 rfl rfl hl.1 (Nat.le_of_ble_eq_true rfl) dX3_join_78 ⟨(Nat.le_of_ble_eq_true rfl), (Nat.le_of_ble_eq_true rfl)⟩ (fun r w_53 H locs hp_52 hI hS => ?_)
                obtain ⟨rfl, hR⟩ := hp_52
                refine W.eq (g2 := F0 m 81 ls [.int 0]) rfl ?_
                exact re_i hx hb hr hlocks hT hA hS hI (PoC.of (by
                                    unfold sp_join
                                    try simp only [pv_nI hpj, pv_nI haj, pv_nI hbj]
                                    rw [if_neg ((fun q => q.elim ho_3 (fun q => q.elim ho_6 ho_9))), if_neg ((fun q => q.elim ez10 ez16)), if_pos (Or.inr (c_22))]) hR rfl) (Nat.le_of_ble_eq_true rfl) (Nat.le_of_ble_eq_true rfl) dX3_join_81
end

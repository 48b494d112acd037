section
-- ===== PART A: goes FIRST, ahead of the names: the tables' words, and 'selects' of the private methods out of them =====
/-- a private method of a class that the tables say can be made, by its rows of tables_1 -/
def lw_okq (q : MethodName × Nat) : Prop := (q.1.cls ≠ "java/lang/invoke/MethodHandle" ∧ q.1.cls ≠ "java/lang/invoke/VarHandle") ∧ Cond.instantiable q.1.cls q.2 ∈ tables_1 ∧ Cond.privateMethod q.1 ∈ tables_1 ∧ Cond.instanceMethod q.1 ∈ tables_1
theorem lw_p0 : lw_okq (⟨"DropCode", "isInRow", "(I)Z"⟩, 11) := ⟨⟨by decide +kernel, by decide +kernel⟩, List.mem_of_getElem? (i := 6) (by decide +kernel), List.mem_of_getElem? (i := 56) (by decide +kernel), List.mem_of_getElem? (i := 57) (by decide +kernel)⟩
theorem lw_p1 : lw_okq (⟨"DropCode", "setOf", "(I)I"⟩, 11) := ⟨⟨by decide +kernel, by decide +kernel⟩, List.mem_of_getElem? (i := 6) (by decide +kernel), List.mem_of_getElem? (i := 64) (by decide +kernel), List.mem_of_getElem? (i := 65) (by decide +kernel)⟩
theorem lw_p2 : lw_okq (⟨"DropCode", "degreeOf", "(I)I"⟩, 11) := ⟨⟨by decide +kernel, by decide +kernel⟩, List.mem_of_getElem? (i := 6) (by decide +kernel), List.mem_of_getElem? (i := 76) (by decide +kernel), List.mem_of_getElem? (i := 77) (by decide +kernel)⟩
theorem lw_p3 : lw_okq (⟨"DropCode", "unknownCount", "(I)I"⟩, 11) := ⟨⟨by decide +kernel, by decide +kernel⟩, List.mem_of_getElem? (i := 6) (by decide +kernel), List.mem_of_getElem? (i := 106) (by decide +kernel), List.mem_of_getElem? (i := 107) (by decide +kernel)⟩
theorem lw_p4 : lw_okq (⟨"DropCode", "unknownBits", "(I)I"⟩, 11) := ⟨⟨by decide +kernel, by decide +kernel⟩, List.mem_of_getElem? (i := 6) (by decide +kernel), List.mem_of_getElem? (i := 110) (by decide +kernel), List.mem_of_getElem? (i := 111) (by decide +kernel)⟩
theorem lw_p5 : lw_okq (⟨"DropCode", "enqueue", "(I)V"⟩, 11) := ⟨⟨by decide +kernel, by decide +kernel⟩, List.mem_of_getElem? (i := 6) (by decide +kernel), List.mem_of_getElem? (i := 114) (by decide +kernel), List.mem_of_getElem? (i := 115) (by decide +kernel)⟩
theorem lw_p6 : lw_okq (⟨"DropCode", "noteIfClash", "(I)V"⟩, 11) := ⟨⟨by decide +kernel, by decide +kernel⟩, List.mem_of_getElem? (i := 6) (by decide +kernel), List.mem_of_getElem? (i := 118) (by decide +kernel), List.mem_of_getElem? (i := 119) (by decide +kernel)⟩
theorem lw_p7 : lw_okq (⟨"DropCode", "xorOfKnown", "(I)I"⟩, 11) := ⟨⟨by decide +kernel, by decide +kernel⟩, List.mem_of_getElem? (i := 6) (by decide +kernel), List.mem_of_getElem? (i := 122) (by decide +kernel), List.mem_of_getElem? (i := 123) (by decide +kernel)⟩
theorem lw_p8 : lw_okq (⟨"DropCode", "runQueue", "()V"⟩, 11) := ⟨⟨by decide +kernel, by decide +kernel⟩, List.mem_of_getElem? (i := 6) (by decide +kernel), List.mem_of_getElem? (i := 126) (by decide +kernel), List.mem_of_getElem? (i := 127) (by decide +kernel)⟩
theorem lw_p9 : lw_okq (⟨"DropCode", "takeOut", "(I)V"⟩, 11) := ⟨⟨by decide +kernel, by decide +kernel⟩, List.mem_of_getElem? (i := 6) (by decide +kernel), List.mem_of_getElem? (i := 130) (by decide +kernel), List.mem_of_getElem? (i := 131) (by decide +kernel)⟩
theorem lw_p10 : lw_okq (⟨"DropCode", "learn", "(II)V"⟩, 11) := ⟨⟨by decide +kernel, by decide +kernel⟩, List.mem_of_getElem? (i := 6) (by decide +kernel), List.mem_of_getElem? (i := 138) (by decide +kernel), List.mem_of_getElem? (i := 139) (by decide +kernel)⟩
theorem lw_p11 : lw_okq (⟨"DropCode", "knownCount", "()I"⟩, 11) := ⟨⟨by decide +kernel, by decide +kernel⟩, List.mem_of_getElem? (i := 6) (by decide +kernel), List.mem_of_getElem? (i := 142) (by decide +kernel), List.mem_of_getElem? (i := 143) (by decide +kernel)⟩
theorem lw_p12 : lw_okq (⟨"DropCode", "enqueueOpenedBy", "(I)V"⟩, 11) := ⟨⟨by decide +kernel, by decide +kernel⟩, List.mem_of_getElem? (i := 6) (by decide +kernel), List.mem_of_getElem? (i := 146) (by decide +kernel), List.mem_of_getElem? (i := 147) (by decide +kernel)⟩
theorem lw_p13 : lw_okq (⟨"DropCode", "isKnown", "(I)Z"⟩, 11) := ⟨⟨by decide +kernel, by decide +kernel⟩, List.mem_of_getElem? (i := 6) (by decide +kernel), List.mem_of_getElem? (i := 154) (by decide +kernel), List.mem_of_getElem? (i := 155) (by decide +kernel)⟩
theorem lw_p14 : lw_okq (⟨"DropCodeModel", "draw", "(I)I"⟩, 14) := ⟨⟨by decide +kernel, by decide +kernel⟩, List.mem_of_getElem? (i := 189) (by decide +kernel), List.mem_of_getElem? (i := 247) (by decide +kernel), List.mem_of_getElem? (i := 248) (by decide +kernel)⟩
theorem lw_p15 : lw_okq (⟨"DropCodeModel", "drawn", "()I"⟩, 14) := ⟨⟨by decide +kernel, by decide +kernel⟩, List.mem_of_getElem? (i := 189) (by decide +kernel), List.mem_of_getElem? (i := 251) (by decide +kernel), List.mem_of_getElem? (i := 252) (by decide +kernel)⟩
def lw_privs_1 : List (MethodName × Nat) := [(⟨"DropCode", "isInRow", "(I)Z"⟩, 11), (⟨"DropCode", "setOf", "(I)I"⟩, 11), (⟨"DropCode", "degreeOf", "(I)I"⟩, 11), (⟨"DropCode", "unknownCount", "(I)I"⟩, 11), (⟨"DropCode", "unknownBits", "(I)I"⟩, 11), (⟨"DropCode", "enqueue", "(I)V"⟩, 11), (⟨"DropCode", "noteIfClash", "(I)V"⟩, 11), (⟨"DropCode", "xorOfKnown", "(I)I"⟩, 11), (⟨"DropCode", "runQueue", "()V"⟩, 11), (⟨"DropCode", "takeOut", "(I)V"⟩, 11), (⟨"DropCode", "learn", "(II)V"⟩, 11), (⟨"DropCode", "knownCount", "()I"⟩, 11), (⟨"DropCode", "enqueueOpenedBy", "(I)V"⟩, 11), (⟨"DropCode", "isKnown", "(I)Z"⟩, 11), (⟨"DropCodeModel", "draw", "(I)I"⟩, 14), (⟨"DropCodeModel", "drawn", "()I"⟩, 14)]
theorem lw_r1 : ∀ q ∈ lw_privs_1, lw_okq q := List.forall_mem_cons.mpr ⟨lw_p0, List.forall_mem_cons.mpr ⟨lw_p1, List.forall_mem_cons.mpr ⟨lw_p2, List.forall_mem_cons.mpr ⟨lw_p3, List.forall_mem_cons.mpr ⟨lw_p4, List.forall_mem_cons.mpr ⟨lw_p5, List.forall_mem_cons.mpr ⟨lw_p6, List.forall_mem_cons.mpr ⟨lw_p7, List.forall_mem_cons.mpr ⟨lw_p8, List.forall_mem_cons.mpr ⟨lw_p9, List.forall_mem_cons.mpr ⟨lw_p10, List.forall_mem_cons.mpr ⟨lw_p11, List.forall_mem_cons.mpr ⟨lw_p12, List.forall_mem_cons.mpr ⟨lw_p13, List.forall_mem_cons.mpr ⟨lw_p14, List.forall_mem_cons.mpr ⟨lw_p15, fun _ h => absurd h List.not_mem_nil⟩⟩⟩⟩⟩⟩⟩⟩⟩⟩⟩⟩⟩⟩⟩⟩
theorem lw_p16 : lw_okq (⟨"DropCodeModel", "isOpen", "(I)I"⟩, 14) := ⟨⟨by decide +kernel, by decide +kernel⟩, List.mem_of_getElem? (i := 189) (by decide +kernel), List.mem_of_getElem? (i := 270) (by decide +kernel), List.mem_of_getElem? (i := 271) (by decide +kernel)⟩
theorem lw_p17 : lw_okq (⟨"DropCodeModel", "await", "(I)V"⟩, 14) := ⟨⟨by decide +kernel, by decide +kernel⟩, List.mem_of_getElem? (i := 189) (by decide +kernel), List.mem_of_getElem? (i := 274) (by decide +kernel), List.mem_of_getElem? (i := 275) (by decide +kernel)⟩
theorem lw_p18 : lw_okq (⟨"DropCodeModel", "off", "(I)I"⟩, 14) := ⟨⟨by decide +kernel, by decide +kernel⟩, List.mem_of_getElem? (i := 189) (by decide +kernel), List.mem_of_getElem? (i := 278) (by decide +kernel), List.mem_of_getElem? (i := 279) (by decide +kernel)⟩
theorem lw_p19 : lw_okq (⟨"DropCodeModel", "first", "()I"⟩, 14) := ⟨⟨by decide +kernel, by decide +kernel⟩, List.mem_of_getElem? (i := 189) (by decide +kernel), List.mem_of_getElem? (i := 282) (by decide +kernel), List.mem_of_getElem? (i := 283) (by decide +kernel)⟩
theorem lw_p20 : lw_okq (⟨"DropCodeModel", "learn", "(I)V"⟩, 14) := ⟨⟨by decide +kernel, by decide +kernel⟩, List.mem_of_getElem? (i := 189) (by decide +kernel), List.mem_of_getElem? (i := 286) (by decide +kernel), List.mem_of_getElem? (i := 287) (by decide +kernel)⟩
def lw_privs_2 : List (MethodName × Nat) := [(⟨"DropCodeModel", "isOpen", "(I)I"⟩, 14), (⟨"DropCodeModel", "await", "(I)V"⟩, 14), (⟨"DropCodeModel", "off", "(I)I"⟩, 14), (⟨"DropCodeModel", "first", "()I"⟩, 14), (⟨"DropCodeModel", "learn", "(I)V"⟩, 14)]
theorem lw_r2 : ∀ q ∈ lw_privs_2, lw_okq q := List.forall_mem_cons.mpr ⟨lw_p16, List.forall_mem_cons.mpr ⟨lw_p17, List.forall_mem_cons.mpr ⟨lw_p18, List.forall_mem_cons.mpr ⟨lw_p19, List.forall_mem_cons.mpr ⟨lw_p20, fun _ h => absurd h List.not_mem_nil⟩⟩⟩⟩⟩
def lw_privs : List (MethodName × Nat) := lw_privs_1 ++ (lw_privs_2)
def lw_tbl : List Cond := k2_sels lw_privs ++ tables_1
theorem lw_privs_ok : ∀ q ∈ lw_privs, lw_okq q := by
  show ∀ q ∈ lw_privs_1 ++ (lw_privs_2), lw_okq q
  exact List.forall_mem_append.mpr ⟨lw_r1, lw_r2⟩
-- ===== end of PART A; then your names; then what follows =====
end
section
/-! ===== BEGIN words of one list among another's, by their places ===== -/
theorem goodIn_r {big : List Cond} (ws : List Cond) (ps : List Nat) (hp : ws = ps.filterMap (fun i => big[i]?)) (h : ws.all goodWord = true) : GoodIn big ws := by
  intro w hw
  have h1 := List.all_eq_true.mp h w hw
  rw [hp] at hw
  obtain ⟨i, -, hi⟩ := List.mem_filterMap.mp hw
  have hm : w ∈ big := by first | exact List.mem_of_getElem? hi | exact List.getElem?_mem hi
  exact ⟨hm, good_of_word h1⟩
theorem goodIn_app {big a b : List Cond} (ha : GoodIn big a) (hb : GoodIn big b) : GoodIn big (a ++ b) := fun w h => (List.mem_append.mp h).elim (ha w) (hb w)
theorem goodIn_ca {big a b : List Cond} {c : Cond} (ha : GoodIn big (c :: a)) (hb : GoodIn big b) : GoodIn big (c :: (a ++ b)) := fun w h => (List.mem_cons.mp h).elim (fun e => ha w (List.mem_cons.mpr (Or.inl e))) (fun h => (List.mem_append.mp h).elim (fun h => ha w (List.mem_cons.mpr (Or.inr h))) (hb w))
theorem goodIn_sub {big ws : List Cond} (hm : ∀ w ∈ ws, w ∈ big) (h : ws.all goodWord = true) : GoodIn big ws := fun w hw => ⟨hm w hw, good_of_word (List.all_eq_true.mp h w hw)⟩
/-! ===== END ===== -/

/-! ===== BEGIN printed: names, fields, word lists, decode rows ===== -/
def RX0 : String := "DropCode"
def TX0 : u_T := fun k => match k with
  | 0 => ("DropCode", "size", "I", true)
  | 1 => ("DropCode", "row", "[I", true)
  | 2 => ("DropCode", "dropSets", "[I", true)
  | 3 => ("DropCode", "dropWords", "[I", true)
  | 4 => ("DropCode", "dropCount", "I", false)
  | 5 => ("DropCode", "knownWords", "[I", true)
  | 6 => ("DropCode", "knownOrder", "[I", true)
  | 7 => ("DropCode", "knownBits", "I", false)
  | 8 => ("DropCode", "queue", "[I", true)
  | 9 => ("DropCode", "queueEnd", "I", false)
  | _ => ("DropCode", "clashCount", "I", false)
def tyX0 : Nat → FieldType := fun k => match k with
  | 0 => .int
  | 1 => .array .int
  | 2 => .array .int
  | 3 => .array .int
  | 4 => .int
  | 5 => .array .int
  | 6 => .array .int
  | 7 => .int
  | 8 => .array .int
  | 9 => .int
  | _ => .int
abbrev wsX00 : List Cond := u_ws RX0 TX0 11
theorem nmX0 : ∀ a, a < 11 → ∀ b, b < 11 → a ≠ b → (TX0 a).2.1 ≠ (TX0 b).2.1 := by decide +kernel
theorem tyX0_ok : ∀ k, k < 11 → parseFieldDescriptor (TX0 k).2.2.1 = some (tyX0 k) := by decide +kernel
abbrev cX0_init : ByteArray := prog_1_method_1_code
def yX0_init : MethodName := ⟨RX0, "<init>", "(I)V"⟩
abbrev cX0_put : ByteArray := prog_1_method_2_code
def yX0_put : MethodName := ⟨RX0, "put", "(II)I"⟩
abbrev cX0_drop : ByteArray := prog_1_method_3_code
def yX0_drop : MethodName := ⟨RX0, "drop", "(I)I"⟩
abbrev cX0_degree : ByteArray := prog_1_method_4_code
def yX0_degree : MethodName := ⟨RX0, "degree", "(I)I"⟩
abbrev cX0_set : ByteArray := prog_1_method_5_code
def yX0_set : MethodName := ⟨RX0, "set", "(I)I"⟩
abbrev cX0_receive : ByteArray := prog_1_method_6_code
def yX0_receive : MethodName := ⟨RX0, "receive", "(II)I"⟩
abbrev cX0_known : ByteArray := prog_1_method_7_code
def yX0_known : MethodName := ⟨RX0, "known", "(I)I"⟩
abbrev cX0_word : ByteArray := prog_1_method_8_code
def yX0_word : MethodName := ⟨RX0, "word", "(I)I"⟩
abbrev cX0_order : ByteArray := prog_1_method_9_code
def yX0_order : MethodName := ⟨RX0, "order", "(I)I"⟩
abbrev cX0_open : ByteArray := prog_1_method_10_code
def yX0_open : MethodName := ⟨RX0, "open", "(I)I"⟩
abbrev cX0_drops : ByteArray := prog_1_method_11_code
def yX0_drops : MethodName := ⟨RX0, "drops", "()I"⟩
abbrev cX0_count : ByteArray := prog_1_method_12_code
def yX0_count : MethodName := ⟨RX0, "count", "()I"⟩
abbrev cX0_clashes : ByteArray := prog_1_method_13_code
def yX0_clashes : MethodName := ⟨RX0, "clashes", "()I"⟩
abbrev cX0_forget : ByteArray := prog_1_method_14_code
def yX0_forget : MethodName := ⟨RX0, "forget", "()I"⟩
abbrev cX0_isInRow : ByteArray := prog_1_method_15_code
def yX0_isInRow : MethodName := ⟨RX0, "isInRow", "(I)Z"⟩
abbrev cX0_nextState : ByteArray := prog_1_method_16_code
def yX0_nextState : MethodName := ⟨RX0, "nextState", "(I)I"⟩
abbrev cX0_drawn : ByteArray := prog_1_method_17_code
def yX0_drawn : MethodName := ⟨RX0, "drawn", "(I)I"⟩
abbrev cX0_degreeOf : ByteArray := prog_1_method_18_code
def yX0_degreeOf : MethodName := ⟨RX0, "degreeOf", "(I)I"⟩
abbrev cX0_setOf : ByteArray := prog_1_method_19_code
def yX0_setOf : MethodName := ⟨RX0, "setOf", "(I)I"⟩
abbrev cX0_xorOf : ByteArray := prog_1_method_20_code
def yX0_xorOf : MethodName := ⟨RX0, "xorOf", "([II)I"⟩
abbrev cX0_hasBit : ByteArray := prog_1_method_21_code
def yX0_hasBit : MethodName := ⟨RX0, "hasBit", "(II)Z"⟩
abbrev cX0_isKnown : ByteArray := prog_1_method_22_code
def yX0_isKnown : MethodName := ⟨RX0, "isKnown", "(I)Z"⟩
abbrev cX0_knownCount : ByteArray := prog_1_method_23_code
def yX0_knownCount : MethodName := ⟨RX0, "knownCount", "()I"⟩
abbrev cX0_unknownBits : ByteArray := prog_1_method_24_code
def yX0_unknownBits : MethodName := ⟨RX0, "unknownBits", "(I)I"⟩
abbrev cX0_unknownCount : ByteArray := prog_1_method_25_code
def yX0_unknownCount : MethodName := ⟨RX0, "unknownCount", "(I)I"⟩
abbrev cX0_xorOfKnown : ByteArray := prog_1_method_26_code
def yX0_xorOfKnown : MethodName := ⟨RX0, "xorOfKnown", "(I)I"⟩
abbrev cX0_noteIfClash : ByteArray := prog_1_method_27_code
def yX0_noteIfClash : MethodName := ⟨RX0, "noteIfClash", "(I)V"⟩
abbrev cX0_enqueue : ByteArray := prog_1_method_28_code
def yX0_enqueue : MethodName := ⟨RX0, "enqueue", "(I)V"⟩
abbrev cX0_runQueue : ByteArray := prog_1_method_29_code
def yX0_runQueue : MethodName := ⟨RX0, "runQueue", "()V"⟩
abbrev cX0_takeOut : ByteArray := prog_1_method_30_code
def yX0_takeOut : MethodName := ⟨RX0, "takeOut", "(I)V"⟩
abbrev cX0_learn : ByteArray := prog_1_method_31_code
def yX0_learn : MethodName := ⟨RX0, "learn", "(II)V"⟩
abbrev cX0_enqueueOpenedBy : ByteArray := prog_1_method_32_code
def yX0_enqueueOpenedBy : MethodName := ⟨RX0, "enqueueOpenedBy", "(I)V"⟩
def RX1 : String := "DropCodeModel"
def TX1 : u_T := fun k => match k with
  | 0 => ("DropCodeModel", "words", "I", true)
  | 1 => ("DropCodeModel", "row", "[I", true)
  | 2 => ("DropCodeModel", "came", "I", false)
  | 3 => ("DropCodeModel", "seeds", "[I", true)
  | 4 => ("DropCodeModel", "values", "[I", true)
  | 5 => ("DropCodeModel", "waits", "[I", true)
  | 6 => ("DropCodeModel", "turns", "I", false)
  | 7 => ("DropCodeModel", "known", "[Z", true)
  | 8 => ("DropCodeModel", "told", "[I", true)
  | 9 => ("DropCodeModel", "order", "[I", true)
  | 10 => ("DropCodeModel", "found", "I", false)
  | 11 => ("DropCodeModel", "clashes", "I", false)
  | 12 => ("DropCodeModel", "in", "[Z", true)
  | _ => ("DropCodeModel", "state", "I", false)
def tyX1 : Nat → FieldType := fun k => match k with
  | 0 => .int
  | 1 => .array .int
  | 2 => .int
  | 3 => .array .int
  | 4 => .array .int
  | 5 => .array .int
  | 6 => .int
  | 7 => .array .boolean
  | 8 => .array .int
  | 9 => .array .int
  | 10 => .int
  | 11 => .int
  | 12 => .array .boolean
  | _ => .int
abbrev wsX10 : List Cond := u_ws RX1 TX1 14
theorem nmX1 : ∀ a, a < 14 → ∀ b, b < 14 → a ≠ b → (TX1 a).2.1 ≠ (TX1 b).2.1 := by decide +kernel
theorem tyX1_ok : ∀ k, k < 14 → parseFieldDescriptor (TX1 k).2.2.1 = some (tyX1 k) := by decide +kernel
abbrev cX1_init : ByteArray := prog_3_method_1_code
def yX1_init : MethodName := ⟨RX1, "<init>", "(I)V"⟩
abbrev cX1_drawn : ByteArray := prog_3_method_2_code
def yX1_drawn : MethodName := ⟨RX1, "drawn", "()I"⟩
abbrev cX1_draw : ByteArray := prog_3_method_3_code
def yX1_draw : MethodName := ⟨RX1, "draw", "(I)I"⟩
abbrev cX1_put : ByteArray := prog_3_method_4_code
def yX1_put : MethodName := ⟨RX1, "put", "(II)I"⟩
abbrev cX1_drop : ByteArray := prog_3_method_5_code
def yX1_drop : MethodName := ⟨RX1, "drop", "(I)I"⟩
abbrev cX1_degree : ByteArray := prog_3_method_6_code
def yX1_degree : MethodName := ⟨RX1, "degree", "(I)I"⟩
abbrev cX1_set : ByteArray := prog_3_method_7_code
def yX1_set : MethodName := ⟨RX1, "set", "(I)I"⟩
abbrev cX1_isOpen : ByteArray := prog_3_method_8_code
def yX1_isOpen : MethodName := ⟨RX1, "isOpen", "(I)I"⟩
abbrev cX1_off : ByteArray := prog_3_method_9_code
def yX1_off : MethodName := ⟨RX1, "off", "(I)I"⟩
abbrev cX1_await : ByteArray := prog_3_method_10_code
def yX1_await : MethodName := ⟨RX1, "await", "(I)V"⟩
abbrev cX1_first : ByteArray := prog_3_method_11_code
def yX1_first : MethodName := ⟨RX1, "first", "()I"⟩
abbrev cX1_learn : ByteArray := prog_3_method_12_code
def yX1_learn : MethodName := ⟨RX1, "learn", "(I)V"⟩
abbrev cX1_receive : ByteArray := prog_3_method_13_code
def yX1_receive : MethodName := ⟨RX1, "receive", "(II)I"⟩
abbrev cX1_known : ByteArray := prog_3_method_14_code
def yX1_known : MethodName := ⟨RX1, "known", "(I)I"⟩
abbrev cX1_word : ByteArray := prog_3_method_15_code
def yX1_word : MethodName := ⟨RX1, "word", "(I)I"⟩
abbrev cX1_order : ByteArray := prog_3_method_16_code
def yX1_order : MethodName := ⟨RX1, "order", "(I)I"⟩
abbrev cX1_open : ByteArray := prog_3_method_17_code
def yX1_open : MethodName := ⟨RX1, "open", "(I)I"⟩
abbrev cX1_drops : ByteArray := prog_3_method_18_code
def yX1_drops : MethodName := ⟨RX1, "drops", "()I"⟩
abbrev cX1_count : ByteArray := prog_3_method_19_code
def yX1_count : MethodName := ⟨RX1, "count", "()I"⟩
abbrev cX1_clashes : ByteArray := prog_3_method_20_code
def yX1_clashes : MethodName := ⟨RX1, "clashes", "()I"⟩
abbrev cX1_forget : ByteArray := prog_3_method_21_code
def yX1_forget : MethodName := ⟨RX1, "forget", "()I"⟩
def RJ6 : String := "java/lang/Integer"
def TJ6 : u_T := fun k => match k with
  | _ => ("", "", "", false)
def tyJ6 : Nat → FieldType := fun k => match k with
  | _ => .int
abbrev wsJ60 : List Cond := u_ws RJ6 TJ6 0
theorem nmJ6 : ∀ a, a < 0 → ∀ b, b < 0 → a ≠ b → (TJ6 a).2.1 ≠ (TJ6 b).2.1 := by decide +kernel
theorem tyJ6_ok : ∀ k, k < 0 → parseFieldDescriptor (TJ6 k).2.2.1 = some (tyJ6 k) := by decide +kernel
abbrev cJ6_numberOfTrailingZeros_0f7a4 : ByteArray := prog_4_method_48_code
def yJ6_numberOfTrailingZeros_0f7a4 : MethodName := ⟨RJ6, "numberOfTrailingZeros", "(I)I"⟩
abbrev cJ6_bitCount_0f7a4 : ByteArray := prog_4_method_49_code
def yJ6_bitCount_0f7a4 : MethodName := ⟨RJ6, "bitCount", "(I)I"⟩
def RJ9 : String := "java/lang/Math"
def TJ9 : u_T := fun k => match k with
  | _ => ("", "", "", false)
def tyJ9 : Nat → FieldType := fun k => match k with
  | _ => .int
abbrev wsJ90 : List Cond := u_ws RJ9 TJ9 0
theorem nmJ9 : ∀ a, a < 0 → ∀ b, b < 0 → a ≠ b → (TJ9 a).2.1 ≠ (TJ9 b).2.1 := by decide +kernel
theorem tyJ9_ok : ∀ k, k < 0 → parseFieldDescriptor (TJ9 k).2.2.1 = some (tyJ9 k) := by decide +kernel
abbrev cJ9_floorMod_7cf53 : ByteArray := prog_5_method_50_code
def yJ9_floorMod_7cf53 : MethodName := ⟨RJ9, "floorMod", "(II)I"⟩
def RL : String := "DropCodeLaw"
abbrev cL_cell : ByteArray := method_2_code
def yL_cell : MethodName := ⟨RL, "cell", "([II)I"⟩
abbrev cL_law : ByteArray := code
def yL_law : MethodName := ⟨RL, "law", "([I)Z"⟩
def wsJ9_floorMod_7cf53 : List Cond := .code yJ9_floorMod_7cf53 cJ9_floorMod_7cf53 3 (some .int) :: ([])
def wsX0_init : List Cond := .code yX0_init cX0_init 2 none :: ([.methodLink RX0 1 objectInit, .instanceMethod objectInit, .code objectInit ⟨#[0xb1]⟩ 1 none, .arrayClass .int, .fieldLink RX0 9 "DropCode" "dropSets" "[I", .fieldLink RX0 13 "DropCode" "dropWords" "[I", .fieldLink RX0 16 "DropCode" "dropCount" "I", .fieldLink RX0 20 "DropCode" "knownBits" "I", .fieldLink RX0 23 "DropCode" "queue" "[I", .fieldLink RX0 26 "DropCode" "queueEnd" "I", .fieldLink RX0 29 "DropCode" "clashCount" "I", .fieldLink RX0 38 "DropCode" "size" "I", .fieldLink RX0 41 "DropCode" "row" "[I", .fieldLink RX0 44 "DropCode" "knownWords" "[I", .fieldLink RX0 47 "DropCode" "knownOrder" "[I", .methodLink RX0 32 yJ9_floorMod_7cf53, .static yJ9_floorMod_7cf53, .initialized RJ9, .code yJ9_floorMod_7cf53 cJ9_floorMod_7cf53 3 (some .int)] ++ wsX00)
def wsX0_isInRow : List Cond := .code yX0_isInRow cX0_isInRow 2 (some .boolean) :: ([.fieldLink RX0 38 "DropCode" "size" "I"] ++ wsX00)
def wsX0_put : List Cond := .code yX0_put cX0_put 3 (some .int) :: ([.fieldLink RX0 41 "DropCode" "row" "[I", .methodLink RX0 50 yX0_isInRow, .instanceMethod yX0_isInRow, .selects RX0 yX0_isInRow yX0_isInRow, .initialized RX0, .code yX0_isInRow cX0_isInRow 2 (some .boolean), .fieldLink RX0 38 "DropCode" "size" "I"] ++ wsX00)
def wsX0_nextState : List Cond := .code yX0_nextState cX0_nextState 1 (some .int) :: ([.constant RX0 91 (1664525), .constant RX0 92 (1013904223)])
def wsX0_drawn : List Cond := .code yX0_drawn cX0_drawn 1 (some .int) :: ([])
def wsX0_degreeOf : List Cond := .code yX0_degreeOf cX0_degreeOf 4 (some .int) :: ([.constant RX0 93 (65536), .fieldLink RX0 38 "DropCode" "size" "I"] ++ wsX00)
def wsJ6_bitCount_0f7a4 : List Cond := .code yJ6_bitCount_0f7a4 cJ6_bitCount_0f7a4 1 (some .int) :: ([.constant RJ6 265 (1431655765), .constant RJ6 266 (858993459), .constant RJ6 267 (252645135)])
def wsX0_setOf : List Cond := .code yX0_setOf cX0_setOf 6 (some .int) :: ([.constant RX0 94 (1000000), .fieldLink RX0 38 "DropCode" "size" "I", .methodLink RX0 62 yX0_nextState, .static yX0_nextState, .initialized RX0, .code yX0_nextState cX0_nextState 1 (some .int), .constant RX0 91 (1664525), .constant RX0 92 (1013904223), .methodLink RX0 65 yX0_drawn, .static yX0_drawn, .code yX0_drawn cX0_drawn 1 (some .int), .methodLink RX0 68 yX0_degreeOf, .instanceMethod yX0_degreeOf, .selects RX0 yX0_degreeOf yX0_degreeOf, .code yX0_degreeOf cX0_degreeOf 4 (some .int), .constant RX0 93 (65536), .methodLink RX0 95 yJ6_bitCount_0f7a4, .static yJ6_bitCount_0f7a4, .initialized RJ6, .code yJ6_bitCount_0f7a4 cJ6_bitCount_0f7a4 1 (some .int), .constant RJ6 265 (1431655765), .constant RJ6 266 (858993459), .constant RJ6 267 (252645135)] ++ wsX00)
def wsX0_hasBit : List Cond := .code yX0_hasBit cX0_hasBit 2 (some .boolean) :: ([])
def wsX0_xorOf : List Cond := .code yX0_xorOf cX0_xorOf 4 (some .int) :: ([.methodLink RX0 100 yX0_hasBit, .static yX0_hasBit, .initialized RX0, .code yX0_hasBit cX0_hasBit 2 (some .boolean)])
def wsX0_drop_r1 : List Cond := [Cond.fieldLink RX0 41 "DropCode" "row" "[I", Cond.methodLink RX0 54 yX0_setOf, Cond.instanceMethod yX0_setOf, Cond.selects RX0 yX0_setOf yX0_setOf, Cond.initialized RX0, Cond.code yX0_setOf cX0_setOf 6 (some .int), Cond.constant RX0 94 (1000000), Cond.fieldLink RX0 38 "DropCode" "size" "I", Cond.methodLink RX0 62 yX0_nextState, Cond.static yX0_nextState, Cond.code yX0_nextState cX0_nextState 1 (some .int), Cond.constant RX0 91 (1664525), Cond.constant RX0 92 (1013904223), Cond.methodLink RX0 65 yX0_drawn, Cond.static yX0_drawn, Cond.code yX0_drawn cX0_drawn 1 (some .int), Cond.methodLink RX0 68 yX0_degreeOf, Cond.instanceMethod yX0_degreeOf, Cond.selects RX0 yX0_degreeOf yX0_degreeOf, Cond.code yX0_degreeOf cX0_degreeOf 4 (some .int), Cond.constant RX0 93 (65536), Cond.methodLink RX0 95 yJ6_bitCount_0f7a4, Cond.static yJ6_bitCount_0f7a4, Cond.initialized RJ6]
def wsX0_drop_r2 : List Cond := [Cond.code yJ6_bitCount_0f7a4 cJ6_bitCount_0f7a4 1 (some .int), Cond.constant RJ6 265 (1431655765), Cond.constant RJ6 266 (858993459), Cond.constant RJ6 267 (252645135), Cond.methodLink RX0 58 yX0_xorOf, Cond.static yX0_xorOf, Cond.code yX0_xorOf cX0_xorOf 4 (some .int), Cond.methodLink RX0 100 yX0_hasBit, Cond.static yX0_hasBit, Cond.code yX0_hasBit cX0_hasBit 2 (some .boolean)]
def wsX0_drop : List Cond := .code yX0_drop cX0_drop 2 (some .int) :: ((wsX0_drop_r1 ++ wsX0_drop_r2) ++ wsX00)
def wsX0_degree : List Cond := .code yX0_degree cX0_degree 2 (some .int) :: ([.methodLink RX0 62 yX0_nextState, .static yX0_nextState, .initialized RX0, .code yX0_nextState cX0_nextState 1 (some .int), .constant RX0 91 (1664525), .constant RX0 92 (1013904223), .methodLink RX0 65 yX0_drawn, .static yX0_drawn, .code yX0_drawn cX0_drawn 1 (some .int), .methodLink RX0 68 yX0_degreeOf, .instanceMethod yX0_degreeOf, .selects RX0 yX0_degreeOf yX0_degreeOf, .code yX0_degreeOf cX0_degreeOf 4 (some .int), .constant RX0 93 (65536), .fieldLink RX0 38 "DropCode" "size" "I"] ++ wsX00)
def wsX0_set_r1 : List Cond := [Cond.methodLink RX0 54 yX0_setOf, Cond.instanceMethod yX0_setOf, Cond.selects RX0 yX0_setOf yX0_setOf, Cond.initialized RX0, Cond.code yX0_setOf cX0_setOf 6 (some .int), Cond.constant RX0 94 (1000000), Cond.fieldLink RX0 38 "DropCode" "size" "I", Cond.methodLink RX0 62 yX0_nextState, Cond.static yX0_nextState, Cond.code yX0_nextState cX0_nextState 1 (some .int), Cond.constant RX0 91 (1664525), Cond.constant RX0 92 (1013904223), Cond.methodLink RX0 65 yX0_drawn, Cond.static yX0_drawn, Cond.code yX0_drawn cX0_drawn 1 (some .int), Cond.methodLink RX0 68 yX0_degreeOf, Cond.instanceMethod yX0_degreeOf, Cond.selects RX0 yX0_degreeOf yX0_degreeOf, Cond.code yX0_degreeOf cX0_degreeOf 4 (some .int), Cond.constant RX0 93 (65536), Cond.methodLink RX0 95 yJ6_bitCount_0f7a4, Cond.static yJ6_bitCount_0f7a4, Cond.initialized RJ6, Cond.code yJ6_bitCount_0f7a4 cJ6_bitCount_0f7a4 1 (some .int)]
def wsX0_set_r2 : List Cond := [Cond.constant RJ6 265 (1431655765), Cond.constant RJ6 266 (858993459), Cond.constant RJ6 267 (252645135)]
def wsX0_set : List Cond := .code yX0_set cX0_set 2 (some .int) :: ((wsX0_set_r1 ++ wsX0_set_r2) ++ wsX00)
def wsX0_unknownBits : List Cond := .code yX0_unknownBits cX0_unknownBits 2 (some .int) :: ([.fieldLink RX0 9 "DropCode" "dropSets" "[I", .fieldLink RX0 20 "DropCode" "knownBits" "I"] ++ wsX00)
def wsX0_unknownCount : List Cond := .code yX0_unknownCount cX0_unknownCount 2 (some .int) :: ([.methodLink RX0 104 yX0_unknownBits, .instanceMethod yX0_unknownBits, .selects RX0 yX0_unknownBits yX0_unknownBits, .initialized RX0, .code yX0_unknownBits cX0_unknownBits 2 (some .int), .fieldLink RX0 9 "DropCode" "dropSets" "[I", .fieldLink RX0 20 "DropCode" "knownBits" "I", .methodLink RX0 95 yJ6_bitCount_0f7a4, .static yJ6_bitCount_0f7a4, .initialized RJ6, .code yJ6_bitCount_0f7a4 cJ6_bitCount_0f7a4 1 (some .int), .constant RJ6 265 (1431655765), .constant RJ6 266 (858993459), .constant RJ6 267 (252645135)] ++ wsX00)
def wsX0_enqueue : List Cond := .code yX0_enqueue cX0_enqueue 2 none :: ([.fieldLink RX0 26 "DropCode" "queueEnd" "I", .fieldLink RX0 23 "DropCode" "queue" "[I"] ++ wsX00)
def wsX0_xorOfKnown : List Cond := .code yX0_xorOfKnown cX0_xorOfKnown 2 (some .int) :: ([.fieldLink RX0 44 "DropCode" "knownWords" "[I", .fieldLink RX0 9 "DropCode" "dropSets" "[I", .fieldLink RX0 20 "DropCode" "knownBits" "I", .methodLink RX0 58 yX0_xorOf, .static yX0_xorOf, .initialized RX0, .code yX0_xorOf cX0_xorOf 4 (some .int), .methodLink RX0 100 yX0_hasBit, .static yX0_hasBit, .code yX0_hasBit cX0_hasBit 2 (some .boolean)] ++ wsX00)
def wsX0_noteIfClash : List Cond := .code yX0_noteIfClash cX0_noteIfClash 2 none :: ([.fieldLink RX0 13 "DropCode" "dropWords" "[I", .fieldLink RX0 29 "DropCode" "clashCount" "I", .methodLink RX0 107 yX0_xorOfKnown, .instanceMethod yX0_xorOfKnown, .selects RX0 yX0_xorOfKnown yX0_xorOfKnown, .initialized RX0, .code yX0_xorOfKnown cX0_xorOfKnown 2 (some .int), .fieldLink RX0 44 "DropCode" "knownWords" "[I", .fieldLink RX0 9 "DropCode" "dropSets" "[I", .fieldLink RX0 20 "DropCode" "knownBits" "I", .methodLink RX0 58 yX0_xorOf, .static yX0_xorOf, .code yX0_xorOf cX0_xorOf 4 (some .int), .methodLink RX0 100 yX0_hasBit, .static yX0_hasBit, .code yX0_hasBit cX0_hasBit 2 (some .boolean)] ++ wsX00)
def wsJ6_numberOfTrailingZeros_0f7a4 : List Cond := .code yJ6_numberOfTrailingZeros_0f7a4 cJ6_numberOfTrailingZeros_0f7a4 2 (some .int) :: ([.constant RJ6 264 (65536)])
def wsX0_knownCount : List Cond := .code yX0_knownCount cX0_knownCount 1 (some .int) :: ([.fieldLink RX0 20 "DropCode" "knownBits" "I", .methodLink RX0 95 yJ6_bitCount_0f7a4, .static yJ6_bitCount_0f7a4, .initialized RJ6, .code yJ6_bitCount_0f7a4 cJ6_bitCount_0f7a4 1 (some .int), .constant RJ6 265 (1431655765), .constant RJ6 266 (858993459), .constant RJ6 267 (252645135)] ++ wsX00)
def wsX0_learn : List Cond := .code yX0_learn cX0_learn 3 none :: ([.fieldLink RX0 44 "DropCode" "knownWords" "[I", .fieldLink RX0 47 "DropCode" "knownOrder" "[I", .fieldLink RX0 20 "DropCode" "knownBits" "I", .methodLink RX0 84 yX0_knownCount, .instanceMethod yX0_knownCount, .selects RX0 yX0_knownCount yX0_knownCount, .initialized RX0, .code yX0_knownCount cX0_knownCount 1 (some .int), .methodLink RX0 95 yJ6_bitCount_0f7a4, .static yJ6_bitCount_0f7a4, .initialized RJ6, .code yJ6_bitCount_0f7a4 cJ6_bitCount_0f7a4 1 (some .int), .constant RJ6 265 (1431655765), .constant RJ6 266 (858993459), .constant RJ6 267 (252645135)] ++ wsX00)
def wsX0_enqueueOpenedBy_r1 : List Cond := [Cond.fieldLink RX0 16 "DropCode" "dropCount" "I", Cond.fieldLink RX0 9 "DropCode" "dropSets" "[I", Cond.methodLink RX0 100 yX0_hasBit, Cond.static yX0_hasBit, Cond.initialized RX0, Cond.code yX0_hasBit cX0_hasBit 2 (some .boolean), Cond.methodLink RX0 71 yX0_unknownCount, Cond.instanceMethod yX0_unknownCount, Cond.selects RX0 yX0_unknownCount yX0_unknownCount, Cond.code yX0_unknownCount cX0_unknownCount 2 (some .int), Cond.methodLink RX0 104 yX0_unknownBits, Cond.instanceMethod yX0_unknownBits, Cond.selects RX0 yX0_unknownBits yX0_unknownBits, Cond.code yX0_unknownBits cX0_unknownBits 2 (some .int), Cond.fieldLink RX0 20 "DropCode" "knownBits" "I", Cond.methodLink RX0 95 yJ6_bitCount_0f7a4, Cond.static yJ6_bitCount_0f7a4, Cond.initialized RJ6, Cond.code yJ6_bitCount_0f7a4 cJ6_bitCount_0f7a4 1 (some .int), Cond.constant RJ6 265 (1431655765), Cond.constant RJ6 266 (858993459), Cond.constant RJ6 267 (252645135), Cond.methodLink RX0 74 yX0_enqueue, Cond.instanceMethod yX0_enqueue]
def wsX0_enqueueOpenedBy_r2 : List Cond := [Cond.selects RX0 yX0_enqueue yX0_enqueue, Cond.code yX0_enqueue cX0_enqueue 2 none, Cond.fieldLink RX0 26 "DropCode" "queueEnd" "I", Cond.fieldLink RX0 23 "DropCode" "queue" "[I"]
def wsX0_enqueueOpenedBy : List Cond := .code yX0_enqueueOpenedBy cX0_enqueueOpenedBy 3 none :: ((wsX0_enqueueOpenedBy_r1 ++ wsX0_enqueueOpenedBy_r2) ++ wsX00)
def wsX0_takeOut_r1 : List Cond := [Cond.fieldLink RX0 13 "DropCode" "dropWords" "[I", Cond.methodLink RX0 104 yX0_unknownBits, Cond.instanceMethod yX0_unknownBits, Cond.selects RX0 yX0_unknownBits yX0_unknownBits, Cond.initialized RX0, Cond.code yX0_unknownBits cX0_unknownBits 2 (some .int), Cond.fieldLink RX0 9 "DropCode" "dropSets" "[I", Cond.fieldLink RX0 20 "DropCode" "knownBits" "I", Cond.methodLink RX0 78 yX0_noteIfClash, Cond.instanceMethod yX0_noteIfClash, Cond.selects RX0 yX0_noteIfClash yX0_noteIfClash, Cond.code yX0_noteIfClash cX0_noteIfClash 2 none, Cond.fieldLink RX0 29 "DropCode" "clashCount" "I", Cond.methodLink RX0 107 yX0_xorOfKnown, Cond.instanceMethod yX0_xorOfKnown, Cond.selects RX0 yX0_xorOfKnown yX0_xorOfKnown, Cond.code yX0_xorOfKnown cX0_xorOfKnown 2 (some .int), Cond.fieldLink RX0 44 "DropCode" "knownWords" "[I", Cond.methodLink RX0 58 yX0_xorOf, Cond.static yX0_xorOf, Cond.code yX0_xorOf cX0_xorOf 4 (some .int), Cond.methodLink RX0 100 yX0_hasBit, Cond.static yX0_hasBit, Cond.code yX0_hasBit cX0_hasBit 2 (some .boolean)]
def wsX0_takeOut_r2 : List Cond := [Cond.methodLink RX0 113 yJ6_numberOfTrailingZeros_0f7a4, Cond.static yJ6_numberOfTrailingZeros_0f7a4, Cond.initialized RJ6, Cond.code yJ6_numberOfTrailingZeros_0f7a4 cJ6_numberOfTrailingZeros_0f7a4 2 (some .int), Cond.constant RJ6 264 (65536), Cond.methodLink RX0 116 yX0_learn, Cond.instanceMethod yX0_learn, Cond.selects RX0 yX0_learn yX0_learn, Cond.code yX0_learn cX0_learn 3 none, Cond.fieldLink RX0 47 "DropCode" "knownOrder" "[I", Cond.methodLink RX0 84 yX0_knownCount, Cond.instanceMethod yX0_knownCount, Cond.selects RX0 yX0_knownCount yX0_knownCount, Cond.code yX0_knownCount cX0_knownCount 1 (some .int), Cond.methodLink RX0 95 yJ6_bitCount_0f7a4, Cond.static yJ6_bitCount_0f7a4, Cond.code yJ6_bitCount_0f7a4 cJ6_bitCount_0f7a4 1 (some .int), Cond.constant RJ6 265 (1431655765), Cond.constant RJ6 266 (858993459), Cond.constant RJ6 267 (252645135), Cond.methodLink RX0 120 yX0_enqueueOpenedBy, Cond.instanceMethod yX0_enqueueOpenedBy, Cond.selects RX0 yX0_enqueueOpenedBy yX0_enqueueOpenedBy, Cond.code yX0_enqueueOpenedBy cX0_enqueueOpenedBy 3 none]
def wsX0_takeOut_r3 : List Cond := [Cond.fieldLink RX0 16 "DropCode" "dropCount" "I", Cond.methodLink RX0 71 yX0_unknownCount, Cond.instanceMethod yX0_unknownCount, Cond.selects RX0 yX0_unknownCount yX0_unknownCount, Cond.code yX0_unknownCount cX0_unknownCount 2 (some .int), Cond.methodLink RX0 74 yX0_enqueue, Cond.instanceMethod yX0_enqueue, Cond.selects RX0 yX0_enqueue yX0_enqueue, Cond.code yX0_enqueue cX0_enqueue 2 none, Cond.fieldLink RX0 26 "DropCode" "queueEnd" "I", Cond.fieldLink RX0 23 "DropCode" "queue" "[I"]
def wsX0_takeOut : List Cond := .code yX0_takeOut cX0_takeOut 4 none :: ((wsX0_takeOut_r1 ++ (wsX0_takeOut_r2 ++ wsX0_takeOut_r3)) ++ wsX00)
def wsX0_runQueue_r1 : List Cond := [Cond.fieldLink RX0 26 "DropCode" "queueEnd" "I", Cond.fieldLink RX0 23 "DropCode" "queue" "[I", Cond.methodLink RX0 110 yX0_takeOut, Cond.instanceMethod yX0_takeOut, Cond.selects RX0 yX0_takeOut yX0_takeOut, Cond.initialized RX0, Cond.code yX0_takeOut cX0_takeOut 4 none, Cond.fieldLink RX0 13 "DropCode" "dropWords" "[I", Cond.methodLink RX0 104 yX0_unknownBits, Cond.instanceMethod yX0_unknownBits, Cond.selects RX0 yX0_unknownBits yX0_unknownBits, Cond.code yX0_unknownBits cX0_unknownBits 2 (some .int), Cond.fieldLink RX0 9 "DropCode" "dropSets" "[I", Cond.fieldLink RX0 20 "DropCode" "knownBits" "I", Cond.methodLink RX0 78 yX0_noteIfClash, Cond.instanceMethod yX0_noteIfClash, Cond.selects RX0 yX0_noteIfClash yX0_noteIfClash, Cond.code yX0_noteIfClash cX0_noteIfClash 2 none, Cond.fieldLink RX0 29 "DropCode" "clashCount" "I", Cond.methodLink RX0 107 yX0_xorOfKnown, Cond.instanceMethod yX0_xorOfKnown, Cond.selects RX0 yX0_xorOfKnown yX0_xorOfKnown, Cond.code yX0_xorOfKnown cX0_xorOfKnown 2 (some .int), Cond.fieldLink RX0 44 "DropCode" "knownWords" "[I"]
def wsX0_runQueue_r2 : List Cond := [Cond.methodLink RX0 58 yX0_xorOf, Cond.static yX0_xorOf, Cond.code yX0_xorOf cX0_xorOf 4 (some .int), Cond.methodLink RX0 100 yX0_hasBit, Cond.static yX0_hasBit, Cond.code yX0_hasBit cX0_hasBit 2 (some .boolean), Cond.methodLink RX0 113 yJ6_numberOfTrailingZeros_0f7a4, Cond.static yJ6_numberOfTrailingZeros_0f7a4, Cond.initialized RJ6, Cond.code yJ6_numberOfTrailingZeros_0f7a4 cJ6_numberOfTrailingZeros_0f7a4 2 (some .int), Cond.constant RJ6 264 (65536), Cond.methodLink RX0 116 yX0_learn, Cond.instanceMethod yX0_learn, Cond.selects RX0 yX0_learn yX0_learn, Cond.code yX0_learn cX0_learn 3 none, Cond.fieldLink RX0 47 "DropCode" "knownOrder" "[I", Cond.methodLink RX0 84 yX0_knownCount, Cond.instanceMethod yX0_knownCount, Cond.selects RX0 yX0_knownCount yX0_knownCount, Cond.code yX0_knownCount cX0_knownCount 1 (some .int), Cond.methodLink RX0 95 yJ6_bitCount_0f7a4, Cond.static yJ6_bitCount_0f7a4, Cond.code yJ6_bitCount_0f7a4 cJ6_bitCount_0f7a4 1 (some .int), Cond.constant RJ6 265 (1431655765)]
def wsX0_runQueue_r3 : List Cond := [Cond.constant RJ6 266 (858993459), Cond.constant RJ6 267 (252645135), Cond.methodLink RX0 120 yX0_enqueueOpenedBy, Cond.instanceMethod yX0_enqueueOpenedBy, Cond.selects RX0 yX0_enqueueOpenedBy yX0_enqueueOpenedBy, Cond.code yX0_enqueueOpenedBy cX0_enqueueOpenedBy 3 none, Cond.fieldLink RX0 16 "DropCode" "dropCount" "I", Cond.methodLink RX0 71 yX0_unknownCount, Cond.instanceMethod yX0_unknownCount, Cond.selects RX0 yX0_unknownCount yX0_unknownCount, Cond.code yX0_unknownCount cX0_unknownCount 2 (some .int), Cond.methodLink RX0 74 yX0_enqueue, Cond.instanceMethod yX0_enqueue, Cond.selects RX0 yX0_enqueue yX0_enqueue, Cond.code yX0_enqueue cX0_enqueue 2 none]
def wsX0_runQueue : List Cond := .code yX0_runQueue cX0_runQueue 2 none :: ((wsX0_runQueue_r1 ++ (wsX0_runQueue_r2 ++ wsX0_runQueue_r3)) ++ wsX00)
def wsX0_receive_r1 : List Cond := [Cond.fieldLink RX0 16 "DropCode" "dropCount" "I", Cond.fieldLink RX0 9 "DropCode" "dropSets" "[I", Cond.fieldLink RX0 13 "DropCode" "dropWords" "[I", Cond.fieldLink RX0 26 "DropCode" "queueEnd" "I", Cond.methodLink RX0 54 yX0_setOf, Cond.instanceMethod yX0_setOf, Cond.selects RX0 yX0_setOf yX0_setOf, Cond.initialized RX0, Cond.code yX0_setOf cX0_setOf 6 (some .int), Cond.constant RX0 94 (1000000), Cond.fieldLink RX0 38 "DropCode" "size" "I", Cond.methodLink RX0 62 yX0_nextState, Cond.static yX0_nextState, Cond.code yX0_nextState cX0_nextState 1 (some .int), Cond.constant RX0 91 (1664525), Cond.constant RX0 92 (1013904223), Cond.methodLink RX0 65 yX0_drawn, Cond.static yX0_drawn, Cond.code yX0_drawn cX0_drawn 1 (some .int), Cond.methodLink RX0 68 yX0_degreeOf, Cond.instanceMethod yX0_degreeOf, Cond.selects RX0 yX0_degreeOf yX0_degreeOf, Cond.code yX0_degreeOf cX0_degreeOf 4 (some .int), Cond.constant RX0 93 (65536)]
def wsX0_receive_r2 : List Cond := [Cond.methodLink RX0 95 yJ6_bitCount_0f7a4, Cond.static yJ6_bitCount_0f7a4, Cond.initialized RJ6, Cond.code yJ6_bitCount_0f7a4 cJ6_bitCount_0f7a4 1 (some .int), Cond.constant RJ6 265 (1431655765), Cond.constant RJ6 266 (858993459), Cond.constant RJ6 267 (252645135), Cond.methodLink RX0 71 yX0_unknownCount, Cond.instanceMethod yX0_unknownCount, Cond.selects RX0 yX0_unknownCount yX0_unknownCount, Cond.code yX0_unknownCount cX0_unknownCount 2 (some .int), Cond.methodLink RX0 104 yX0_unknownBits, Cond.instanceMethod yX0_unknownBits, Cond.selects RX0 yX0_unknownBits yX0_unknownBits, Cond.code yX0_unknownBits cX0_unknownBits 2 (some .int), Cond.fieldLink RX0 20 "DropCode" "knownBits" "I", Cond.methodLink RX0 74 yX0_enqueue, Cond.instanceMethod yX0_enqueue, Cond.selects RX0 yX0_enqueue yX0_enqueue, Cond.code yX0_enqueue cX0_enqueue 2 none, Cond.fieldLink RX0 23 "DropCode" "queue" "[I", Cond.methodLink RX0 78 yX0_noteIfClash, Cond.instanceMethod yX0_noteIfClash, Cond.selects RX0 yX0_noteIfClash yX0_noteIfClash]
def wsX0_receive_r3 : List Cond := [Cond.code yX0_noteIfClash cX0_noteIfClash 2 none, Cond.fieldLink RX0 29 "DropCode" "clashCount" "I", Cond.methodLink RX0 107 yX0_xorOfKnown, Cond.instanceMethod yX0_xorOfKnown, Cond.selects RX0 yX0_xorOfKnown yX0_xorOfKnown, Cond.code yX0_xorOfKnown cX0_xorOfKnown 2 (some .int), Cond.fieldLink RX0 44 "DropCode" "knownWords" "[I", Cond.methodLink RX0 58 yX0_xorOf, Cond.static yX0_xorOf, Cond.code yX0_xorOf cX0_xorOf 4 (some .int), Cond.methodLink RX0 100 yX0_hasBit, Cond.static yX0_hasBit, Cond.code yX0_hasBit cX0_hasBit 2 (some .boolean), Cond.methodLink RX0 81 yX0_runQueue, Cond.instanceMethod yX0_runQueue, Cond.selects RX0 yX0_runQueue yX0_runQueue, Cond.code yX0_runQueue cX0_runQueue 2 none, Cond.methodLink RX0 110 yX0_takeOut, Cond.instanceMethod yX0_takeOut, Cond.selects RX0 yX0_takeOut yX0_takeOut, Cond.code yX0_takeOut cX0_takeOut 4 none, Cond.methodLink RX0 113 yJ6_numberOfTrailingZeros_0f7a4, Cond.static yJ6_numberOfTrailingZeros_0f7a4, Cond.code yJ6_numberOfTrailingZeros_0f7a4 cJ6_numberOfTrailingZeros_0f7a4 2 (some .int)]
def wsX0_receive_r4 : List Cond := [Cond.constant RJ6 264 (65536), Cond.methodLink RX0 116 yX0_learn, Cond.instanceMethod yX0_learn, Cond.selects RX0 yX0_learn yX0_learn, Cond.code yX0_learn cX0_learn 3 none, Cond.fieldLink RX0 47 "DropCode" "knownOrder" "[I", Cond.methodLink RX0 84 yX0_knownCount, Cond.instanceMethod yX0_knownCount, Cond.selects RX0 yX0_knownCount yX0_knownCount, Cond.code yX0_knownCount cX0_knownCount 1 (some .int), Cond.methodLink RX0 120 yX0_enqueueOpenedBy, Cond.instanceMethod yX0_enqueueOpenedBy, Cond.selects RX0 yX0_enqueueOpenedBy yX0_enqueueOpenedBy, Cond.code yX0_enqueueOpenedBy cX0_enqueueOpenedBy 3 none]
def wsX0_receive : List Cond := .code yX0_receive cX0_receive 5 (some .int) :: ((wsX0_receive_r1 ++ (wsX0_receive_r2 ++ (wsX0_receive_r3 ++ wsX0_receive_r4))) ++ wsX00)
def wsX0_isKnown : List Cond := .code yX0_isKnown cX0_isKnown 2 (some .boolean) :: ([.fieldLink RX0 20 "DropCode" "knownBits" "I", .methodLink RX0 100 yX0_hasBit, .static yX0_hasBit, .initialized RX0, .code yX0_hasBit cX0_hasBit 2 (some .boolean)] ++ wsX00)
def wsX0_known : List Cond := .code yX0_known cX0_known 2 (some .int) :: ([.methodLink RX0 50 yX0_isInRow, .instanceMethod yX0_isInRow, .selects RX0 yX0_isInRow yX0_isInRow, .initialized RX0, .code yX0_isInRow cX0_isInRow 2 (some .boolean), .fieldLink RX0 38 "DropCode" "size" "I", .methodLink RX0 88 yX0_isKnown, .instanceMethod yX0_isKnown, .selects RX0 yX0_isKnown yX0_isKnown, .code yX0_isKnown cX0_isKnown 2 (some .boolean), .fieldLink RX0 20 "DropCode" "knownBits" "I", .methodLink RX0 100 yX0_hasBit, .static yX0_hasBit, .code yX0_hasBit cX0_hasBit 2 (some .boolean)] ++ wsX00)
def wsX0_word : List Cond := .code yX0_word cX0_word 2 (some .int) :: ([.fieldLink RX0 44 "DropCode" "knownWords" "[I", .methodLink RX0 50 yX0_isInRow, .instanceMethod yX0_isInRow, .selects RX0 yX0_isInRow yX0_isInRow, .initialized RX0, .code yX0_isInRow cX0_isInRow 2 (some .boolean), .fieldLink RX0 38 "DropCode" "size" "I", .methodLink RX0 88 yX0_isKnown, .instanceMethod yX0_isKnown, .selects RX0 yX0_isKnown yX0_isKnown, .code yX0_isKnown cX0_isKnown 2 (some .boolean), .fieldLink RX0 20 "DropCode" "knownBits" "I", .methodLink RX0 100 yX0_hasBit, .static yX0_hasBit, .code yX0_hasBit cX0_hasBit 2 (some .boolean)] ++ wsX00)
def wsX0_order : List Cond := .code yX0_order cX0_order 2 (some .int) :: ([.fieldLink RX0 47 "DropCode" "knownOrder" "[I", .methodLink RX0 84 yX0_knownCount, .instanceMethod yX0_knownCount, .selects RX0 yX0_knownCount yX0_knownCount, .initialized RX0, .code yX0_knownCount cX0_knownCount 1 (some .int), .fieldLink RX0 20 "DropCode" "knownBits" "I", .methodLink RX0 95 yJ6_bitCount_0f7a4, .static yJ6_bitCount_0f7a4, .initialized RJ6, .code yJ6_bitCount_0f7a4 cJ6_bitCount_0f7a4 1 (some .int), .constant RJ6 265 (1431655765), .constant RJ6 266 (858993459), .constant RJ6 267 (252645135)] ++ wsX00)
def wsX0_open : List Cond := .code yX0_open cX0_open 2 (some .int) :: ([.fieldLink RX0 16 "DropCode" "dropCount" "I", .methodLink RX0 71 yX0_unknownCount, .instanceMethod yX0_unknownCount, .selects RX0 yX0_unknownCount yX0_unknownCount, .initialized RX0, .code yX0_unknownCount cX0_unknownCount 2 (some .int), .methodLink RX0 104 yX0_unknownBits, .instanceMethod yX0_unknownBits, .selects RX0 yX0_unknownBits yX0_unknownBits, .code yX0_unknownBits cX0_unknownBits 2 (some .int), .fieldLink RX0 9 "DropCode" "dropSets" "[I", .fieldLink RX0 20 "DropCode" "knownBits" "I", .methodLink RX0 95 yJ6_bitCount_0f7a4, .static yJ6_bitCount_0f7a4, .initialized RJ6, .code yJ6_bitCount_0f7a4 cJ6_bitCount_0f7a4 1 (some .int), .constant RJ6 265 (1431655765), .constant RJ6 266 (858993459), .constant RJ6 267 (252645135)] ++ wsX00)
def wsX0_drops : List Cond := .code yX0_drops cX0_drops 1 (some .int) :: ([.fieldLink RX0 16 "DropCode" "dropCount" "I"] ++ wsX00)
def wsX0_count : List Cond := .code yX0_count cX0_count 1 (some .int) :: ([.methodLink RX0 84 yX0_knownCount, .instanceMethod yX0_knownCount, .selects RX0 yX0_knownCount yX0_knownCount, .initialized RX0, .code yX0_knownCount cX0_knownCount 1 (some .int), .fieldLink RX0 20 "DropCode" "knownBits" "I", .methodLink RX0 95 yJ6_bitCount_0f7a4, .static yJ6_bitCount_0f7a4, .initialized RJ6, .code yJ6_bitCount_0f7a4 cJ6_bitCount_0f7a4 1 (some .int), .constant RJ6 265 (1431655765), .constant RJ6 266 (858993459), .constant RJ6 267 (252645135)] ++ wsX00)
def wsX0_clashes : List Cond := .code yX0_clashes cX0_clashes 1 (some .int) :: ([.fieldLink RX0 29 "DropCode" "clashCount" "I"] ++ wsX00)
def wsX0_forget : List Cond := .code yX0_forget cX0_forget 2 (some .int) :: ([.fieldLink RX0 16 "DropCode" "dropCount" "I", .fieldLink RX0 20 "DropCode" "knownBits" "I", .fieldLink RX0 29 "DropCode" "clashCount" "I"] ++ wsX00)
def wsX1_init : List Cond := .code yX1_init cX1_init 3 none :: ([.methodLink RX1 1 objectInit, .instanceMethod objectInit, .code objectInit ⟨#[0xb1]⟩ 1 none, .arrayClass .int, .fieldLink RX1 7 "DropCodeModel" "row" "[I", .fieldLink RX1 13 "DropCodeModel" "seeds" "[I", .fieldLink RX1 16 "DropCodeModel" "values" "[I", .fieldLink RX1 19 "DropCodeModel" "waits" "[I", .arrayClass .boolean, .fieldLink RX1 22 "DropCodeModel" "known" "[Z", .fieldLink RX1 26 "DropCodeModel" "told" "[I", .fieldLink RX1 29 "DropCodeModel" "order" "[I", .fieldLink RX1 32 "DropCodeModel" "in" "[Z", .fieldLink RX1 35 "DropCodeModel" "words" "I"] ++ wsX10)
def wsX1_drawn : List Cond := .code yX1_drawn cX1_drawn 1 (some .int) :: ([.fieldLink RX1 39 "DropCodeModel" "state" "I", .constant RX1 42 (1664525), .constant RX1 43 (1013904223)] ++ wsX10)
def wsX1_draw : List Cond := .code yX1_draw cX1_draw 7 (some .int) :: ([.fieldLink RX1 39 "DropCodeModel" "state" "I", .constant RX1 48 (65536), .fieldLink RX1 35 "DropCodeModel" "words" "I", .fieldLink RX1 32 "DropCodeModel" "in" "[Z", .methodLink RX1 44 yX1_drawn, .instanceMethod yX1_drawn, .selects RX1 yX1_drawn yX1_drawn, .initialized RX1, .code yX1_drawn cX1_drawn 1 (some .int), .constant RX1 42 (1664525), .constant RX1 43 (1013904223)] ++ wsX10)
def wsX1_put : List Cond := .code yX1_put cX1_put 3 (some .int) :: ([.fieldLink RX1 35 "DropCodeModel" "words" "I", .fieldLink RX1 7 "DropCodeModel" "row" "[I"] ++ wsX10)
def wsX1_drop : List Cond := .code yX1_drop cX1_drop 5 (some .int) :: ([.fieldLink RX1 35 "DropCodeModel" "words" "I", .fieldLink RX1 32 "DropCodeModel" "in" "[Z", .fieldLink RX1 7 "DropCodeModel" "row" "[I", .methodLink RX1 49 yX1_draw, .instanceMethod yX1_draw, .selects RX1 yX1_draw yX1_draw, .initialized RX1, .code yX1_draw cX1_draw 7 (some .int), .fieldLink RX1 39 "DropCodeModel" "state" "I", .constant RX1 48 (65536), .methodLink RX1 44 yX1_drawn, .instanceMethod yX1_drawn, .selects RX1 yX1_drawn yX1_drawn, .code yX1_drawn cX1_drawn 1 (some .int), .constant RX1 42 (1664525), .constant RX1 43 (1013904223)] ++ wsX10)
def wsX1_degree : List Cond := .code yX1_degree cX1_degree 2 (some .int) :: ([.methodLink RX1 49 yX1_draw, .instanceMethod yX1_draw, .selects RX1 yX1_draw yX1_draw, .initialized RX1, .code yX1_draw cX1_draw 7 (some .int), .fieldLink RX1 39 "DropCodeModel" "state" "I", .constant RX1 48 (65536), .fieldLink RX1 35 "DropCodeModel" "words" "I", .fieldLink RX1 32 "DropCodeModel" "in" "[Z", .methodLink RX1 44 yX1_drawn, .instanceMethod yX1_drawn, .selects RX1 yX1_drawn yX1_drawn, .code yX1_drawn cX1_drawn 1 (some .int), .constant RX1 42 (1664525), .constant RX1 43 (1013904223)] ++ wsX10)
def wsX1_set : List Cond := .code yX1_set cX1_set 5 (some .int) :: ([.fieldLink RX1 35 "DropCodeModel" "words" "I", .fieldLink RX1 32 "DropCodeModel" "in" "[Z", .methodLink RX1 49 yX1_draw, .instanceMethod yX1_draw, .selects RX1 yX1_draw yX1_draw, .initialized RX1, .code yX1_draw cX1_draw 7 (some .int), .fieldLink RX1 39 "DropCodeModel" "state" "I", .constant RX1 48 (65536), .methodLink RX1 44 yX1_drawn, .instanceMethod yX1_drawn, .selects RX1 yX1_drawn yX1_drawn, .code yX1_drawn cX1_drawn 1 (some .int), .constant RX1 42 (1664525), .constant RX1 43 (1013904223)] ++ wsX10)
def wsX1_isOpen : List Cond := .code yX1_isOpen cX1_isOpen 5 (some .int) :: ([.fieldLink RX1 13 "DropCodeModel" "seeds" "[I", .fieldLink RX1 35 "DropCodeModel" "words" "I", .fieldLink RX1 32 "DropCodeModel" "in" "[Z", .fieldLink RX1 22 "DropCodeModel" "known" "[Z", .methodLink RX1 49 yX1_draw, .instanceMethod yX1_draw, .selects RX1 yX1_draw yX1_draw, .initialized RX1, .code yX1_draw cX1_draw 7 (some .int), .fieldLink RX1 39 "DropCodeModel" "state" "I", .constant RX1 48 (65536), .methodLink RX1 44 yX1_drawn, .instanceMethod yX1_drawn, .selects RX1 yX1_drawn yX1_drawn, .code yX1_drawn cX1_drawn 1 (some .int), .constant RX1 42 (1664525), .constant RX1 43 (1013904223)] ++ wsX10)
def wsX1_off : List Cond := .code yX1_off cX1_off 5 (some .int) :: ([.fieldLink RX1 13 "DropCodeModel" "seeds" "[I", .fieldLink RX1 16 "DropCodeModel" "values" "[I", .fieldLink RX1 35 "DropCodeModel" "words" "I", .fieldLink RX1 32 "DropCodeModel" "in" "[Z", .fieldLink RX1 22 "DropCodeModel" "known" "[Z", .fieldLink RX1 26 "DropCodeModel" "told" "[I", .methodLink RX1 49 yX1_draw, .instanceMethod yX1_draw, .selects RX1 yX1_draw yX1_draw, .initialized RX1, .code yX1_draw cX1_draw 7 (some .int), .fieldLink RX1 39 "DropCodeModel" "state" "I", .constant RX1 48 (65536), .methodLink RX1 44 yX1_drawn, .instanceMethod yX1_drawn, .selects RX1 yX1_drawn yX1_drawn, .code yX1_drawn cX1_drawn 1 (some .int), .constant RX1 42 (1664525), .constant RX1 43 (1013904223)] ++ wsX10)
def wsX1_await : List Cond := .code yX1_await cX1_await 2 none :: ([.fieldLink RX1 53 "DropCodeModel" "turns" "I", .fieldLink RX1 19 "DropCodeModel" "waits" "[I"] ++ wsX10)
def wsX1_first : List Cond := .code yX1_first cX1_first 3 (some .int) :: ([.fieldLink RX1 56 "DropCodeModel" "came" "I", .fieldLink RX1 19 "DropCodeModel" "waits" "[I"] ++ wsX10)
def wsX1_learn_r1 : List Cond := [Cond.fieldLink RX1 13 "DropCodeModel" "seeds" "[I", Cond.fieldLink RX1 32 "DropCodeModel" "in" "[Z", Cond.fieldLink RX1 22 "DropCodeModel" "known" "[Z", Cond.fieldLink RX1 26 "DropCodeModel" "told" "[I", Cond.fieldLink RX1 29 "DropCodeModel" "order" "[I", Cond.fieldLink RX1 62 "DropCodeModel" "found" "I", Cond.fieldLink RX1 56 "DropCodeModel" "came" "I", Cond.fieldLink RX1 19 "DropCodeModel" "waits" "[I", Cond.fieldLink RX1 72 "DropCodeModel" "clashes" "I", Cond.methodLink RX1 59 yX1_off, Cond.instanceMethod yX1_off, Cond.selects RX1 yX1_off yX1_off, Cond.initialized RX1, Cond.code yX1_off cX1_off 5 (some .int), Cond.fieldLink RX1 16 "DropCodeModel" "values" "[I", Cond.fieldLink RX1 35 "DropCodeModel" "words" "I", Cond.methodLink RX1 49 yX1_draw, Cond.instanceMethod yX1_draw, Cond.selects RX1 yX1_draw yX1_draw, Cond.code yX1_draw cX1_draw 7 (some .int), Cond.fieldLink RX1 39 "DropCodeModel" "state" "I", Cond.constant RX1 48 (65536), Cond.methodLink RX1 44 yX1_drawn, Cond.instanceMethod yX1_drawn]
def wsX1_learn_r2 : List Cond := [Cond.selects RX1 yX1_drawn yX1_drawn, Cond.code yX1_drawn cX1_drawn 1 (some .int), Cond.constant RX1 42 (1664525), Cond.constant RX1 43 (1013904223), Cond.methodLink RX1 65 yX1_isOpen, Cond.instanceMethod yX1_isOpen, Cond.selects RX1 yX1_isOpen yX1_isOpen, Cond.code yX1_isOpen cX1_isOpen 5 (some .int), Cond.methodLink RX1 68 yX1_await, Cond.instanceMethod yX1_await, Cond.selects RX1 yX1_await yX1_await, Cond.code yX1_await cX1_await 2 none, Cond.fieldLink RX1 53 "DropCodeModel" "turns" "I"]
def wsX1_learn : List Cond := .code yX1_learn cX1_learn 7 none :: ((wsX1_learn_r1 ++ wsX1_learn_r2) ++ wsX10)
def wsX1_receive_r1 : List Cond := [Cond.fieldLink RX1 56 "DropCodeModel" "came" "I", Cond.fieldLink RX1 13 "DropCodeModel" "seeds" "[I", Cond.fieldLink RX1 16 "DropCodeModel" "values" "[I", Cond.fieldLink RX1 19 "DropCodeModel" "waits" "[I", Cond.fieldLink RX1 72 "DropCodeModel" "clashes" "I", Cond.fieldLink RX1 62 "DropCodeModel" "found" "I", Cond.methodLink RX1 65 yX1_isOpen, Cond.instanceMethod yX1_isOpen, Cond.selects RX1 yX1_isOpen yX1_isOpen, Cond.initialized RX1, Cond.code yX1_isOpen cX1_isOpen 5 (some .int), Cond.fieldLink RX1 35 "DropCodeModel" "words" "I", Cond.fieldLink RX1 32 "DropCodeModel" "in" "[Z", Cond.fieldLink RX1 22 "DropCodeModel" "known" "[Z", Cond.methodLink RX1 49 yX1_draw, Cond.instanceMethod yX1_draw, Cond.selects RX1 yX1_draw yX1_draw, Cond.code yX1_draw cX1_draw 7 (some .int), Cond.fieldLink RX1 39 "DropCodeModel" "state" "I", Cond.constant RX1 48 (65536), Cond.methodLink RX1 44 yX1_drawn, Cond.instanceMethod yX1_drawn, Cond.selects RX1 yX1_drawn yX1_drawn, Cond.code yX1_drawn cX1_drawn 1 (some .int)]
def wsX1_receive_r2 : List Cond := [Cond.constant RX1 42 (1664525), Cond.constant RX1 43 (1013904223), Cond.methodLink RX1 68 yX1_await, Cond.instanceMethod yX1_await, Cond.selects RX1 yX1_await yX1_await, Cond.code yX1_await cX1_await 2 none, Cond.fieldLink RX1 53 "DropCodeModel" "turns" "I", Cond.methodLink RX1 59 yX1_off, Cond.instanceMethod yX1_off, Cond.selects RX1 yX1_off yX1_off, Cond.code yX1_off cX1_off 5 (some .int), Cond.fieldLink RX1 26 "DropCodeModel" "told" "[I", Cond.methodLink RX1 75 yX1_first, Cond.instanceMethod yX1_first, Cond.selects RX1 yX1_first yX1_first, Cond.code yX1_first cX1_first 3 (some .int), Cond.methodLink RX1 78 yX1_learn, Cond.instanceMethod yX1_learn, Cond.selects RX1 yX1_learn yX1_learn, Cond.code yX1_learn cX1_learn 7 none, Cond.fieldLink RX1 29 "DropCodeModel" "order" "[I"]
def wsX1_receive : List Cond := .code yX1_receive cX1_receive 6 (some .int) :: ((wsX1_receive_r1 ++ wsX1_receive_r2) ++ wsX10)
def wsX1_known : List Cond := .code yX1_known cX1_known 2 (some .int) :: ([.fieldLink RX1 35 "DropCodeModel" "words" "I", .fieldLink RX1 22 "DropCodeModel" "known" "[Z"] ++ wsX10)
def wsX1_word : List Cond := .code yX1_word cX1_word 2 (some .int) :: ([.fieldLink RX1 35 "DropCodeModel" "words" "I", .fieldLink RX1 22 "DropCodeModel" "known" "[Z", .fieldLink RX1 26 "DropCodeModel" "told" "[I"] ++ wsX10)
def wsX1_order : List Cond := .code yX1_order cX1_order 2 (some .int) :: ([.fieldLink RX1 62 "DropCodeModel" "found" "I", .fieldLink RX1 29 "DropCodeModel" "order" "[I"] ++ wsX10)
def wsX1_open : List Cond := .code yX1_open cX1_open 2 (some .int) :: ([.fieldLink RX1 56 "DropCodeModel" "came" "I", .methodLink RX1 65 yX1_isOpen, .instanceMethod yX1_isOpen, .selects RX1 yX1_isOpen yX1_isOpen, .initialized RX1, .code yX1_isOpen cX1_isOpen 5 (some .int), .fieldLink RX1 13 "DropCodeModel" "seeds" "[I", .fieldLink RX1 35 "DropCodeModel" "words" "I", .fieldLink RX1 32 "DropCodeModel" "in" "[Z", .fieldLink RX1 22 "DropCodeModel" "known" "[Z", .methodLink RX1 49 yX1_draw, .instanceMethod yX1_draw, .selects RX1 yX1_draw yX1_draw, .code yX1_draw cX1_draw 7 (some .int), .fieldLink RX1 39 "DropCodeModel" "state" "I", .constant RX1 48 (65536), .methodLink RX1 44 yX1_drawn, .instanceMethod yX1_drawn, .selects RX1 yX1_drawn yX1_drawn, .code yX1_drawn cX1_drawn 1 (some .int), .constant RX1 42 (1664525), .constant RX1 43 (1013904223)] ++ wsX10)
def wsX1_drops : List Cond := .code yX1_drops cX1_drops 1 (some .int) :: ([.fieldLink RX1 56 "DropCodeModel" "came" "I"] ++ wsX10)
def wsX1_count : List Cond := .code yX1_count cX1_count 1 (some .int) :: ([.fieldLink RX1 62 "DropCodeModel" "found" "I"] ++ wsX10)
def wsX1_clashes : List Cond := .code yX1_clashes cX1_clashes 1 (some .int) :: ([.fieldLink RX1 72 "DropCodeModel" "clashes" "I"] ++ wsX10)
def wsX1_forget : List Cond := .code yX1_forget cX1_forget 3 (some .int) :: ([.fieldLink RX1 56 "DropCodeModel" "came" "I", .fieldLink RX1 62 "DropCodeModel" "found" "I", .fieldLink RX1 72 "DropCodeModel" "clashes" "I", .fieldLink RX1 35 "DropCodeModel" "words" "I", .fieldLink RX1 22 "DropCodeModel" "known" "[Z"] ++ wsX10)
def wsL_cell : List Cond := .code yL_cell cL_cell 2 (some .int) :: ([])
def wsL_law_r1 : List Cond := [Cond.classLink RL 7 RX0, Cond.instantiable RX0 11, Cond.initialized RX0, Cond.classLink RL 18 RX1, Cond.instantiable RX1 14, Cond.initialized RX1, Cond.methodLink RL 9 yL_cell, Cond.static yL_cell, Cond.initialized RL, Cond.code yL_cell cL_cell 2 (some .int), Cond.methodLink RL 15 yX0_init, Cond.instanceMethod yX0_init, Cond.code yX0_init cX0_init 2 none, Cond.methodLink RX0 1 objectInit, Cond.instanceMethod objectInit, Cond.code objectInit ⟨#[0xb1]⟩ 1 none, Cond.arrayClass .int, Cond.fieldLink RX0 9 "DropCode" "dropSets" "[I", Cond.fieldLink RX0 13 "DropCode" "dropWords" "[I", Cond.fieldLink RX0 16 "DropCode" "dropCount" "I", Cond.fieldLink RX0 20 "DropCode" "knownBits" "I", Cond.fieldLink RX0 23 "DropCode" "queue" "[I", Cond.fieldLink RX0 26 "DropCode" "queueEnd" "I", Cond.fieldLink RX0 29 "DropCode" "clashCount" "I"]
def wsL_law_r2 : List Cond := [Cond.fieldLink RX0 38 "DropCode" "size" "I", Cond.fieldLink RX0 41 "DropCode" "row" "[I", Cond.fieldLink RX0 44 "DropCode" "knownWords" "[I", Cond.fieldLink RX0 47 "DropCode" "knownOrder" "[I", Cond.methodLink RX0 32 yJ9_floorMod_7cf53, Cond.static yJ9_floorMod_7cf53, Cond.initialized RJ9, Cond.code yJ9_floorMod_7cf53 cJ9_floorMod_7cf53 3 (some .int), Cond.methodLink RL 20 yX1_init, Cond.instanceMethod yX1_init, Cond.code yX1_init cX1_init 3 none, Cond.methodLink RX1 1 objectInit, Cond.fieldLink RX1 7 "DropCodeModel" "row" "[I", Cond.fieldLink RX1 13 "DropCodeModel" "seeds" "[I", Cond.fieldLink RX1 16 "DropCodeModel" "values" "[I", Cond.fieldLink RX1 19 "DropCodeModel" "waits" "[I", Cond.arrayClass .boolean, Cond.fieldLink RX1 22 "DropCodeModel" "known" "[Z", Cond.fieldLink RX1 26 "DropCodeModel" "told" "[I", Cond.fieldLink RX1 29 "DropCodeModel" "order" "[I", Cond.fieldLink RX1 32 "DropCodeModel" "in" "[Z", Cond.fieldLink RX1 35 "DropCodeModel" "words" "I", Cond.methodLink RL 21 yX0_put, Cond.instanceMethod yX0_put]
def wsL_law_r3 : List Cond := [Cond.selects RX0 yX0_put yX0_put, Cond.code yX0_put cX0_put 3 (some .int), Cond.methodLink RX0 50 yX0_isInRow, Cond.instanceMethod yX0_isInRow, Cond.selects RX0 yX0_isInRow yX0_isInRow, Cond.code yX0_isInRow cX0_isInRow 2 (some .boolean), Cond.methodLink RL 25 yX1_put, Cond.instanceMethod yX1_put, Cond.selects RX1 yX1_put yX1_put, Cond.code yX1_put cX1_put 3 (some .int), Cond.methodLink RL 26 yX0_drop, Cond.instanceMethod yX0_drop, Cond.selects RX0 yX0_drop yX0_drop, Cond.code yX0_drop cX0_drop 2 (some .int), Cond.methodLink RX0 54 yX0_setOf, Cond.instanceMethod yX0_setOf, Cond.selects RX0 yX0_setOf yX0_setOf, Cond.code yX0_setOf cX0_setOf 6 (some .int), Cond.constant RX0 94 (1000000), Cond.methodLink RX0 62 yX0_nextState, Cond.static yX0_nextState, Cond.code yX0_nextState cX0_nextState 1 (some .int), Cond.constant RX0 91 (1664525), Cond.constant RX0 92 (1013904223)]
def wsL_law_r4 : List Cond := [Cond.methodLink RX0 65 yX0_drawn, Cond.static yX0_drawn, Cond.code yX0_drawn cX0_drawn 1 (some .int), Cond.methodLink RX0 68 yX0_degreeOf, Cond.instanceMethod yX0_degreeOf, Cond.selects RX0 yX0_degreeOf yX0_degreeOf, Cond.code yX0_degreeOf cX0_degreeOf 4 (some .int), Cond.constant RX0 93 (65536), Cond.methodLink RX0 95 yJ6_bitCount_0f7a4, Cond.static yJ6_bitCount_0f7a4, Cond.initialized RJ6, Cond.code yJ6_bitCount_0f7a4 cJ6_bitCount_0f7a4 1 (some .int), Cond.constant RJ6 265 (1431655765), Cond.constant RJ6 266 (858993459), Cond.constant RJ6 267 (252645135), Cond.methodLink RX0 58 yX0_xorOf, Cond.static yX0_xorOf, Cond.code yX0_xorOf cX0_xorOf 4 (some .int), Cond.methodLink RX0 100 yX0_hasBit, Cond.static yX0_hasBit, Cond.code yX0_hasBit cX0_hasBit 2 (some .boolean), Cond.methodLink RL 30 yX1_drop, Cond.instanceMethod yX1_drop, Cond.selects RX1 yX1_drop yX1_drop]
def wsL_law_r5 : List Cond := [Cond.code yX1_drop cX1_drop 5 (some .int), Cond.methodLink RX1 49 yX1_draw, Cond.instanceMethod yX1_draw, Cond.selects RX1 yX1_draw yX1_draw, Cond.code yX1_draw cX1_draw 7 (some .int), Cond.fieldLink RX1 39 "DropCodeModel" "state" "I", Cond.constant RX1 48 (65536), Cond.methodLink RX1 44 yX1_drawn, Cond.instanceMethod yX1_drawn, Cond.selects RX1 yX1_drawn yX1_drawn, Cond.code yX1_drawn cX1_drawn 1 (some .int), Cond.constant RX1 42 (1664525), Cond.constant RX1 43 (1013904223), Cond.methodLink RL 31 yX0_degree, Cond.instanceMethod yX0_degree, Cond.selects RX0 yX0_degree yX0_degree, Cond.code yX0_degree cX0_degree 2 (some .int), Cond.methodLink RL 34 yX1_degree, Cond.instanceMethod yX1_degree, Cond.selects RX1 yX1_degree yX1_degree, Cond.code yX1_degree cX1_degree 2 (some .int), Cond.methodLink RL 35 yX0_set, Cond.instanceMethod yX0_set, Cond.selects RX0 yX0_set yX0_set]
def wsL_law_r6 : List Cond := [Cond.code yX0_set cX0_set 2 (some .int), Cond.methodLink RL 38 yX1_set, Cond.instanceMethod yX1_set, Cond.selects RX1 yX1_set yX1_set, Cond.code yX1_set cX1_set 5 (some .int), Cond.methodLink RL 39 yX0_receive, Cond.instanceMethod yX0_receive, Cond.selects RX0 yX0_receive yX0_receive, Cond.code yX0_receive cX0_receive 5 (some .int), Cond.methodLink RX0 71 yX0_unknownCount, Cond.instanceMethod yX0_unknownCount, Cond.selects RX0 yX0_unknownCount yX0_unknownCount, Cond.code yX0_unknownCount cX0_unknownCount 2 (some .int), Cond.methodLink RX0 104 yX0_unknownBits, Cond.instanceMethod yX0_unknownBits, Cond.selects RX0 yX0_unknownBits yX0_unknownBits, Cond.code yX0_unknownBits cX0_unknownBits 2 (some .int), Cond.methodLink RX0 74 yX0_enqueue, Cond.instanceMethod yX0_enqueue, Cond.selects RX0 yX0_enqueue yX0_enqueue, Cond.code yX0_enqueue cX0_enqueue 2 none, Cond.methodLink RX0 78 yX0_noteIfClash, Cond.instanceMethod yX0_noteIfClash, Cond.selects RX0 yX0_noteIfClash yX0_noteIfClash]
def wsL_law_r7 : List Cond := [Cond.code yX0_noteIfClash cX0_noteIfClash 2 none, Cond.methodLink RX0 107 yX0_xorOfKnown, Cond.instanceMethod yX0_xorOfKnown, Cond.selects RX0 yX0_xorOfKnown yX0_xorOfKnown, Cond.code yX0_xorOfKnown cX0_xorOfKnown 2 (some .int), Cond.methodLink RX0 81 yX0_runQueue, Cond.instanceMethod yX0_runQueue, Cond.selects RX0 yX0_runQueue yX0_runQueue, Cond.code yX0_runQueue cX0_runQueue 2 none, Cond.methodLink RX0 110 yX0_takeOut, Cond.instanceMethod yX0_takeOut, Cond.selects RX0 yX0_takeOut yX0_takeOut, Cond.code yX0_takeOut cX0_takeOut 4 none, Cond.methodLink RX0 113 yJ6_numberOfTrailingZeros_0f7a4, Cond.static yJ6_numberOfTrailingZeros_0f7a4, Cond.code yJ6_numberOfTrailingZeros_0f7a4 cJ6_numberOfTrailingZeros_0f7a4 2 (some .int), Cond.constant RJ6 264 (65536), Cond.methodLink RX0 116 yX0_learn, Cond.instanceMethod yX0_learn, Cond.selects RX0 yX0_learn yX0_learn, Cond.code yX0_learn cX0_learn 3 none, Cond.methodLink RX0 84 yX0_knownCount, Cond.instanceMethod yX0_knownCount, Cond.selects RX0 yX0_knownCount yX0_knownCount]
def wsL_law_r8 : List Cond := [Cond.code yX0_knownCount cX0_knownCount 1 (some .int), Cond.methodLink RX0 120 yX0_enqueueOpenedBy, Cond.instanceMethod yX0_enqueueOpenedBy, Cond.selects RX0 yX0_enqueueOpenedBy yX0_enqueueOpenedBy, Cond.code yX0_enqueueOpenedBy cX0_enqueueOpenedBy 3 none, Cond.methodLink RL 42 yX1_receive, Cond.instanceMethod yX1_receive, Cond.selects RX1 yX1_receive yX1_receive, Cond.code yX1_receive cX1_receive 6 (some .int), Cond.fieldLink RX1 56 "DropCodeModel" "came" "I", Cond.fieldLink RX1 72 "DropCodeModel" "clashes" "I", Cond.fieldLink RX1 62 "DropCodeModel" "found" "I", Cond.methodLink RX1 65 yX1_isOpen, Cond.instanceMethod yX1_isOpen, Cond.selects RX1 yX1_isOpen yX1_isOpen, Cond.code yX1_isOpen cX1_isOpen 5 (some .int), Cond.methodLink RX1 68 yX1_await, Cond.instanceMethod yX1_await, Cond.selects RX1 yX1_await yX1_await, Cond.code yX1_await cX1_await 2 none, Cond.fieldLink RX1 53 "DropCodeModel" "turns" "I", Cond.methodLink RX1 59 yX1_off, Cond.instanceMethod yX1_off, Cond.selects RX1 yX1_off yX1_off]
def wsL_law_r9 : List Cond := [Cond.code yX1_off cX1_off 5 (some .int), Cond.methodLink RX1 75 yX1_first, Cond.instanceMethod yX1_first, Cond.selects RX1 yX1_first yX1_first, Cond.code yX1_first cX1_first 3 (some .int), Cond.methodLink RX1 78 yX1_learn, Cond.instanceMethod yX1_learn, Cond.selects RX1 yX1_learn yX1_learn, Cond.code yX1_learn cX1_learn 7 none, Cond.methodLink RL 43 yX0_known, Cond.instanceMethod yX0_known, Cond.selects RX0 yX0_known yX0_known, Cond.code yX0_known cX0_known 2 (some .int), Cond.methodLink RX0 88 yX0_isKnown, Cond.instanceMethod yX0_isKnown, Cond.selects RX0 yX0_isKnown yX0_isKnown, Cond.code yX0_isKnown cX0_isKnown 2 (some .boolean), Cond.methodLink RL 46 yX1_known, Cond.instanceMethod yX1_known, Cond.selects RX1 yX1_known yX1_known, Cond.code yX1_known cX1_known 2 (some .int), Cond.methodLink RL 47 yX0_word, Cond.instanceMethod yX0_word, Cond.selects RX0 yX0_word yX0_word]
def wsL_law_r10 : List Cond := [Cond.code yX0_word cX0_word 2 (some .int), Cond.methodLink RL 50 yX1_word, Cond.instanceMethod yX1_word, Cond.selects RX1 yX1_word yX1_word, Cond.code yX1_word cX1_word 2 (some .int), Cond.methodLink RL 51 yX0_order, Cond.instanceMethod yX0_order, Cond.selects RX0 yX0_order yX0_order, Cond.code yX0_order cX0_order 2 (some .int), Cond.methodLink RL 54 yX1_order, Cond.instanceMethod yX1_order, Cond.selects RX1 yX1_order yX1_order, Cond.code yX1_order cX1_order 2 (some .int), Cond.methodLink RL 55 yX0_open, Cond.instanceMethod yX0_open, Cond.selects RX0 yX0_open yX0_open, Cond.code yX0_open cX0_open 2 (some .int), Cond.methodLink RL 58 yX1_open, Cond.instanceMethod yX1_open, Cond.selects RX1 yX1_open yX1_open, Cond.code yX1_open cX1_open 2 (some .int), Cond.methodLink RL 59 yX0_drops, Cond.instanceMethod yX0_drops, Cond.selects RX0 yX0_drops yX0_drops]
def wsL_law_r11 : List Cond := [Cond.code yX0_drops cX0_drops 1 (some .int), Cond.methodLink RL 63 yX1_drops, Cond.instanceMethod yX1_drops, Cond.selects RX1 yX1_drops yX1_drops, Cond.code yX1_drops cX1_drops 1 (some .int), Cond.methodLink RL 64 yX0_count, Cond.instanceMethod yX0_count, Cond.selects RX0 yX0_count yX0_count, Cond.code yX0_count cX0_count 1 (some .int), Cond.methodLink RL 67 yX1_count, Cond.instanceMethod yX1_count, Cond.selects RX1 yX1_count yX1_count, Cond.code yX1_count cX1_count 1 (some .int), Cond.methodLink RL 68 yX0_clashes, Cond.instanceMethod yX0_clashes, Cond.selects RX0 yX0_clashes yX0_clashes, Cond.code yX0_clashes cX0_clashes 1 (some .int), Cond.methodLink RL 71 yX1_clashes, Cond.instanceMethod yX1_clashes, Cond.selects RX1 yX1_clashes yX1_clashes, Cond.code yX1_clashes cX1_clashes 1 (some .int), Cond.methodLink RL 72 yX0_forget, Cond.instanceMethod yX0_forget, Cond.selects RX0 yX0_forget yX0_forget]
def wsL_law_r12 : List Cond := [Cond.code yX0_forget cX0_forget 2 (some .int), Cond.methodLink RL 75 yX1_forget, Cond.instanceMethod yX1_forget, Cond.selects RX1 yX1_forget yX1_forget, Cond.code yX1_forget cX1_forget 3 (some .int)]
def wsL_law : List Cond := (wsL_law_r1 ++ (wsL_law_r2 ++ (wsL_law_r3 ++ (wsL_law_r4 ++ (wsL_law_r5 ++ (wsL_law_r6 ++ (wsL_law_r7 ++ (wsL_law_r8 ++ (wsL_law_r9 ++ (wsL_law_r10 ++ (wsL_law_r11 ++ wsL_law_r12))))))))))) ++ wsX00 ++ wsX10 ++ ([] : List Cond)
set_option maxRecDepth 20000 in
theorem wsL_law_in : ∀ w ∈ wsL_law, w ∈ lw_tbl := fun w h => (goodIn_p wsL_law [208, 30, 33, 36, 213, 75, 79, 262, 83, 87, 90, 95, 99, 104, 110, 113, 266, 270, 274, 117, 281, 121, 285, 125, 129, 133, 137, 141, 145, 149, 153, 156, 161, 165, 169, 289, 293, 297, 301, 305, 309, 173, 177, 313, 181, 317, 185, 321, 189, 325, 193, 329, 197, 333, 201, 337, 205, 341] (by decide +kernel) (by decide +kernel) w h).1
theorem inlX0 : ∀ w ∈ wsX00, w ∈ wsL_law := fun _ h => List.mem_append_left _ (List.mem_append_left _ (List.mem_append_right _ h))
theorem inX0 : ∀ w ∈ wsX00, w ∈ lw_tbl := fun w h => wsL_law_in w (inlX0 w h)
theorem inlX1 : ∀ w ∈ wsX10, w ∈ wsL_law := fun _ h => List.mem_append_left _ (List.mem_append_right _ h)
theorem inX1 : ∀ w ∈ wsX10, w ∈ lw_tbl := fun w h => wsL_law_in w (inlX1 w h)
theorem inJ6 : ∀ w ∈ wsJ60, w ∈ lw_tbl := by decide +kernel
theorem inJ9 : ∀ w ∈ wsJ90, w ∈ lw_tbl := by decide +kernel
set_option maxRecDepth 20000 in
theorem ggX0_init_J9_floorMod_7cf53 : GoodIn wsX0_init wsJ9_floorMod_7cf53 := goodIn_r _ [19] (by decide +kernel) (by decide +kernel)
set_option maxRecDepth 20000 in
theorem gX0_init_J9_floorMod_7cf53 : GoodIn wsX0_init (va_wsS RX0 32 yJ9_floorMod_7cf53 wsJ9_floorMod_7cf53) := goodIn_app (goodIn_of _ (by decide +kernel)) ggX0_init_J9_floorMod_7cf53
theorem dX0_init_0 : decode cX0_init 0 = .ok (.aload_n 0, 1) := by decide +kernel
theorem dX0_init_1 : decode cX0_init 1 = .ok (.invokespecial 1, 3) := by decide +kernel
theorem dX0_init_4 : decode cX0_init 4 = .ok (.aload_n 0, 1) := by decide +kernel
theorem dX0_init_5 : decode cX0_init 5 = .ok (.bipush 60, 2) := by decide +kernel
theorem dX0_init_7 : decode cX0_init 7 = .ok (.newarray .int, 2) := by decide +kernel
theorem dX0_init_9 : decode cX0_init 9 = .ok (.putfield 9, 3) := by decide +kernel
theorem dX0_init_12 : decode cX0_init 12 = .ok (.aload_n 0, 1) := by decide +kernel
theorem dX0_init_13 : decode cX0_init 13 = .ok (.bipush 60, 2) := by decide +kernel
theorem dX0_init_15 : decode cX0_init 15 = .ok (.newarray .int, 2) := by decide +kernel
theorem dX0_init_17 : decode cX0_init 17 = .ok (.putfield 13, 3) := by decide +kernel
theorem dX0_init_20 : decode cX0_init 20 = .ok (.aload_n 0, 1) := by decide +kernel
theorem dX0_init_21 : decode cX0_init 21 = .ok (.iconst 0, 1) := by decide +kernel
theorem dX0_init_22 : decode cX0_init 22 = .ok (.putfield 16, 3) := by decide +kernel
theorem dX0_init_25 : decode cX0_init 25 = .ok (.aload_n 0, 1) := by decide +kernel
theorem dX0_init_26 : decode cX0_init 26 = .ok (.iconst 0, 1) := by decide +kernel
theorem dX0_init_27 : decode cX0_init 27 = .ok (.putfield 20, 3) := by decide +kernel
theorem dX0_init_30 : decode cX0_init 30 = .ok (.aload_n 0, 1) := by decide +kernel
theorem dX0_init_31 : decode cX0_init 31 = .ok (.bipush 60, 2) := by decide +kernel
theorem dX0_init_33 : decode cX0_init 33 = .ok (.newarray .int, 2) := by decide +kernel
theorem dX0_init_35 : decode cX0_init 35 = .ok (.putfield 23, 3) := by decide +kernel
theorem dX0_init_38 : decode cX0_init 38 = .ok (.aload_n 0, 1) := by decide +kernel
theorem dX0_init_39 : decode cX0_init 39 = .ok (.iconst 0, 1) := by decide +kernel
theorem dX0_init_40 : decode cX0_init 40 = .ok (.putfield 26, 3) := by decide +kernel
theorem dX0_init_43 : decode cX0_init 43 = .ok (.aload_n 0, 1) := by decide +kernel
theorem dX0_init_44 : decode cX0_init 44 = .ok (.iconst 0, 1) := by decide +kernel
theorem dX0_init_45 : decode cX0_init 45 = .ok (.putfield 29, 3) := by decide +kernel
theorem dX0_init_48 : decode cX0_init 48 = .ok (.aload_n 0, 1) := by decide +kernel
theorem dX0_init_49 : decode cX0_init 49 = .ok (.iload_n 1, 1) := by decide +kernel
theorem dX0_init_50 : decode cX0_init 50 = .ok (.bipush 32, 2) := by decide +kernel
theorem dX0_init_52 : decode cX0_init 52 = .ok (.invokestatic 32, 3) := by decide +kernel
theorem dX0_init_55 : decode cX0_init 55 = .ok (.iconst 1, 1) := by decide +kernel
theorem dX0_init_56 : decode cX0_init 56 = .ok (.iadd, 1) := by decide +kernel
theorem dX0_init_57 : decode cX0_init 57 = .ok (.putfield 38, 3) := by decide +kernel
theorem dX0_init_60 : decode cX0_init 60 = .ok (.aload_n 0, 1) := by decide +kernel
theorem dX0_init_61 : decode cX0_init 61 = .ok (.aload_n 0, 1) := by decide +kernel
theorem dX0_init_62 : decode cX0_init 62 = .ok (.getfield 38, 3) := by decide +kernel
theorem dX0_init_65 : decode cX0_init 65 = .ok (.newarray .int, 2) := by decide +kernel
theorem dX0_init_67 : decode cX0_init 67 = .ok (.putfield 41, 3) := by decide +kernel
theorem dX0_init_70 : decode cX0_init 70 = .ok (.aload_n 0, 1) := by decide +kernel
theorem dX0_init_71 : decode cX0_init 71 = .ok (.aload_n 0, 1) := by decide +kernel
theorem dX0_init_72 : decode cX0_init 72 = .ok (.getfield 38, 3) := by decide +kernel
theorem dX0_init_75 : decode cX0_init 75 = .ok (.newarray .int, 2) := by decide +kernel
theorem dX0_init_77 : decode cX0_init 77 = .ok (.putfield 44, 3) := by decide +kernel
theorem dX0_init_80 : decode cX0_init 80 = .ok (.aload_n 0, 1) := by decide +kernel
theorem dX0_init_81 : decode cX0_init 81 = .ok (.aload_n 0, 1) := by decide +kernel
theorem dX0_init_82 : decode cX0_init 82 = .ok (.getfield 38, 3) := by decide +kernel
theorem dX0_init_85 : decode cX0_init 85 = .ok (.newarray .int, 2) := by decide +kernel
theorem dX0_init_87 : decode cX0_init 87 = .ok (.putfield 47, 3) := by decide +kernel
theorem dX0_init_90 : decode cX0_init 90 = .ok (.return_, 1) := by decide +kernel
set_option maxRecDepth 20000 in
theorem ggX0_put_X0_isInRow : GoodIn wsX0_put wsX0_isInRow := goodIn_r _ [6, 7, 8, 9, 10, 11, 12, 13, 14, 15, 16, 17, 18] (by decide +kernel) (by decide +kernel)
set_option maxRecDepth 20000 in
theorem gX0_put_X0_isInRow : GoodIn wsX0_put (wsV RX0 50 RX0 yX0_isInRow wsX0_isInRow) := goodIn_app (goodIn_of _ (by decide +kernel)) ggX0_put_X0_isInRow
theorem dX0_put_0 : decode cX0_put 0 = .ok (.aload_n 0, 1) := by decide +kernel
theorem dX0_put_1 : decode cX0_put 1 = .ok (.iload_n 1, 1) := by decide +kernel
theorem dX0_put_2 : decode cX0_put 2 = .ok (.invokevirtual 50, 3) := by decide +kernel
theorem dX0_put_5 : decode cX0_put 5 = .ok (.ifCond .ne 5, 3) := by decide +kernel
theorem dX0_put_8 : decode cX0_put 8 = .ok (.iconst (-1), 1) := by decide +kernel
theorem dX0_put_9 : decode cX0_put 9 = .ok (.ireturn, 1) := by decide +kernel
theorem dX0_put_10 : decode cX0_put 10 = .ok (.aload_n 0, 1) := by decide +kernel
theorem dX0_put_11 : decode cX0_put 11 = .ok (.getfield 41, 3) := by decide +kernel
theorem dX0_put_14 : decode cX0_put 14 = .ok (.iload_n 1, 1) := by decide +kernel
theorem dX0_put_15 : decode cX0_put 15 = .ok (.iload_n 2, 1) := by decide +kernel
theorem dX0_put_16 : decode cX0_put 16 = .ok (.iastore, 1) := by decide +kernel
theorem dX0_put_17 : decode cX0_put 17 = .ok (.iconst 1, 1) := by decide +kernel
theorem dX0_put_18 : decode cX0_put 18 = .ok (.ireturn, 1) := by decide +kernel
set_option maxRecDepth 20000 in
theorem ggX0_drop_X0_setOf : GoodIn wsX0_drop wsX0_setOf := goodIn_r _ [6, 7, 8, 9, 10, 5, 11, 12, 13, 14, 15, 16, 17, 18, 19, 20, 21, 22, 23, 24, 25, 26, 27, 28, 35, 36, 37, 38, 39, 40, 41, 42, 43, 44, 45] (by decide +kernel) (by decide +kernel)
set_option maxRecDepth 20000 in
theorem gX0_drop_X0_setOf : GoodIn wsX0_drop (wsV RX0 54 RX0 yX0_setOf wsX0_setOf) := goodIn_app (goodIn_of _ (by decide +kernel)) ggX0_drop_X0_setOf
set_option maxRecDepth 20000 in
theorem ggX0_drop_X0_xorOf : GoodIn wsX0_drop wsX0_xorOf := goodIn_r _ [31, 32, 33, 5, 34] (by decide +kernel) (by decide +kernel)
set_option maxRecDepth 20000 in
theorem gX0_drop_X0_xorOf : GoodIn wsX0_drop (va_wsS RX0 58 yX0_xorOf wsX0_xorOf) := goodIn_app (goodIn_of _ (by decide +kernel)) ggX0_drop_X0_xorOf
theorem dX0_drop_0 : decode cX0_drop 0 = .ok (.aload_n 0, 1) := by decide +kernel
theorem dX0_drop_1 : decode cX0_drop 1 = .ok (.getfield 41, 3) := by decide +kernel
theorem dX0_drop_4 : decode cX0_drop 4 = .ok (.aload_n 0, 1) := by decide +kernel
theorem dX0_drop_5 : decode cX0_drop 5 = .ok (.iload_n 1, 1) := by decide +kernel
theorem dX0_drop_6 : decode cX0_drop 6 = .ok (.invokevirtual 54, 3) := by decide +kernel
theorem dX0_drop_9 : decode cX0_drop 9 = .ok (.invokestatic 58, 3) := by decide +kernel
theorem dX0_drop_12 : decode cX0_drop 12 = .ok (.ireturn, 1) := by decide +kernel
set_option maxRecDepth 20000 in
theorem ggX0_degree_X0_nextState : GoodIn wsX0_degree wsX0_nextState := goodIn_r _ [4, 5, 6] (by decide +kernel) (by decide +kernel)
set_option maxRecDepth 20000 in
theorem gX0_degree_X0_nextState : GoodIn wsX0_degree (va_wsS RX0 62 yX0_nextState wsX0_nextState) := goodIn_app (goodIn_of _ (by decide +kernel)) ggX0_degree_X0_nextState
set_option maxRecDepth 20000 in
theorem ggX0_degree_X0_drawn : GoodIn wsX0_degree wsX0_drawn := goodIn_r _ [9] (by decide +kernel) (by decide +kernel)
set_option maxRecDepth 20000 in
theorem gX0_degree_X0_drawn : GoodIn wsX0_degree (va_wsS RX0 65 yX0_drawn wsX0_drawn) := goodIn_app (goodIn_of _ (by decide +kernel)) ggX0_degree_X0_drawn
set_option maxRecDepth 20000 in
theorem ggX0_degree_X0_degreeOf : GoodIn wsX0_degree wsX0_degreeOf := goodIn_r _ [13, 14, 15, 16, 17, 18, 19, 20, 21, 22, 23, 24, 25, 26] (by decide +kernel) (by decide +kernel)
set_option maxRecDepth 20000 in
theorem gX0_degree_X0_degreeOf : GoodIn wsX0_degree (wsV RX0 68 RX0 yX0_degreeOf wsX0_degreeOf) := goodIn_app (goodIn_of _ (by decide +kernel)) ggX0_degree_X0_degreeOf
theorem dX0_degree_0 : decode cX0_degree 0 = .ok (.aload_n 0, 1) := by decide +kernel
theorem dX0_degree_1 : decode cX0_degree 1 = .ok (.iload_n 1, 1) := by decide +kernel
theorem dX0_degree_2 : decode cX0_degree 2 = .ok (.invokestatic 62, 3) := by decide +kernel
theorem dX0_degree_5 : decode cX0_degree 5 = .ok (.invokestatic 65, 3) := by decide +kernel
theorem dX0_degree_8 : decode cX0_degree 8 = .ok (.invokevirtual 68, 3) := by decide +kernel
theorem dX0_degree_11 : decode cX0_degree 11 = .ok (.ireturn, 1) := by decide +kernel
set_option maxRecDepth 20000 in
theorem ggX0_set_X0_setOf : GoodIn wsX0_set wsX0_setOf := goodIn_r _ [5, 6, 7, 8, 9, 4, 10, 11, 12, 13, 14, 15, 16, 17, 18, 19, 20, 21, 22, 23, 24, 25, 26, 27, 28, 29, 30, 31, 32, 33, 34, 35, 36, 37, 38] (by decide +kernel) (by decide +kernel)
set_option maxRecDepth 20000 in
theorem gX0_set_X0_setOf : GoodIn wsX0_set (wsV RX0 54 RX0 yX0_setOf wsX0_setOf) := goodIn_app (goodIn_of _ (by decide +kernel)) ggX0_set_X0_setOf
theorem dX0_set_0 : decode cX0_set 0 = .ok (.aload_n 0, 1) := by decide +kernel
theorem dX0_set_1 : decode cX0_set 1 = .ok (.iload_n 1, 1) := by decide +kernel
theorem dX0_set_2 : decode cX0_set 2 = .ok (.invokevirtual 54, 3) := by decide +kernel
theorem dX0_set_5 : decode cX0_set 5 = .ok (.ireturn, 1) := by decide +kernel
set_option maxRecDepth 20000 in
theorem ggX0_receive_X0_setOf : GoodIn wsX0_receive wsX0_setOf := goodIn_r _ [9, 10, 11, 12, 13, 8, 14, 15, 16, 17, 18, 19, 20, 21, 22, 23, 24, 25, 26, 27, 28, 29, 30, 31, 87, 88, 89, 90, 91, 92, 93, 94, 95, 96, 97] (by decide +kernel) (by decide +kernel)
set_option maxRecDepth 20000 in
theorem gX0_receive_X0_setOf : GoodIn wsX0_receive (wsV RX0 54 RX0 yX0_setOf wsX0_setOf) := goodIn_app (goodIn_of _ (by decide +kernel)) ggX0_receive_X0_setOf
set_option maxRecDepth 20000 in
theorem ggX0_receive_X0_unknownCount : GoodIn wsX0_receive wsX0_unknownCount := goodIn_r _ [35, 36, 37, 38, 8, 39, 2, 40, 25, 26, 27, 28, 29, 30, 31, 87, 88, 89, 90, 91, 92, 93, 94, 95, 96, 97] (by decide +kernel) (by decide +kernel)
set_option maxRecDepth 20000 in
theorem gX0_receive_X0_unknownCount : GoodIn wsX0_receive (wsV RX0 71 RX0 yX0_unknownCount wsX0_unknownCount) := goodIn_app (goodIn_of _ (by decide +kernel)) ggX0_receive_X0_unknownCount
set_option maxRecDepth 20000 in
theorem ggX0_receive_X0_enqueue : GoodIn wsX0_receive wsX0_enqueue := goodIn_r _ [44, 4, 45, 87, 88, 89, 90, 91, 92, 93, 94, 95, 96, 97] (by decide +kernel) (by decide +kernel)
set_option maxRecDepth 20000 in
theorem gX0_receive_X0_enqueue : GoodIn wsX0_receive (wsV RX0 74 RX0 yX0_enqueue wsX0_enqueue) := goodIn_app (goodIn_of _ (by decide +kernel)) ggX0_receive_X0_enqueue
set_option maxRecDepth 20000 in
theorem ggX0_receive_X0_noteIfClash : GoodIn wsX0_receive wsX0_noteIfClash := goodIn_r _ [49, 3, 50, 51, 52, 53, 8, 54, 55, 2, 40, 56, 57, 58, 59, 60, 61, 87, 88, 89, 90, 91, 92, 93, 94, 95, 96, 97] (by decide +kernel) (by decide +kernel)
set_option maxRecDepth 20000 in
theorem gX0_receive_X0_noteIfClash : GoodIn wsX0_receive (wsV RX0 78 RX0 yX0_noteIfClash wsX0_noteIfClash) := goodIn_app (goodIn_of _ (by decide +kernel)) ggX0_receive_X0_noteIfClash
set_option maxRecDepth 20000 in
theorem ggX0_receive_X0_runQueue : GoodIn wsX0_receive wsX0_runQueue := goodIn_r _ [65, 4, 45, 66, 67, 68, 8, 69, 3, 36, 37, 38, 39, 2, 40, 46, 47, 48, 49, 50, 51, 52, 53, 54, 55, 56, 57, 58, 59, 60, 61, 70, 71, 27, 72, 73, 74, 75, 76, 77, 78, 79, 80, 81, 82, 25, 26, 28, 29, 30, 31, 83, 84, 85, 86, 1, 32, 33, 34, 35, 41, 42, 43, 44, 87, 88, 89, 90, 91, 92, 93, 94, 95, 96, 97] (by decide +kernel) (by decide +kernel)
set_option maxRecDepth 20000 in
theorem gX0_receive_X0_runQueue : GoodIn wsX0_receive (wsV RX0 81 RX0 yX0_runQueue wsX0_runQueue) := goodIn_app (goodIn_of _ (by decide +kernel)) ggX0_receive_X0_runQueue
set_option maxRecDepth 20000 in
theorem ggX0_receive_X0_knownCount : GoodIn wsX0_receive wsX0_knownCount := goodIn_r _ [82, 40, 25, 26, 27, 28, 29, 30, 31, 87, 88, 89, 90, 91, 92, 93, 94, 95, 96, 97] (by decide +kernel) (by decide +kernel)
set_option maxRecDepth 20000 in
theorem gX0_receive_X0_knownCount : GoodIn wsX0_receive (wsV RX0 84 RX0 yX0_knownCount wsX0_knownCount) := goodIn_app (goodIn_of _ (by decide +kernel)) ggX0_receive_X0_knownCount
theorem dX0_receive_0 : decode cX0_receive 0 = .ok (.aload_n 0, 1) := by decide +kernel
theorem dX0_receive_1 : decode cX0_receive 1 = .ok (.getfield 16, 3) := by decide +kernel
theorem dX0_receive_4 : decode cX0_receive 4 = .ok (.bipush 60, 2) := by decide +kernel
theorem dX0_receive_6 : decode cX0_receive 6 = .ok (.if_icmp .lt 6, 3) := by decide +kernel
theorem dX0_receive_9 : decode cX0_receive 9 = .ok (.bipush (-2), 2) := by decide +kernel
theorem dX0_receive_11 : decode cX0_receive 11 = .ok (.ireturn, 1) := by decide +kernel
theorem dX0_receive_12 : decode cX0_receive 12 = .ok (.aload_n 0, 1) := by decide +kernel
theorem dX0_receive_13 : decode cX0_receive 13 = .ok (.getfield 16, 3) := by decide +kernel
theorem dX0_receive_16 : decode cX0_receive 16 = .ok (.istore_n 3, 1) := by decide +kernel
theorem dX0_receive_17 : decode cX0_receive 17 = .ok (.aload_n 0, 1) := by decide +kernel
theorem dX0_receive_18 : decode cX0_receive 18 = .ok (.getfield 9, 3) := by decide +kernel
theorem dX0_receive_21 : decode cX0_receive 21 = .ok (.iload_n 3, 1) := by decide +kernel
theorem dX0_receive_22 : decode cX0_receive 22 = .ok (.aload_n 0, 1) := by decide +kernel
theorem dX0_receive_23 : decode cX0_receive 23 = .ok (.iload_n 1, 1) := by decide +kernel
theorem dX0_receive_24 : decode cX0_receive 24 = .ok (.invokevirtual 54, 3) := by decide +kernel
theorem dX0_receive_27 : decode cX0_receive 27 = .ok (.iastore, 1) := by decide +kernel
theorem dX0_receive_28 : decode cX0_receive 28 = .ok (.aload_n 0, 1) := by decide +kernel
theorem dX0_receive_29 : decode cX0_receive 29 = .ok (.getfield 13, 3) := by decide +kernel
theorem dX0_receive_32 : decode cX0_receive 32 = .ok (.iload_n 3, 1) := by decide +kernel
theorem dX0_receive_33 : decode cX0_receive 33 = .ok (.iload_n 2, 1) := by decide +kernel
theorem dX0_receive_34 : decode cX0_receive 34 = .ok (.iastore, 1) := by decide +kernel
theorem dX0_receive_35 : decode cX0_receive 35 = .ok (.aload_n 0, 1) := by decide +kernel
theorem dX0_receive_36 : decode cX0_receive 36 = .ok (.dup, 1) := by decide +kernel
theorem dX0_receive_37 : decode cX0_receive 37 = .ok (.getfield 16, 3) := by decide +kernel
theorem dX0_receive_40 : decode cX0_receive 40 = .ok (.iconst 1, 1) := by decide +kernel
theorem dX0_receive_41 : decode cX0_receive 41 = .ok (.iadd, 1) := by decide +kernel
theorem dX0_receive_42 : decode cX0_receive 42 = .ok (.putfield 16, 3) := by decide +kernel
theorem dX0_receive_45 : decode cX0_receive 45 = .ok (.aload_n 0, 1) := by decide +kernel
theorem dX0_receive_46 : decode cX0_receive 46 = .ok (.iconst 0, 1) := by decide +kernel
theorem dX0_receive_47 : decode cX0_receive 47 = .ok (.putfield 26, 3) := by decide +kernel
theorem dX0_receive_50 : decode cX0_receive 50 = .ok (.aload_n 0, 1) := by decide +kernel
theorem dX0_receive_51 : decode cX0_receive 51 = .ok (.iload_n 3, 1) := by decide +kernel
theorem dX0_receive_52 : decode cX0_receive 52 = .ok (.invokevirtual 71, 3) := by decide +kernel
theorem dX0_receive_55 : decode cX0_receive 55 = .ok (.istore 4, 2) := by decide +kernel
theorem dX0_receive_57 : decode cX0_receive 57 = .ok (.iload 4, 2) := by decide +kernel
theorem dX0_receive_59 : decode cX0_receive 59 = .ok (.iconst 1, 1) := by decide +kernel
theorem dX0_receive_60 : decode cX0_receive 60 = .ok (.if_icmp .ne 11, 3) := by decide +kernel
theorem dX0_receive_63 : decode cX0_receive 63 = .ok (.aload_n 0, 1) := by decide +kernel
theorem dX0_receive_64 : decode cX0_receive 64 = .ok (.iload_n 3, 1) := by decide +kernel
theorem dX0_receive_65 : decode cX0_receive 65 = .ok (.invokevirtual 74, 3) := by decide +kernel
theorem dX0_receive_68 : decode cX0_receive 68 = .ok (.goto 13, 3) := by decide +kernel
theorem dX0_receive_71 : decode cX0_receive 71 = .ok (.iload 4, 2) := by decide +kernel
theorem dX0_receive_73 : decode cX0_receive 73 = .ok (.ifCond .ne 8, 3) := by decide +kernel
theorem dX0_receive_76 : decode cX0_receive 76 = .ok (.aload_n 0, 1) := by decide +kernel
theorem dX0_receive_77 : decode cX0_receive 77 = .ok (.iload_n 3, 1) := by decide +kernel
theorem dX0_receive_78 : decode cX0_receive 78 = .ok (.invokevirtual 78, 3) := by decide +kernel
theorem dX0_receive_81 : decode cX0_receive 81 = .ok (.aload_n 0, 1) := by decide +kernel
theorem dX0_receive_82 : decode cX0_receive 82 = .ok (.invokevirtual 81, 3) := by decide +kernel
theorem dX0_receive_85 : decode cX0_receive 85 = .ok (.aload_n 0, 1) := by decide +kernel
theorem dX0_receive_86 : decode cX0_receive 86 = .ok (.invokevirtual 84, 3) := by decide +kernel
theorem dX0_receive_89 : decode cX0_receive 89 = .ok (.ireturn, 1) := by decide +kernel
set_option maxRecDepth 20000 in
theorem ggX0_known_X0_isInRow : GoodIn wsX0_known wsX0_isInRow := goodIn_r _ [5, 6, 15, 16, 17, 18, 19, 20, 21, 22, 23, 24, 25] (by decide +kernel) (by decide +kernel)
set_option maxRecDepth 20000 in
theorem gX0_known_X0_isInRow : GoodIn wsX0_known (wsV RX0 50 RX0 yX0_isInRow wsX0_isInRow) := goodIn_app (goodIn_of _ (by decide +kernel)) ggX0_known_X0_isInRow
set_option maxRecDepth 20000 in
theorem ggX0_known_X0_isKnown : GoodIn wsX0_known wsX0_isKnown := goodIn_r _ [10, 11, 12, 13, 4, 14, 15, 16, 17, 18, 19, 20, 21, 22, 23, 24, 25] (by decide +kernel) (by decide +kernel)
set_option maxRecDepth 20000 in
theorem gX0_known_X0_isKnown : GoodIn wsX0_known (wsV RX0 88 RX0 yX0_isKnown wsX0_isKnown) := goodIn_app (goodIn_of _ (by decide +kernel)) ggX0_known_X0_isKnown
theorem dX0_known_0 : decode cX0_known 0 = .ok (.aload_n 0, 1) := by decide +kernel
theorem dX0_known_1 : decode cX0_known 1 = .ok (.iload_n 1, 1) := by decide +kernel
theorem dX0_known_2 : decode cX0_known 2 = .ok (.invokevirtual 50, 3) := by decide +kernel
theorem dX0_known_5 : decode cX0_known 5 = .ok (.ifCond .ne 5, 3) := by decide +kernel
theorem dX0_known_8 : decode cX0_known 8 = .ok (.iconst (-1), 1) := by decide +kernel
theorem dX0_known_9 : decode cX0_known 9 = .ok (.ireturn, 1) := by decide +kernel
theorem dX0_known_10 : decode cX0_known 10 = .ok (.aload_n 0, 1) := by decide +kernel
theorem dX0_known_11 : decode cX0_known 11 = .ok (.iload_n 1, 1) := by decide +kernel
theorem dX0_known_12 : decode cX0_known 12 = .ok (.invokevirtual 88, 3) := by decide +kernel
theorem dX0_known_15 : decode cX0_known 15 = .ok (.ifCond .eq 7, 3) := by decide +kernel
theorem dX0_known_18 : decode cX0_known 18 = .ok (.iconst 1, 1) := by decide +kernel
theorem dX0_known_19 : decode cX0_known 19 = .ok (.goto 4, 3) := by decide +kernel
theorem dX0_known_22 : decode cX0_known 22 = .ok (.iconst 0, 1) := by decide +kernel
theorem dX0_known_23 : decode cX0_known 23 = .ok (.ireturn, 1) := by decide +kernel
set_option maxRecDepth 20000 in
theorem ggX0_word_X0_isInRow : GoodIn wsX0_word wsX0_isInRow := goodIn_r _ [6, 7, 16, 17, 18, 19, 20, 21, 22, 23, 24, 25, 26] (by decide +kernel) (by decide +kernel)
set_option maxRecDepth 20000 in
theorem gX0_word_X0_isInRow : GoodIn wsX0_word (wsV RX0 50 RX0 yX0_isInRow wsX0_isInRow) := goodIn_app (goodIn_of _ (by decide +kernel)) ggX0_word_X0_isInRow
set_option maxRecDepth 20000 in
theorem ggX0_word_X0_isKnown : GoodIn wsX0_word wsX0_isKnown := goodIn_r _ [11, 12, 13, 14, 5, 15, 16, 17, 18, 19, 20, 21, 22, 23, 24, 25, 26] (by decide +kernel) (by decide +kernel)
set_option maxRecDepth 20000 in
theorem gX0_word_X0_isKnown : GoodIn wsX0_word (wsV RX0 88 RX0 yX0_isKnown wsX0_isKnown) := goodIn_app (goodIn_of _ (by decide +kernel)) ggX0_word_X0_isKnown
theorem dX0_word_0 : decode cX0_word 0 = .ok (.aload_n 0, 1) := by decide +kernel
theorem dX0_word_1 : decode cX0_word 1 = .ok (.iload_n 1, 1) := by decide +kernel
theorem dX0_word_2 : decode cX0_word 2 = .ok (.invokevirtual 50, 3) := by decide +kernel
theorem dX0_word_5 : decode cX0_word 5 = .ok (.ifCond .eq 20, 3) := by decide +kernel
theorem dX0_word_8 : decode cX0_word 8 = .ok (.aload_n 0, 1) := by decide +kernel
theorem dX0_word_9 : decode cX0_word 9 = .ok (.iload_n 1, 1) := by decide +kernel
theorem dX0_word_10 : decode cX0_word 10 = .ok (.invokevirtual 88, 3) := by decide +kernel
theorem dX0_word_13 : decode cX0_word 13 = .ok (.ifCond .eq 12, 3) := by decide +kernel
theorem dX0_word_16 : decode cX0_word 16 = .ok (.aload_n 0, 1) := by decide +kernel
theorem dX0_word_17 : decode cX0_word 17 = .ok (.getfield 44, 3) := by decide +kernel
theorem dX0_word_20 : decode cX0_word 20 = .ok (.iload_n 1, 1) := by decide +kernel
theorem dX0_word_21 : decode cX0_word 21 = .ok (.iaload, 1) := by decide +kernel
theorem dX0_word_22 : decode cX0_word 22 = .ok (.goto 4, 3) := by decide +kernel
theorem dX0_word_25 : decode cX0_word 25 = .ok (.iconst 0, 1) := by decide +kernel
theorem dX0_word_26 : decode cX0_word 26 = .ok (.ireturn, 1) := by decide +kernel
set_option maxRecDepth 20000 in
theorem ggX0_order_X0_knownCount : GoodIn wsX0_order wsX0_knownCount := goodIn_r _ [6, 7, 8, 9, 10, 11, 12, 13, 14, 15, 16, 17, 18, 19, 20, 21, 22, 23, 24, 25] (by decide +kernel) (by decide +kernel)
set_option maxRecDepth 20000 in
theorem gX0_order_X0_knownCount : GoodIn wsX0_order (wsV RX0 84 RX0 yX0_knownCount wsX0_knownCount) := goodIn_app (goodIn_of _ (by decide +kernel)) ggX0_order_X0_knownCount
theorem dX0_order_0 : decode cX0_order 0 = .ok (.iload_n 1, 1) := by decide +kernel
theorem dX0_order_1 : decode cX0_order 1 = .ok (.ifCond .lt 20, 3) := by decide +kernel
theorem dX0_order_4 : decode cX0_order 4 = .ok (.iload_n 1, 1) := by decide +kernel
theorem dX0_order_5 : decode cX0_order 5 = .ok (.aload_n 0, 1) := by decide +kernel
theorem dX0_order_6 : decode cX0_order 6 = .ok (.invokevirtual 84, 3) := by decide +kernel
theorem dX0_order_9 : decode cX0_order 9 = .ok (.if_icmp .ge 12, 3) := by decide +kernel
theorem dX0_order_12 : decode cX0_order 12 = .ok (.aload_n 0, 1) := by decide +kernel
theorem dX0_order_13 : decode cX0_order 13 = .ok (.getfield 47, 3) := by decide +kernel
theorem dX0_order_16 : decode cX0_order 16 = .ok (.iload_n 1, 1) := by decide +kernel
theorem dX0_order_17 : decode cX0_order 17 = .ok (.iaload, 1) := by decide +kernel
theorem dX0_order_18 : decode cX0_order 18 = .ok (.goto 4, 3) := by decide +kernel
theorem dX0_order_21 : decode cX0_order 21 = .ok (.iconst (-1), 1) := by decide +kernel
theorem dX0_order_22 : decode cX0_order 22 = .ok (.ireturn, 1) := by decide +kernel
set_option maxRecDepth 20000 in
theorem ggX0_open_X0_unknownCount : GoodIn wsX0_open wsX0_unknownCount := goodIn_r _ [6, 7, 8, 9, 5, 10, 11, 12, 13, 14, 15, 16, 17, 18, 19, 20, 21, 22, 23, 24, 25, 26, 27, 28, 29, 30] (by decide +kernel) (by decide +kernel)
set_option maxRecDepth 20000 in
theorem gX0_open_X0_unknownCount : GoodIn wsX0_open (wsV RX0 71 RX0 yX0_unknownCount wsX0_unknownCount) := goodIn_app (goodIn_of _ (by decide +kernel)) ggX0_open_X0_unknownCount
theorem dX0_open_0 : decode cX0_open 0 = .ok (.iload_n 1, 1) := by decide +kernel
theorem dX0_open_1 : decode cX0_open 1 = .ok (.ifCond .lt 19, 3) := by decide +kernel
theorem dX0_open_4 : decode cX0_open 4 = .ok (.iload_n 1, 1) := by decide +kernel
theorem dX0_open_5 : decode cX0_open 5 = .ok (.aload_n 0, 1) := by decide +kernel
theorem dX0_open_6 : decode cX0_open 6 = .ok (.getfield 16, 3) := by decide +kernel
theorem dX0_open_9 : decode cX0_open 9 = .ok (.if_icmp .ge 11, 3) := by decide +kernel
theorem dX0_open_12 : decode cX0_open 12 = .ok (.aload_n 0, 1) := by decide +kernel
theorem dX0_open_13 : decode cX0_open 13 = .ok (.iload_n 1, 1) := by decide +kernel
theorem dX0_open_14 : decode cX0_open 14 = .ok (.invokevirtual 71, 3) := by decide +kernel
theorem dX0_open_17 : decode cX0_open 17 = .ok (.goto 4, 3) := by decide +kernel
theorem dX0_open_20 : decode cX0_open 20 = .ok (.iconst (-1), 1) := by decide +kernel
theorem dX0_open_21 : decode cX0_open 21 = .ok (.ireturn, 1) := by decide +kernel
theorem dX0_drops_0 : decode cX0_drops 0 = .ok (.aload_n 0, 1) := by decide +kernel
theorem dX0_drops_1 : decode cX0_drops 1 = .ok (.getfield 16, 3) := by decide +kernel
theorem dX0_drops_4 : decode cX0_drops 4 = .ok (.ireturn, 1) := by decide +kernel
set_option maxRecDepth 20000 in
theorem ggX0_count_X0_knownCount : GoodIn wsX0_count wsX0_knownCount := goodIn_r _ [5, 6, 7, 8, 9, 10, 11, 12, 13, 14, 15, 16, 17, 18, 19, 20, 21, 22, 23, 24] (by decide +kernel) (by decide +kernel)
set_option maxRecDepth 20000 in
theorem gX0_count_X0_knownCount : GoodIn wsX0_count (wsV RX0 84 RX0 yX0_knownCount wsX0_knownCount) := goodIn_app (goodIn_of _ (by decide +kernel)) ggX0_count_X0_knownCount
theorem dX0_count_0 : decode cX0_count 0 = .ok (.aload_n 0, 1) := by decide +kernel
theorem dX0_count_1 : decode cX0_count 1 = .ok (.invokevirtual 84, 3) := by decide +kernel
theorem dX0_count_4 : decode cX0_count 4 = .ok (.ireturn, 1) := by decide +kernel
theorem dX0_clashes_0 : decode cX0_clashes 0 = .ok (.aload_n 0, 1) := by decide +kernel
theorem dX0_clashes_1 : decode cX0_clashes 1 = .ok (.getfield 29, 3) := by decide +kernel
theorem dX0_clashes_4 : decode cX0_clashes 4 = .ok (.ireturn, 1) := by decide +kernel
theorem dX0_forget_0 : decode cX0_forget 0 = .ok (.aload_n 0, 1) := by decide +kernel
theorem dX0_forget_1 : decode cX0_forget 1 = .ok (.getfield 16, 3) := by decide +kernel
theorem dX0_forget_4 : decode cX0_forget 4 = .ok (.istore_n 1, 1) := by decide +kernel
theorem dX0_forget_5 : decode cX0_forget 5 = .ok (.aload_n 0, 1) := by decide +kernel
theorem dX0_forget_6 : decode cX0_forget 6 = .ok (.iconst 0, 1) := by decide +kernel
theorem dX0_forget_7 : decode cX0_forget 7 = .ok (.putfield 16, 3) := by decide +kernel
theorem dX0_forget_10 : decode cX0_forget 10 = .ok (.aload_n 0, 1) := by decide +kernel
theorem dX0_forget_11 : decode cX0_forget 11 = .ok (.iconst 0, 1) := by decide +kernel
theorem dX0_forget_12 : decode cX0_forget 12 = .ok (.putfield 20, 3) := by decide +kernel
theorem dX0_forget_15 : decode cX0_forget 15 = .ok (.aload_n 0, 1) := by decide +kernel
theorem dX0_forget_16 : decode cX0_forget 16 = .ok (.iconst 0, 1) := by decide +kernel
theorem dX0_forget_17 : decode cX0_forget 17 = .ok (.putfield 29, 3) := by decide +kernel
theorem dX0_forget_20 : decode cX0_forget 20 = .ok (.iload_n 1, 1) := by decide +kernel
theorem dX0_forget_21 : decode cX0_forget 21 = .ok (.ireturn, 1) := by decide +kernel
theorem dX0_isInRow_0 : decode cX0_isInRow 0 = .ok (.iload_n 1, 1) := by decide +kernel
theorem dX0_isInRow_1 : decode cX0_isInRow 1 = .ok (.ifCond .lt 15, 3) := by decide +kernel
theorem dX0_isInRow_4 : decode cX0_isInRow 4 = .ok (.iload_n 1, 1) := by decide +kernel
theorem dX0_isInRow_5 : decode cX0_isInRow 5 = .ok (.aload_n 0, 1) := by decide +kernel
theorem dX0_isInRow_6 : decode cX0_isInRow 6 = .ok (.getfield 38, 3) := by decide +kernel
theorem dX0_isInRow_9 : decode cX0_isInRow 9 = .ok (.if_icmp .ge 7, 3) := by decide +kernel
theorem dX0_isInRow_12 : decode cX0_isInRow 12 = .ok (.iconst 1, 1) := by decide +kernel
theorem dX0_isInRow_13 : decode cX0_isInRow 13 = .ok (.goto 4, 3) := by decide +kernel
theorem dX0_isInRow_16 : decode cX0_isInRow 16 = .ok (.iconst 0, 1) := by decide +kernel
theorem dX0_isInRow_17 : decode cX0_isInRow 17 = .ok (.ireturn, 1) := by decide +kernel
theorem dX0_nextState_0 : decode cX0_nextState 0 = .ok (.iload_n 0, 1) := by decide +kernel
theorem dX0_nextState_1 : decode cX0_nextState 1 = .ok (.ldc 91, 2) := by decide +kernel
theorem dX0_nextState_3 : decode cX0_nextState 3 = .ok (.imul, 1) := by decide +kernel
theorem dX0_nextState_4 : decode cX0_nextState 4 = .ok (.ldc 92, 2) := by decide +kernel
theorem dX0_nextState_6 : decode cX0_nextState 6 = .ok (.iadd, 1) := by decide +kernel
theorem dX0_nextState_7 : decode cX0_nextState 7 = .ok (.ireturn, 1) := by decide +kernel
theorem dX0_drawn_0 : decode cX0_drawn 0 = .ok (.iload_n 0, 1) := by decide +kernel
theorem dX0_drawn_1 : decode cX0_drawn 1 = .ok (.bipush 16, 2) := by decide +kernel
theorem dX0_drawn_3 : decode cX0_drawn 3 = .ok (.iushr, 1) := by decide +kernel
theorem dX0_drawn_4 : decode cX0_drawn 4 = .ok (.ireturn, 1) := by decide +kernel
theorem dX0_degreeOf_0 : decode cX0_degreeOf 0 = .ok (.ldc 93, 2) := by decide +kernel
theorem dX0_degreeOf_2 : decode cX0_degreeOf 2 = .ok (.aload_n 0, 1) := by decide +kernel
theorem dX0_degreeOf_3 : decode cX0_degreeOf 3 = .ok (.getfield 38, 3) := by decide +kernel
theorem dX0_degreeOf_6 : decode cX0_degreeOf 6 = .ok (.idiv, 1) := by decide +kernel
theorem dX0_degreeOf_7 : decode cX0_degreeOf 7 = .ok (.istore_n 2, 1) := by decide +kernel
theorem dX0_degreeOf_8 : decode cX0_degreeOf 8 = .ok (.iconst 1, 1) := by decide +kernel
theorem dX0_degreeOf_9 : decode cX0_degreeOf 9 = .ok (.istore_n 3, 1) := by decide +kernel
theorem dX0_degreeOf_10 : decode cX0_degreeOf 10 = .ok (.iload_n 3, 1) := by decide +kernel
theorem dX0_degreeOf_11 : decode cX0_degreeOf 11 = .ok (.aload_n 0, 1) := by decide +kernel
theorem dX0_degreeOf_12 : decode cX0_degreeOf 12 = .ok (.getfield 38, 3) := by decide +kernel
theorem dX0_degreeOf_15 : decode cX0_degreeOf 15 = .ok (.if_icmp .ge 27, 3) := by decide +kernel
theorem dX0_degreeOf_18 : decode cX0_degreeOf 18 = .ok (.iload_n 1, 1) := by decide +kernel
theorem dX0_degreeOf_19 : decode cX0_degreeOf 19 = .ok (.iload_n 2, 1) := by decide +kernel
theorem dX0_degreeOf_20 : decode cX0_degreeOf 20 = .ok (.if_icmp .ge 5, 3) := by decide +kernel
theorem dX0_degreeOf_23 : decode cX0_degreeOf 23 = .ok (.iload_n 3, 1) := by decide +kernel
theorem dX0_degreeOf_24 : decode cX0_degreeOf 24 = .ok (.ireturn, 1) := by decide +kernel
theorem dX0_degreeOf_25 : decode cX0_degreeOf 25 = .ok (.iload_n 2, 1) := by decide +kernel
theorem dX0_degreeOf_26 : decode cX0_degreeOf 26 = .ok (.ldc 93, 2) := by decide +kernel
theorem dX0_degreeOf_28 : decode cX0_degreeOf 28 = .ok (.iload_n 3, 1) := by decide +kernel
theorem dX0_degreeOf_29 : decode cX0_degreeOf 29 = .ok (.iconst 1, 1) := by decide +kernel
theorem dX0_degreeOf_30 : decode cX0_degreeOf 30 = .ok (.iadd, 1) := by decide +kernel
theorem dX0_degreeOf_31 : decode cX0_degreeOf 31 = .ok (.iload_n 3, 1) := by decide +kernel
theorem dX0_degreeOf_32 : decode cX0_degreeOf 32 = .ok (.imul, 1) := by decide +kernel
theorem dX0_degreeOf_33 : decode cX0_degreeOf 33 = .ok (.idiv, 1) := by decide +kernel
theorem dX0_degreeOf_34 : decode cX0_degreeOf 34 = .ok (.iadd, 1) := by decide +kernel
theorem dX0_degreeOf_35 : decode cX0_degreeOf 35 = .ok (.istore_n 2, 1) := by decide +kernel
theorem dX0_degreeOf_36 : decode cX0_degreeOf 36 = .ok (.iinc 3 1, 3) := by decide +kernel
theorem dX0_degreeOf_39 : decode cX0_degreeOf 39 = .ok (.goto (-29), 3) := by decide +kernel
theorem dX0_degreeOf_42 : decode cX0_degreeOf 42 = .ok (.aload_n 0, 1) := by decide +kernel
theorem dX0_degreeOf_43 : decode cX0_degreeOf 43 = .ok (.getfield 38, 3) := by decide +kernel
theorem dX0_degreeOf_46 : decode cX0_degreeOf 46 = .ok (.ireturn, 1) := by decide +kernel
set_option maxRecDepth 20000 in
theorem ggX0_setOf_X0_nextState : GoodIn wsX0_setOf wsX0_nextState := goodIn_r _ [6, 7, 8] (by decide +kernel) (by decide +kernel)
set_option maxRecDepth 20000 in
theorem gX0_setOf_X0_nextState : GoodIn wsX0_setOf (va_wsS RX0 62 yX0_nextState wsX0_nextState) := goodIn_app (goodIn_of _ (by decide +kernel)) ggX0_setOf_X0_nextState
set_option maxRecDepth 20000 in
theorem ggX0_setOf_X0_drawn : GoodIn wsX0_setOf wsX0_drawn := goodIn_r _ [11] (by decide +kernel) (by decide +kernel)
set_option maxRecDepth 20000 in
theorem gX0_setOf_X0_drawn : GoodIn wsX0_setOf (va_wsS RX0 65 yX0_drawn wsX0_drawn) := goodIn_app (goodIn_of _ (by decide +kernel)) ggX0_setOf_X0_drawn
set_option maxRecDepth 20000 in
theorem ggX0_setOf_X0_degreeOf : GoodIn wsX0_setOf wsX0_degreeOf := goodIn_r _ [15, 16, 2, 24, 25, 26, 27, 28, 29, 30, 31, 32, 33, 34] (by decide +kernel) (by decide +kernel)
set_option maxRecDepth 20000 in
theorem gX0_setOf_X0_degreeOf : GoodIn wsX0_setOf (wsV RX0 68 RX0 yX0_degreeOf wsX0_degreeOf) := goodIn_app (goodIn_of _ (by decide +kernel)) ggX0_setOf_X0_degreeOf
set_option maxRecDepth 20000 in
theorem ggX0_setOf_J6_bitCount_0f7a4 : GoodIn wsX0_setOf wsJ6_bitCount_0f7a4 := goodIn_r _ [20, 21, 22, 23] (by decide +kernel) (by decide +kernel)
set_option maxRecDepth 20000 in
theorem gX0_setOf_J6_bitCount_0f7a4 : GoodIn wsX0_setOf (va_wsS RX0 95 yJ6_bitCount_0f7a4 wsJ6_bitCount_0f7a4) := goodIn_app (goodIn_of _ (by decide +kernel)) ggX0_setOf_J6_bitCount_0f7a4
theorem dX0_setOf_0 : decode cX0_setOf 0 = .ok (.iload_n 1, 1) := by decide +kernel
theorem dX0_setOf_1 : decode cX0_setOf 1 = .ok (.invokestatic 62, 3) := by decide +kernel
theorem dX0_setOf_4 : decode cX0_setOf 4 = .ok (.istore_n 2, 1) := by decide +kernel
theorem dX0_setOf_5 : decode cX0_setOf 5 = .ok (.aload_n 0, 1) := by decide +kernel
theorem dX0_setOf_6 : decode cX0_setOf 6 = .ok (.iload_n 2, 1) := by decide +kernel
theorem dX0_setOf_7 : decode cX0_setOf 7 = .ok (.invokestatic 65, 3) := by decide +kernel
theorem dX0_setOf_10 : decode cX0_setOf 10 = .ok (.invokevirtual 68, 3) := by decide +kernel
theorem dX0_setOf_13 : decode cX0_setOf 13 = .ok (.istore_n 3, 1) := by decide +kernel
theorem dX0_setOf_14 : decode cX0_setOf 14 = .ok (.iconst 0, 1) := by decide +kernel
theorem dX0_setOf_15 : decode cX0_setOf 15 = .ok (.istore 4, 2) := by decide +kernel
theorem dX0_setOf_17 : decode cX0_setOf 17 = .ok (.iconst 0, 1) := by decide +kernel
theorem dX0_setOf_18 : decode cX0_setOf 18 = .ok (.istore 5, 2) := by decide +kernel
theorem dX0_setOf_20 : decode cX0_setOf 20 = .ok (.iload 5, 2) := by decide +kernel
theorem dX0_setOf_22 : decode cX0_setOf 22 = .ok (.ldc 94, 2) := by decide +kernel
theorem dX0_setOf_24 : decode cX0_setOf 24 = .ok (.if_icmp .ge 39, 3) := by decide +kernel
theorem dX0_setOf_27 : decode cX0_setOf 27 = .ok (.iload 4, 2) := by decide +kernel
theorem dX0_setOf_29 : decode cX0_setOf 29 = .ok (.invokestatic 95, 3) := by decide +kernel
theorem dX0_setOf_32 : decode cX0_setOf 32 = .ok (.iload_n 3, 1) := by decide +kernel
theorem dX0_setOf_33 : decode cX0_setOf 33 = .ok (.if_icmp .ge 30, 3) := by decide +kernel
theorem dX0_setOf_36 : decode cX0_setOf 36 = .ok (.iload_n 2, 1) := by decide +kernel
theorem dX0_setOf_37 : decode cX0_setOf 37 = .ok (.invokestatic 62, 3) := by decide +kernel
theorem dX0_setOf_40 : decode cX0_setOf 40 = .ok (.istore_n 2, 1) := by decide +kernel
theorem dX0_setOf_41 : decode cX0_setOf 41 = .ok (.iload 4, 2) := by decide +kernel
theorem dX0_setOf_43 : decode cX0_setOf 43 = .ok (.iconst 1, 1) := by decide +kernel
theorem dX0_setOf_44 : decode cX0_setOf 44 = .ok (.iload_n 2, 1) := by decide +kernel
theorem dX0_setOf_45 : decode cX0_setOf 45 = .ok (.invokestatic 65, 3) := by decide +kernel
theorem dX0_setOf_48 : decode cX0_setOf 48 = .ok (.aload_n 0, 1) := by decide +kernel
theorem dX0_setOf_49 : decode cX0_setOf 49 = .ok (.getfield 38, 3) := by decide +kernel
theorem dX0_setOf_52 : decode cX0_setOf 52 = .ok (.irem, 1) := by decide +kernel
theorem dX0_setOf_53 : decode cX0_setOf 53 = .ok (.ishl, 1) := by decide +kernel
theorem dX0_setOf_54 : decode cX0_setOf 54 = .ok (.ior, 1) := by decide +kernel
theorem dX0_setOf_55 : decode cX0_setOf 55 = .ok (.istore 4, 2) := by decide +kernel
theorem dX0_setOf_57 : decode cX0_setOf 57 = .ok (.iinc 5 1, 3) := by decide +kernel
theorem dX0_setOf_60 : decode cX0_setOf 60 = .ok (.goto (-40), 3) := by decide +kernel
theorem dX0_setOf_63 : decode cX0_setOf 63 = .ok (.iload 4, 2) := by decide +kernel
theorem dX0_setOf_65 : decode cX0_setOf 65 = .ok (.ireturn, 1) := by decide +kernel
set_option maxRecDepth 20000 in
theorem ggX0_xorOf_X0_hasBit : GoodIn wsX0_xorOf wsX0_hasBit := goodIn_r _ [4] (by decide +kernel) (by decide +kernel)
set_option maxRecDepth 20000 in
theorem gX0_xorOf_X0_hasBit : GoodIn wsX0_xorOf (va_wsS RX0 100 yX0_hasBit wsX0_hasBit) := goodIn_app (goodIn_of _ (by decide +kernel)) ggX0_xorOf_X0_hasBit
theorem dX0_xorOf_0 : decode cX0_xorOf 0 = .ok (.iconst 0, 1) := by decide +kernel
theorem dX0_xorOf_1 : decode cX0_xorOf 1 = .ok (.istore_n 2, 1) := by decide +kernel
theorem dX0_xorOf_2 : decode cX0_xorOf 2 = .ok (.iconst 0, 1) := by decide +kernel
theorem dX0_xorOf_3 : decode cX0_xorOf 3 = .ok (.istore_n 3, 1) := by decide +kernel
theorem dX0_xorOf_4 : decode cX0_xorOf 4 = .ok (.iload_n 3, 1) := by decide +kernel
theorem dX0_xorOf_5 : decode cX0_xorOf 5 = .ok (.aload_n 0, 1) := by decide +kernel
theorem dX0_xorOf_6 : decode cX0_xorOf 6 = .ok (.arraylength, 1) := by decide +kernel
theorem dX0_xorOf_7 : decode cX0_xorOf 7 = .ok (.if_icmp .ge 23, 3) := by decide +kernel
theorem dX0_xorOf_10 : decode cX0_xorOf 10 = .ok (.iload_n 1, 1) := by decide +kernel
theorem dX0_xorOf_11 : decode cX0_xorOf 11 = .ok (.iload_n 3, 1) := by decide +kernel
theorem dX0_xorOf_12 : decode cX0_xorOf 12 = .ok (.invokestatic 100, 3) := by decide +kernel
theorem dX0_xorOf_15 : decode cX0_xorOf 15 = .ok (.ifCond .eq 9, 3) := by decide +kernel
theorem dX0_xorOf_18 : decode cX0_xorOf 18 = .ok (.iload_n 2, 1) := by decide +kernel
theorem dX0_xorOf_19 : decode cX0_xorOf 19 = .ok (.aload_n 0, 1) := by decide +kernel
theorem dX0_xorOf_20 : decode cX0_xorOf 20 = .ok (.iload_n 3, 1) := by decide +kernel
theorem dX0_xorOf_21 : decode cX0_xorOf 21 = .ok (.iaload, 1) := by decide +kernel
theorem dX0_xorOf_22 : decode cX0_xorOf 22 = .ok (.ixor, 1) := by decide +kernel
theorem dX0_xorOf_23 : decode cX0_xorOf 23 = .ok (.istore_n 2, 1) := by decide +kernel
theorem dX0_xorOf_24 : decode cX0_xorOf 24 = .ok (.iinc 3 1, 3) := by decide +kernel
theorem dX0_xorOf_27 : decode cX0_xorOf 27 = .ok (.goto (-23), 3) := by decide +kernel
theorem dX0_xorOf_30 : decode cX0_xorOf 30 = .ok (.iload_n 2, 1) := by decide +kernel
theorem dX0_xorOf_31 : decode cX0_xorOf 31 = .ok (.ireturn, 1) := by decide +kernel
theorem dX0_hasBit_0 : decode cX0_hasBit 0 = .ok (.iload_n 0, 1) := by decide +kernel
theorem dX0_hasBit_1 : decode cX0_hasBit 1 = .ok (.iload_n 1, 1) := by decide +kernel
theorem dX0_hasBit_2 : decode cX0_hasBit 2 = .ok (.iushr, 1) := by decide +kernel
theorem dX0_hasBit_3 : decode cX0_hasBit 3 = .ok (.iconst 1, 1) := by decide +kernel
theorem dX0_hasBit_4 : decode cX0_hasBit 4 = .ok (.iand, 1) := by decide +kernel
theorem dX0_hasBit_5 : decode cX0_hasBit 5 = .ok (.ifCond .eq 7, 3) := by decide +kernel
theorem dX0_hasBit_8 : decode cX0_hasBit 8 = .ok (.iconst 1, 1) := by decide +kernel
theorem dX0_hasBit_9 : decode cX0_hasBit 9 = .ok (.goto 4, 3) := by decide +kernel
theorem dX0_hasBit_12 : decode cX0_hasBit 12 = .ok (.iconst 0, 1) := by decide +kernel
theorem dX0_hasBit_13 : decode cX0_hasBit 13 = .ok (.ireturn, 1) := by decide +kernel
set_option maxRecDepth 20000 in
theorem ggX0_isKnown_X0_hasBit : GoodIn wsX0_isKnown wsX0_hasBit := goodIn_r _ [5] (by decide +kernel) (by decide +kernel)
set_option maxRecDepth 20000 in
theorem gX0_isKnown_X0_hasBit : GoodIn wsX0_isKnown (va_wsS RX0 100 yX0_hasBit wsX0_hasBit) := goodIn_app (goodIn_of _ (by decide +kernel)) ggX0_isKnown_X0_hasBit
theorem dX0_isKnown_0 : decode cX0_isKnown 0 = .ok (.aload_n 0, 1) := by decide +kernel
theorem dX0_isKnown_1 : decode cX0_isKnown 1 = .ok (.getfield 20, 3) := by decide +kernel
theorem dX0_isKnown_4 : decode cX0_isKnown 4 = .ok (.iload_n 1, 1) := by decide +kernel
theorem dX0_isKnown_5 : decode cX0_isKnown 5 = .ok (.invokestatic 100, 3) := by decide +kernel
theorem dX0_isKnown_8 : decode cX0_isKnown 8 = .ok (.ireturn, 1) := by decide +kernel
set_option maxRecDepth 20000 in
theorem ggX0_knownCount_J6_bitCount_0f7a4 : GoodIn wsX0_knownCount wsJ6_bitCount_0f7a4 := goodIn_r _ [5, 6, 7, 8] (by decide +kernel) (by decide +kernel)
set_option maxRecDepth 20000 in
theorem gX0_knownCount_J6_bitCount_0f7a4 : GoodIn wsX0_knownCount (va_wsS RX0 95 yJ6_bitCount_0f7a4 wsJ6_bitCount_0f7a4) := goodIn_app (goodIn_of _ (by decide +kernel)) ggX0_knownCount_J6_bitCount_0f7a4
theorem dX0_knownCount_0 : decode cX0_knownCount 0 = .ok (.aload_n 0, 1) := by decide +kernel
theorem dX0_knownCount_1 : decode cX0_knownCount 1 = .ok (.getfield 20, 3) := by decide +kernel
theorem dX0_knownCount_4 : decode cX0_knownCount 4 = .ok (.invokestatic 95, 3) := by decide +kernel
theorem dX0_knownCount_7 : decode cX0_knownCount 7 = .ok (.ireturn, 1) := by decide +kernel
theorem dX0_unknownBits_0 : decode cX0_unknownBits 0 = .ok (.aload_n 0, 1) := by decide +kernel
theorem dX0_unknownBits_1 : decode cX0_unknownBits 1 = .ok (.getfield 9, 3) := by decide +kernel
theorem dX0_unknownBits_4 : decode cX0_unknownBits 4 = .ok (.iload_n 1, 1) := by decide +kernel
theorem dX0_unknownBits_5 : decode cX0_unknownBits 5 = .ok (.iaload, 1) := by decide +kernel
theorem dX0_unknownBits_6 : decode cX0_unknownBits 6 = .ok (.aload_n 0, 1) := by decide +kernel
theorem dX0_unknownBits_7 : decode cX0_unknownBits 7 = .ok (.getfield 20, 3) := by decide +kernel
theorem dX0_unknownBits_10 : decode cX0_unknownBits 10 = .ok (.iconst (-1), 1) := by decide +kernel
theorem dX0_unknownBits_11 : decode cX0_unknownBits 11 = .ok (.ixor, 1) := by decide +kernel
theorem dX0_unknownBits_12 : decode cX0_unknownBits 12 = .ok (.iand, 1) := by decide +kernel
theorem dX0_unknownBits_13 : decode cX0_unknownBits 13 = .ok (.ireturn, 1) := by decide +kernel
set_option maxRecDepth 20000 in
theorem ggX0_unknownCount_X0_unknownBits : GoodIn wsX0_unknownCount wsX0_unknownBits := goodIn_r _ [5, 6, 7, 15, 16, 17, 18, 19, 20, 21, 22, 23, 24, 25] (by decide +kernel) (by decide +kernel)
set_option maxRecDepth 20000 in
theorem gX0_unknownCount_X0_unknownBits : GoodIn wsX0_unknownCount (wsV RX0 104 RX0 yX0_unknownBits wsX0_unknownBits) := goodIn_app (goodIn_of _ (by decide +kernel)) ggX0_unknownCount_X0_unknownBits
set_option maxRecDepth 20000 in
theorem ggX0_unknownCount_J6_bitCount_0f7a4 : GoodIn wsX0_unknownCount wsJ6_bitCount_0f7a4 := goodIn_r _ [11, 12, 13, 14] (by decide +kernel) (by decide +kernel)
set_option maxRecDepth 20000 in
theorem gX0_unknownCount_J6_bitCount_0f7a4 : GoodIn wsX0_unknownCount (va_wsS RX0 95 yJ6_bitCount_0f7a4 wsJ6_bitCount_0f7a4) := goodIn_app (goodIn_of _ (by decide +kernel)) ggX0_unknownCount_J6_bitCount_0f7a4
theorem dX0_unknownCount_0 : decode cX0_unknownCount 0 = .ok (.aload_n 0, 1) := by decide +kernel
theorem dX0_unknownCount_1 : decode cX0_unknownCount 1 = .ok (.iload_n 1, 1) := by decide +kernel
theorem dX0_unknownCount_2 : decode cX0_unknownCount 2 = .ok (.invokevirtual 104, 3) := by decide +kernel
theorem dX0_unknownCount_5 : decode cX0_unknownCount 5 = .ok (.invokestatic 95, 3) := by decide +kernel
theorem dX0_unknownCount_8 : decode cX0_unknownCount 8 = .ok (.ireturn, 1) := by decide +kernel
set_option maxRecDepth 20000 in
theorem ggX0_xorOfKnown_X0_xorOf : GoodIn wsX0_xorOfKnown wsX0_xorOf := goodIn_r _ [7, 8, 9, 6, 10] (by decide +kernel) (by decide +kernel)
set_option maxRecDepth 20000 in
theorem gX0_xorOfKnown_X0_xorOf : GoodIn wsX0_xorOfKnown (va_wsS RX0 58 yX0_xorOf wsX0_xorOf) := goodIn_app (goodIn_of _ (by decide +kernel)) ggX0_xorOfKnown_X0_xorOf
theorem dX0_xorOfKnown_0 : decode cX0_xorOfKnown 0 = .ok (.aload_n 0, 1) := by decide +kernel
theorem dX0_xorOfKnown_1 : decode cX0_xorOfKnown 1 = .ok (.getfield 44, 3) := by decide +kernel
theorem dX0_xorOfKnown_4 : decode cX0_xorOfKnown 4 = .ok (.aload_n 0, 1) := by decide +kernel
theorem dX0_xorOfKnown_5 : decode cX0_xorOfKnown 5 = .ok (.getfield 9, 3) := by decide +kernel
theorem dX0_xorOfKnown_8 : decode cX0_xorOfKnown 8 = .ok (.iload_n 1, 1) := by decide +kernel
theorem dX0_xorOfKnown_9 : decode cX0_xorOfKnown 9 = .ok (.iaload, 1) := by decide +kernel
theorem dX0_xorOfKnown_10 : decode cX0_xorOfKnown 10 = .ok (.aload_n 0, 1) := by decide +kernel
theorem dX0_xorOfKnown_11 : decode cX0_xorOfKnown 11 = .ok (.getfield 20, 3) := by decide +kernel
theorem dX0_xorOfKnown_14 : decode cX0_xorOfKnown 14 = .ok (.iand, 1) := by decide +kernel
theorem dX0_xorOfKnown_15 : decode cX0_xorOfKnown 15 = .ok (.invokestatic 58, 3) := by decide +kernel
theorem dX0_xorOfKnown_18 : decode cX0_xorOfKnown 18 = .ok (.ireturn, 1) := by decide +kernel
set_option maxRecDepth 20000 in
theorem ggX0_noteIfClash_X0_xorOfKnown : GoodIn wsX0_noteIfClash wsX0_xorOfKnown := goodIn_r _ [7, 8, 9, 10, 11, 12, 6, 13, 14, 15, 16, 17, 18, 19, 20, 21, 22, 23, 24, 25, 26, 27] (by decide +kernel) (by decide +kernel)
set_option maxRecDepth 20000 in
theorem gX0_noteIfClash_X0_xorOfKnown : GoodIn wsX0_noteIfClash (wsV RX0 107 RX0 yX0_xorOfKnown wsX0_xorOfKnown) := goodIn_app (goodIn_of _ (by decide +kernel)) ggX0_noteIfClash_X0_xorOfKnown
theorem dX0_noteIfClash_0 : decode cX0_noteIfClash 0 = .ok (.aload_n 0, 1) := by decide +kernel
theorem dX0_noteIfClash_1 : decode cX0_noteIfClash 1 = .ok (.iload_n 1, 1) := by decide +kernel
theorem dX0_noteIfClash_2 : decode cX0_noteIfClash 2 = .ok (.invokevirtual 107, 3) := by decide +kernel
theorem dX0_noteIfClash_5 : decode cX0_noteIfClash 5 = .ok (.aload_n 0, 1) := by decide +kernel
theorem dX0_noteIfClash_6 : decode cX0_noteIfClash 6 = .ok (.getfield 13, 3) := by decide +kernel
theorem dX0_noteIfClash_9 : decode cX0_noteIfClash 9 = .ok (.iload_n 1, 1) := by decide +kernel
theorem dX0_noteIfClash_10 : decode cX0_noteIfClash 10 = .ok (.iaload, 1) := by decide +kernel
theorem dX0_noteIfClash_11 : decode cX0_noteIfClash 11 = .ok (.if_icmp .eq 13, 3) := by decide +kernel
theorem dX0_noteIfClash_14 : decode cX0_noteIfClash 14 = .ok (.aload_n 0, 1) := by decide +kernel
theorem dX0_noteIfClash_15 : decode cX0_noteIfClash 15 = .ok (.dup, 1) := by decide +kernel
theorem dX0_noteIfClash_16 : decode cX0_noteIfClash 16 = .ok (.getfield 29, 3) := by decide +kernel
theorem dX0_noteIfClash_19 : decode cX0_noteIfClash 19 = .ok (.iconst 1, 1) := by decide +kernel
theorem dX0_noteIfClash_20 : decode cX0_noteIfClash 20 = .ok (.iadd, 1) := by decide +kernel
theorem dX0_noteIfClash_21 : decode cX0_noteIfClash 21 = .ok (.putfield 29, 3) := by decide +kernel
theorem dX0_noteIfClash_24 : decode cX0_noteIfClash 24 = .ok (.return_, 1) := by decide +kernel
theorem dX0_enqueue_0 : decode cX0_enqueue 0 = .ok (.aload_n 0, 1) := by decide +kernel
theorem dX0_enqueue_1 : decode cX0_enqueue 1 = .ok (.getfield 26, 3) := by decide +kernel
theorem dX0_enqueue_4 : decode cX0_enqueue 4 = .ok (.bipush 60, 2) := by decide +kernel
theorem dX0_enqueue_6 : decode cX0_enqueue 6 = .ok (.if_icmp .ge 23, 3) := by decide +kernel
theorem dX0_enqueue_9 : decode cX0_enqueue 9 = .ok (.aload_n 0, 1) := by decide +kernel
theorem dX0_enqueue_10 : decode cX0_enqueue 10 = .ok (.getfield 23, 3) := by decide +kernel
theorem dX0_enqueue_13 : decode cX0_enqueue 13 = .ok (.aload_n 0, 1) := by decide +kernel
theorem dX0_enqueue_14 : decode cX0_enqueue 14 = .ok (.getfield 26, 3) := by decide +kernel
theorem dX0_enqueue_17 : decode cX0_enqueue 17 = .ok (.iload_n 1, 1) := by decide +kernel
theorem dX0_enqueue_18 : decode cX0_enqueue 18 = .ok (.iastore, 1) := by decide +kernel
theorem dX0_enqueue_19 : decode cX0_enqueue 19 = .ok (.aload_n 0, 1) := by decide +kernel
theorem dX0_enqueue_20 : decode cX0_enqueue 20 = .ok (.dup, 1) := by decide +kernel
theorem dX0_enqueue_21 : decode cX0_enqueue 21 = .ok (.getfield 26, 3) := by decide +kernel
theorem dX0_enqueue_24 : decode cX0_enqueue 24 = .ok (.iconst 1, 1) := by decide +kernel
theorem dX0_enqueue_25 : decode cX0_enqueue 25 = .ok (.iadd, 1) := by decide +kernel
theorem dX0_enqueue_26 : decode cX0_enqueue 26 = .ok (.putfield 26, 3) := by decide +kernel
theorem dX0_enqueue_29 : decode cX0_enqueue 29 = .ok (.return_, 1) := by decide +kernel
set_option maxRecDepth 20000 in
theorem ggX0_runQueue_X0_takeOut : GoodIn wsX0_runQueue wsX0_takeOut := goodIn_r _ [7, 8, 9, 10, 11, 6, 12, 13, 14, 15, 16, 17, 18, 19, 20, 21, 22, 23, 24, 25, 26, 27, 28, 29, 30, 31, 32, 33, 34, 35, 36, 37, 38, 39, 40, 41, 42, 43, 44, 45, 46, 47, 48, 49, 50, 51, 52, 53, 54, 55, 56, 57, 58, 59, 60, 61, 62, 63, 1, 2, 64, 65, 66, 67, 68, 69, 70, 71, 72, 73, 74] (by decide +kernel) (by decide +kernel)
set_option maxRecDepth 20000 in
theorem gX0_runQueue_X0_takeOut : GoodIn wsX0_runQueue (wsV RX0 110 RX0 yX0_takeOut wsX0_takeOut) := goodIn_app (goodIn_of _ (by decide +kernel)) ggX0_runQueue_X0_takeOut
theorem dX0_runQueue_0 : decode cX0_runQueue 0 = .ok (.iconst 0, 1) := by decide +kernel
theorem dX0_runQueue_1 : decode cX0_runQueue 1 = .ok (.istore_n 1, 1) := by decide +kernel
theorem dX0_runQueue_2 : decode cX0_runQueue 2 = .ok (.iload_n 1, 1) := by decide +kernel
theorem dX0_runQueue_3 : decode cX0_runQueue 3 = .ok (.bipush 60, 2) := by decide +kernel
theorem dX0_runQueue_5 : decode cX0_runQueue 5 = .ok (.if_icmp .ge 27, 3) := by decide +kernel
theorem dX0_runQueue_8 : decode cX0_runQueue 8 = .ok (.iload_n 1, 1) := by decide +kernel
theorem dX0_runQueue_9 : decode cX0_runQueue 9 = .ok (.aload_n 0, 1) := by decide +kernel
theorem dX0_runQueue_10 : decode cX0_runQueue 10 = .ok (.getfield 26, 3) := by decide +kernel
theorem dX0_runQueue_13 : decode cX0_runQueue 13 = .ok (.if_icmp .ge 19, 3) := by decide +kernel
theorem dX0_runQueue_16 : decode cX0_runQueue 16 = .ok (.aload_n 0, 1) := by decide +kernel
theorem dX0_runQueue_17 : decode cX0_runQueue 17 = .ok (.aload_n 0, 1) := by decide +kernel
theorem dX0_runQueue_18 : decode cX0_runQueue 18 = .ok (.getfield 23, 3) := by decide +kernel
theorem dX0_runQueue_21 : decode cX0_runQueue 21 = .ok (.iload_n 1, 1) := by decide +kernel
theorem dX0_runQueue_22 : decode cX0_runQueue 22 = .ok (.iaload, 1) := by decide +kernel
theorem dX0_runQueue_23 : decode cX0_runQueue 23 = .ok (.invokevirtual 110, 3) := by decide +kernel
theorem dX0_runQueue_26 : decode cX0_runQueue 26 = .ok (.iinc 1 1, 3) := by decide +kernel
theorem dX0_runQueue_29 : decode cX0_runQueue 29 = .ok (.goto (-27), 3) := by decide +kernel
theorem dX0_runQueue_32 : decode cX0_runQueue 32 = .ok (.return_, 1) := by decide +kernel
set_option maxRecDepth 20000 in
theorem ggX0_takeOut_X0_unknownBits : GoodIn wsX0_takeOut wsX0_unknownBits := goodIn_r _ [6, 7, 8, 60, 61, 62, 63, 64, 65, 66, 67, 68, 69, 70] (by decide +kernel) (by decide +kernel)
set_option maxRecDepth 20000 in
theorem gX0_takeOut_X0_unknownBits : GoodIn wsX0_takeOut (wsV RX0 104 RX0 yX0_unknownBits wsX0_unknownBits) := goodIn_app (goodIn_of _ (by decide +kernel)) ggX0_takeOut_X0_unknownBits
set_option maxRecDepth 20000 in
theorem ggX0_takeOut_X0_noteIfClash : GoodIn wsX0_takeOut wsX0_noteIfClash := goodIn_r _ [12, 1, 13, 14, 15, 16, 5, 17, 18, 7, 8, 19, 20, 21, 22, 23, 24, 60, 61, 62, 63, 64, 65, 66, 67, 68, 69, 70] (by decide +kernel) (by decide +kernel)
set_option maxRecDepth 20000 in
theorem gX0_takeOut_X0_noteIfClash : GoodIn wsX0_takeOut (wsV RX0 78 RX0 yX0_noteIfClash wsX0_noteIfClash) := goodIn_app (goodIn_of _ (by decide +kernel)) ggX0_takeOut_X0_noteIfClash
set_option maxRecDepth 20000 in
theorem ggX0_takeOut_J6_numberOfTrailingZeros_0f7a4 : GoodIn wsX0_takeOut wsJ6_numberOfTrailingZeros_0f7a4 := goodIn_r _ [28, 29] (by decide +kernel) (by decide +kernel)
set_option maxRecDepth 20000 in
theorem gX0_takeOut_J6_numberOfTrailingZeros_0f7a4 : GoodIn wsX0_takeOut (va_wsS RX0 113 yJ6_numberOfTrailingZeros_0f7a4 wsJ6_numberOfTrailingZeros_0f7a4) := goodIn_app (goodIn_of _ (by decide +kernel)) ggX0_takeOut_J6_numberOfTrailingZeros_0f7a4
set_option maxRecDepth 20000 in
theorem ggX0_takeOut_X0_xorOfKnown : GoodIn wsX0_takeOut wsX0_xorOfKnown := goodIn_r _ [17, 18, 7, 8, 19, 20, 5, 21, 22, 23, 24, 60, 61, 62, 63, 64, 65, 66, 67, 68, 69, 70] (by decide +kernel) (by decide +kernel)
set_option maxRecDepth 20000 in
theorem gX0_takeOut_X0_xorOfKnown : GoodIn wsX0_takeOut (wsV RX0 107 RX0 yX0_xorOfKnown wsX0_xorOfKnown) := goodIn_app (goodIn_of _ (by decide +kernel)) ggX0_takeOut_X0_xorOfKnown
set_option maxRecDepth 20000 in
theorem ggX0_takeOut_X0_learn : GoodIn wsX0_takeOut wsX0_learn := goodIn_r _ [33, 18, 34, 8, 35, 36, 37, 5, 38, 39, 40, 27, 41, 42, 43, 44, 60, 61, 62, 63, 64, 65, 66, 67, 68, 69, 70] (by decide +kernel) (by decide +kernel)
set_option maxRecDepth 20000 in
theorem gX0_takeOut_X0_learn : GoodIn wsX0_takeOut (wsV RX0 116 RX0 yX0_learn wsX0_learn) := goodIn_app (goodIn_of _ (by decide +kernel)) ggX0_takeOut_X0_learn
set_option maxRecDepth 20000 in
theorem ggX0_takeOut_X0_enqueueOpenedBy : GoodIn wsX0_takeOut wsX0_enqueueOpenedBy := goodIn_r _ [48, 49, 7, 22, 23, 5, 24, 50, 51, 52, 53, 2, 3, 4, 6, 8, 39, 40, 27, 41, 42, 43, 44, 54, 55, 56, 57, 58, 59, 60, 61, 62, 63, 64, 65, 66, 67, 68, 69, 70] (by decide +kernel) (by decide +kernel)
set_option maxRecDepth 20000 in
theorem gX0_takeOut_X0_enqueueOpenedBy : GoodIn wsX0_takeOut (wsV RX0 120 RX0 yX0_enqueueOpenedBy wsX0_enqueueOpenedBy) := goodIn_app (goodIn_of _ (by decide +kernel)) ggX0_takeOut_X0_enqueueOpenedBy
theorem dX0_takeOut_0 : decode cX0_takeOut 0 = .ok (.aload_n 0, 1) := by decide +kernel
theorem dX0_takeOut_1 : decode cX0_takeOut 1 = .ok (.iload_n 1, 1) := by decide +kernel
theorem dX0_takeOut_2 : decode cX0_takeOut 2 = .ok (.invokevirtual 104, 3) := by decide +kernel
theorem dX0_takeOut_5 : decode cX0_takeOut 5 = .ok (.istore_n 2, 1) := by decide +kernel
theorem dX0_takeOut_6 : decode cX0_takeOut 6 = .ok (.iload_n 2, 1) := by decide +kernel
theorem dX0_takeOut_7 : decode cX0_takeOut 7 = .ok (.ifCond .ne 9, 3) := by decide +kernel
theorem dX0_takeOut_10 : decode cX0_takeOut 10 = .ok (.aload_n 0, 1) := by decide +kernel
theorem dX0_takeOut_11 : decode cX0_takeOut 11 = .ok (.iload_n 1, 1) := by decide +kernel
theorem dX0_takeOut_12 : decode cX0_takeOut 12 = .ok (.invokevirtual 78, 3) := by decide +kernel
theorem dX0_takeOut_15 : decode cX0_takeOut 15 = .ok (.return_, 1) := by decide +kernel
theorem dX0_takeOut_16 : decode cX0_takeOut 16 = .ok (.iload_n 2, 1) := by decide +kernel
theorem dX0_takeOut_17 : decode cX0_takeOut 17 = .ok (.invokestatic 113, 3) := by decide +kernel
theorem dX0_takeOut_20 : decode cX0_takeOut 20 = .ok (.istore_n 3, 1) := by decide +kernel
theorem dX0_takeOut_21 : decode cX0_takeOut 21 = .ok (.aload_n 0, 1) := by decide +kernel
theorem dX0_takeOut_22 : decode cX0_takeOut 22 = .ok (.iload_n 3, 1) := by decide +kernel
theorem dX0_takeOut_23 : decode cX0_takeOut 23 = .ok (.aload_n 0, 1) := by decide +kernel
theorem dX0_takeOut_24 : decode cX0_takeOut 24 = .ok (.getfield 13, 3) := by decide +kernel
theorem dX0_takeOut_27 : decode cX0_takeOut 27 = .ok (.iload_n 1, 1) := by decide +kernel
theorem dX0_takeOut_28 : decode cX0_takeOut 28 = .ok (.iaload, 1) := by decide +kernel
theorem dX0_takeOut_29 : decode cX0_takeOut 29 = .ok (.aload_n 0, 1) := by decide +kernel
theorem dX0_takeOut_30 : decode cX0_takeOut 30 = .ok (.iload_n 1, 1) := by decide +kernel
theorem dX0_takeOut_31 : decode cX0_takeOut 31 = .ok (.invokevirtual 107, 3) := by decide +kernel
theorem dX0_takeOut_34 : decode cX0_takeOut 34 = .ok (.ixor, 1) := by decide +kernel
theorem dX0_takeOut_35 : decode cX0_takeOut 35 = .ok (.invokevirtual 116, 3) := by decide +kernel
theorem dX0_takeOut_38 : decode cX0_takeOut 38 = .ok (.aload_n 0, 1) := by decide +kernel
theorem dX0_takeOut_39 : decode cX0_takeOut 39 = .ok (.iload_n 3, 1) := by decide +kernel
theorem dX0_takeOut_40 : decode cX0_takeOut 40 = .ok (.invokevirtual 120, 3) := by decide +kernel
theorem dX0_takeOut_43 : decode cX0_takeOut 43 = .ok (.return_, 1) := by decide +kernel
set_option maxRecDepth 20000 in
theorem ggX0_learn_X0_knownCount : GoodIn wsX0_learn wsX0_knownCount := goodIn_r _ [8, 3, 9, 10, 11, 12, 13, 14, 15, 16, 17, 18, 19, 20, 21, 22, 23, 24, 25, 26] (by decide +kernel) (by decide +kernel)
set_option maxRecDepth 20000 in
theorem gX0_learn_X0_knownCount : GoodIn wsX0_learn (wsV RX0 84 RX0 yX0_knownCount wsX0_knownCount) := goodIn_app (goodIn_of _ (by decide +kernel)) ggX0_learn_X0_knownCount
theorem dX0_learn_0 : decode cX0_learn 0 = .ok (.aload_n 0, 1) := by decide +kernel
theorem dX0_learn_1 : decode cX0_learn 1 = .ok (.getfield 44, 3) := by decide +kernel
theorem dX0_learn_4 : decode cX0_learn 4 = .ok (.iload_n 1, 1) := by decide +kernel
theorem dX0_learn_5 : decode cX0_learn 5 = .ok (.iload_n 2, 1) := by decide +kernel
theorem dX0_learn_6 : decode cX0_learn 6 = .ok (.iastore, 1) := by decide +kernel
theorem dX0_learn_7 : decode cX0_learn 7 = .ok (.aload_n 0, 1) := by decide +kernel
theorem dX0_learn_8 : decode cX0_learn 8 = .ok (.getfield 47, 3) := by decide +kernel
theorem dX0_learn_11 : decode cX0_learn 11 = .ok (.aload_n 0, 1) := by decide +kernel
theorem dX0_learn_12 : decode cX0_learn 12 = .ok (.invokevirtual 84, 3) := by decide +kernel
theorem dX0_learn_15 : decode cX0_learn 15 = .ok (.iload_n 1, 1) := by decide +kernel
theorem dX0_learn_16 : decode cX0_learn 16 = .ok (.iastore, 1) := by decide +kernel
theorem dX0_learn_17 : decode cX0_learn 17 = .ok (.aload_n 0, 1) := by decide +kernel
theorem dX0_learn_18 : decode cX0_learn 18 = .ok (.dup, 1) := by decide +kernel
theorem dX0_learn_19 : decode cX0_learn 19 = .ok (.getfield 20, 3) := by decide +kernel
theorem dX0_learn_22 : decode cX0_learn 22 = .ok (.iconst 1, 1) := by decide +kernel
theorem dX0_learn_23 : decode cX0_learn 23 = .ok (.iload_n 1, 1) := by decide +kernel
theorem dX0_learn_24 : decode cX0_learn 24 = .ok (.ishl, 1) := by decide +kernel
theorem dX0_learn_25 : decode cX0_learn 25 = .ok (.ior, 1) := by decide +kernel
theorem dX0_learn_26 : decode cX0_learn 26 = .ok (.putfield 20, 3) := by decide +kernel
theorem dX0_learn_29 : decode cX0_learn 29 = .ok (.return_, 1) := by decide +kernel
set_option maxRecDepth 20000 in
theorem ggX0_enqueueOpenedBy_X0_hasBit : GoodIn wsX0_enqueueOpenedBy wsX0_hasBit := goodIn_r _ [6] (by decide +kernel) (by decide +kernel)
set_option maxRecDepth 20000 in
theorem gX0_enqueueOpenedBy_X0_hasBit : GoodIn wsX0_enqueueOpenedBy (va_wsS RX0 100 yX0_hasBit wsX0_hasBit) := goodIn_app (goodIn_of _ (by decide +kernel)) ggX0_enqueueOpenedBy_X0_hasBit
set_option maxRecDepth 20000 in
theorem ggX0_enqueueOpenedBy_X0_unknownCount : GoodIn wsX0_enqueueOpenedBy wsX0_unknownCount := goodIn_r _ [10, 11, 12, 13, 5, 14, 2, 15, 16, 17, 18, 19, 20, 21, 22, 29, 30, 31, 32, 33, 34, 35, 36, 37, 38, 39] (by decide +kernel) (by decide +kernel)
set_option maxRecDepth 20000 in
theorem gX0_enqueueOpenedBy_X0_unknownCount : GoodIn wsX0_enqueueOpenedBy (wsV RX0 71 RX0 yX0_unknownCount wsX0_unknownCount) := goodIn_app (goodIn_of _ (by decide +kernel)) ggX0_enqueueOpenedBy_X0_unknownCount
set_option maxRecDepth 20000 in
theorem ggX0_enqueueOpenedBy_X0_enqueue : GoodIn wsX0_enqueueOpenedBy wsX0_enqueue := goodIn_r _ [26, 27, 28, 29, 30, 31, 32, 33, 34, 35, 36, 37, 38, 39] (by decide +kernel) (by decide +kernel)
set_option maxRecDepth 20000 in
theorem gX0_enqueueOpenedBy_X0_enqueue : GoodIn wsX0_enqueueOpenedBy (wsV RX0 74 RX0 yX0_enqueue wsX0_enqueue) := goodIn_app (goodIn_of _ (by decide +kernel)) ggX0_enqueueOpenedBy_X0_enqueue
theorem dX0_enqueueOpenedBy_0 : decode cX0_enqueueOpenedBy 0 = .ok (.iconst 0, 1) := by decide +kernel
theorem dX0_enqueueOpenedBy_1 : decode cX0_enqueueOpenedBy 1 = .ok (.istore_n 2, 1) := by decide +kernel
theorem dX0_enqueueOpenedBy_2 : decode cX0_enqueueOpenedBy 2 = .ok (.iload_n 2, 1) := by decide +kernel
theorem dX0_enqueueOpenedBy_3 : decode cX0_enqueueOpenedBy 3 = .ok (.aload_n 0, 1) := by decide +kernel
theorem dX0_enqueueOpenedBy_4 : decode cX0_enqueueOpenedBy 4 = .ok (.getfield 16, 3) := by decide +kernel
theorem dX0_enqueueOpenedBy_7 : decode cX0_enqueueOpenedBy 7 = .ok (.if_icmp .ge 36, 3) := by decide +kernel
theorem dX0_enqueueOpenedBy_10 : decode cX0_enqueueOpenedBy 10 = .ok (.aload_n 0, 1) := by decide +kernel
theorem dX0_enqueueOpenedBy_11 : decode cX0_enqueueOpenedBy 11 = .ok (.getfield 9, 3) := by decide +kernel
theorem dX0_enqueueOpenedBy_14 : decode cX0_enqueueOpenedBy 14 = .ok (.iload_n 2, 1) := by decide +kernel
theorem dX0_enqueueOpenedBy_15 : decode cX0_enqueueOpenedBy 15 = .ok (.iaload, 1) := by decide +kernel
theorem dX0_enqueueOpenedBy_16 : decode cX0_enqueueOpenedBy 16 = .ok (.iload_n 1, 1) := by decide +kernel
theorem dX0_enqueueOpenedBy_17 : decode cX0_enqueueOpenedBy 17 = .ok (.invokestatic 100, 3) := by decide +kernel
theorem dX0_enqueueOpenedBy_20 : decode cX0_enqueueOpenedBy 20 = .ok (.ifCond .eq 17, 3) := by decide +kernel
theorem dX0_enqueueOpenedBy_23 : decode cX0_enqueueOpenedBy 23 = .ok (.aload_n 0, 1) := by decide +kernel
theorem dX0_enqueueOpenedBy_24 : decode cX0_enqueueOpenedBy 24 = .ok (.iload_n 2, 1) := by decide +kernel
theorem dX0_enqueueOpenedBy_25 : decode cX0_enqueueOpenedBy 25 = .ok (.invokevirtual 71, 3) := by decide +kernel
theorem dX0_enqueueOpenedBy_28 : decode cX0_enqueueOpenedBy 28 = .ok (.iconst 1, 1) := by decide +kernel
theorem dX0_enqueueOpenedBy_29 : decode cX0_enqueueOpenedBy 29 = .ok (.if_icmp .ne 8, 3) := by decide +kernel
theorem dX0_enqueueOpenedBy_32 : decode cX0_enqueueOpenedBy 32 = .ok (.aload_n 0, 1) := by decide +kernel
theorem dX0_enqueueOpenedBy_33 : decode cX0_enqueueOpenedBy 33 = .ok (.iload_n 2, 1) := by decide +kernel
theorem dX0_enqueueOpenedBy_34 : decode cX0_enqueueOpenedBy 34 = .ok (.invokevirtual 74, 3) := by decide +kernel
theorem dX0_enqueueOpenedBy_37 : decode cX0_enqueueOpenedBy 37 = .ok (.iinc 2 1, 3) := by decide +kernel
theorem dX0_enqueueOpenedBy_40 : decode cX0_enqueueOpenedBy 40 = .ok (.goto (-38), 3) := by decide +kernel
theorem dX0_enqueueOpenedBy_43 : decode cX0_enqueueOpenedBy 43 = .ok (.return_, 1) := by decide +kernel
theorem dX1_init_0 : decode cX1_init 0 = .ok (.aload_n 0, 1) := by decide +kernel
theorem dX1_init_1 : decode cX1_init 1 = .ok (.invokespecial 1, 3) := by decide +kernel
theorem dX1_init_4 : decode cX1_init 4 = .ok (.aload_n 0, 1) := by decide +kernel
theorem dX1_init_5 : decode cX1_init 5 = .ok (.bipush 32, 2) := by decide +kernel
theorem dX1_init_7 : decode cX1_init 7 = .ok (.newarray .int, 2) := by decide +kernel
theorem dX1_init_9 : decode cX1_init 9 = .ok (.putfield 7, 3) := by decide +kernel
theorem dX1_init_12 : decode cX1_init 12 = .ok (.aload_n 0, 1) := by decide +kernel
theorem dX1_init_13 : decode cX1_init 13 = .ok (.bipush 60, 2) := by decide +kernel
theorem dX1_init_15 : decode cX1_init 15 = .ok (.newarray .int, 2) := by decide +kernel
theorem dX1_init_17 : decode cX1_init 17 = .ok (.putfield 13, 3) := by decide +kernel
theorem dX1_init_20 : decode cX1_init 20 = .ok (.aload_n 0, 1) := by decide +kernel
theorem dX1_init_21 : decode cX1_init 21 = .ok (.bipush 60, 2) := by decide +kernel
theorem dX1_init_23 : decode cX1_init 23 = .ok (.newarray .int, 2) := by decide +kernel
theorem dX1_init_25 : decode cX1_init 25 = .ok (.putfield 16, 3) := by decide +kernel
theorem dX1_init_28 : decode cX1_init 28 = .ok (.aload_n 0, 1) := by decide +kernel
theorem dX1_init_29 : decode cX1_init 29 = .ok (.bipush 60, 2) := by decide +kernel
theorem dX1_init_31 : decode cX1_init 31 = .ok (.newarray .int, 2) := by decide +kernel
theorem dX1_init_33 : decode cX1_init 33 = .ok (.putfield 19, 3) := by decide +kernel
theorem dX1_init_36 : decode cX1_init 36 = .ok (.aload_n 0, 1) := by decide +kernel
theorem dX1_init_37 : decode cX1_init 37 = .ok (.bipush 32, 2) := by decide +kernel
theorem dX1_init_39 : decode cX1_init 39 = .ok (.newarray .boolean, 2) := by decide +kernel
theorem dX1_init_41 : decode cX1_init 41 = .ok (.putfield 22, 3) := by decide +kernel
theorem dX1_init_44 : decode cX1_init 44 = .ok (.aload_n 0, 1) := by decide +kernel
theorem dX1_init_45 : decode cX1_init 45 = .ok (.bipush 32, 2) := by decide +kernel
theorem dX1_init_47 : decode cX1_init 47 = .ok (.newarray .int, 2) := by decide +kernel
theorem dX1_init_49 : decode cX1_init 49 = .ok (.putfield 26, 3) := by decide +kernel
theorem dX1_init_52 : decode cX1_init 52 = .ok (.aload_n 0, 1) := by decide +kernel
theorem dX1_init_53 : decode cX1_init 53 = .ok (.bipush 32, 2) := by decide +kernel
theorem dX1_init_55 : decode cX1_init 55 = .ok (.newarray .int, 2) := by decide +kernel
theorem dX1_init_57 : decode cX1_init 57 = .ok (.putfield 29, 3) := by decide +kernel
theorem dX1_init_60 : decode cX1_init 60 = .ok (.aload_n 0, 1) := by decide +kernel
theorem dX1_init_61 : decode cX1_init 61 = .ok (.bipush 32, 2) := by decide +kernel
theorem dX1_init_63 : decode cX1_init 63 = .ok (.newarray .boolean, 2) := by decide +kernel
theorem dX1_init_65 : decode cX1_init 65 = .ok (.putfield 32, 3) := by decide +kernel
theorem dX1_init_68 : decode cX1_init 68 = .ok (.iload_n 1, 1) := by decide +kernel
theorem dX1_init_69 : decode cX1_init 69 = .ok (.bipush 32, 2) := by decide +kernel
theorem dX1_init_71 : decode cX1_init 71 = .ok (.irem, 1) := by decide +kernel
theorem dX1_init_72 : decode cX1_init 72 = .ok (.istore_n 2, 1) := by decide +kernel
theorem dX1_init_73 : decode cX1_init 73 = .ok (.aload_n 0, 1) := by decide +kernel
theorem dX1_init_74 : decode cX1_init 74 = .ok (.iconst 1, 1) := by decide +kernel
theorem dX1_init_75 : decode cX1_init 75 = .ok (.iload_n 2, 1) := by decide +kernel
theorem dX1_init_76 : decode cX1_init 76 = .ok (.ifCond .ge 10, 3) := by decide +kernel
theorem dX1_init_79 : decode cX1_init 79 = .ok (.iload_n 2, 1) := by decide +kernel
theorem dX1_init_80 : decode cX1_init 80 = .ok (.bipush 32, 2) := by decide +kernel
theorem dX1_init_82 : decode cX1_init 82 = .ok (.iadd, 1) := by decide +kernel
theorem dX1_init_83 : decode cX1_init 83 = .ok (.goto 4, 3) := by decide +kernel
theorem dX1_init_86 : decode cX1_init 86 = .ok (.iload_n 2, 1) := by decide +kernel
theorem dX1_init_87 : decode cX1_init 87 = .ok (.iadd, 1) := by decide +kernel
theorem dX1_init_88 : decode cX1_init 88 = .ok (.putfield 35, 3) := by decide +kernel
theorem dX1_init_91 : decode cX1_init 91 = .ok (.return_, 1) := by decide +kernel
theorem dX1_drawn_0 : decode cX1_drawn 0 = .ok (.aload_n 0, 1) := by decide +kernel
theorem dX1_drawn_1 : decode cX1_drawn 1 = .ok (.aload_n 0, 1) := by decide +kernel
theorem dX1_drawn_2 : decode cX1_drawn 2 = .ok (.getfield 39, 3) := by decide +kernel
theorem dX1_drawn_5 : decode cX1_drawn 5 = .ok (.ldc 42, 2) := by decide +kernel
theorem dX1_drawn_7 : decode cX1_drawn 7 = .ok (.imul, 1) := by decide +kernel
theorem dX1_drawn_8 : decode cX1_drawn 8 = .ok (.ldc 43, 2) := by decide +kernel
theorem dX1_drawn_10 : decode cX1_drawn 10 = .ok (.iadd, 1) := by decide +kernel
theorem dX1_drawn_11 : decode cX1_drawn 11 = .ok (.putfield 39, 3) := by decide +kernel
theorem dX1_drawn_14 : decode cX1_drawn 14 = .ok (.aload_n 0, 1) := by decide +kernel
theorem dX1_drawn_15 : decode cX1_drawn 15 = .ok (.getfield 39, 3) := by decide +kernel
theorem dX1_drawn_18 : decode cX1_drawn 18 = .ok (.bipush 16, 2) := by decide +kernel
theorem dX1_drawn_20 : decode cX1_drawn 20 = .ok (.iushr, 1) := by decide +kernel
theorem dX1_drawn_21 : decode cX1_drawn 21 = .ok (.ireturn, 1) := by decide +kernel
set_option maxRecDepth 20000 in
theorem ggX1_draw_X1_drawn : GoodIn wsX1_draw wsX1_drawn := goodIn_r _ [9, 1, 10, 11, 12, 13, 14, 15, 16, 17, 18, 19, 20, 21, 22, 23, 24, 25] (by decide +kernel) (by decide +kernel)
set_option maxRecDepth 20000 in
theorem gX1_draw_X1_drawn : GoodIn wsX1_draw (wsV RX1 44 RX1 yX1_drawn wsX1_drawn) := goodIn_app (goodIn_of _ (by decide +kernel)) ggX1_draw_X1_drawn
theorem dX1_draw_0 : decode cX1_draw 0 = .ok (.aload_n 0, 1) := by decide +kernel
theorem dX1_draw_1 : decode cX1_draw 1 = .ok (.iload_n 1, 1) := by decide +kernel
theorem dX1_draw_2 : decode cX1_draw 2 = .ok (.putfield 39, 3) := by decide +kernel
theorem dX1_draw_5 : decode cX1_draw 5 = .ok (.aload_n 0, 1) := by decide +kernel
theorem dX1_draw_6 : decode cX1_draw 6 = .ok (.invokevirtual 44, 3) := by decide +kernel
theorem dX1_draw_9 : decode cX1_draw 9 = .ok (.istore_n 2, 1) := by decide +kernel
theorem dX1_draw_10 : decode cX1_draw 10 = .ok (.ldc 48, 2) := by decide +kernel
theorem dX1_draw_12 : decode cX1_draw 12 = .ok (.aload_n 0, 1) := by decide +kernel
theorem dX1_draw_13 : decode cX1_draw 13 = .ok (.getfield 35, 3) := by decide +kernel
theorem dX1_draw_16 : decode cX1_draw 16 = .ok (.idiv, 1) := by decide +kernel
theorem dX1_draw_17 : decode cX1_draw 17 = .ok (.istore_n 3, 1) := by decide +kernel
theorem dX1_draw_18 : decode cX1_draw 18 = .ok (.iconst 1, 1) := by decide +kernel
theorem dX1_draw_19 : decode cX1_draw 19 = .ok (.istore 4, 2) := by decide +kernel
theorem dX1_draw_21 : decode cX1_draw 21 = .ok (.iload 4, 2) := by decide +kernel
theorem dX1_draw_23 : decode cX1_draw 23 = .ok (.aload_n 0, 1) := by decide +kernel
theorem dX1_draw_24 : decode cX1_draw 24 = .ok (.getfield 35, 3) := by decide +kernel
theorem dX1_draw_27 : decode cX1_draw 27 = .ok (.if_icmp .ge 27, 3) := by decide +kernel
theorem dX1_draw_30 : decode cX1_draw 30 = .ok (.iload_n 2, 1) := by decide +kernel
theorem dX1_draw_31 : decode cX1_draw 31 = .ok (.iload_n 3, 1) := by decide +kernel
theorem dX1_draw_32 : decode cX1_draw 32 = .ok (.if_icmp .lt 22, 3) := by decide +kernel
theorem dX1_draw_35 : decode cX1_draw 35 = .ok (.iinc 4 1, 3) := by decide +kernel
theorem dX1_draw_38 : decode cX1_draw 38 = .ok (.iload_n 3, 1) := by decide +kernel
theorem dX1_draw_39 : decode cX1_draw 39 = .ok (.ldc 48, 2) := by decide +kernel
theorem dX1_draw_41 : decode cX1_draw 41 = .ok (.iload 4, 2) := by decide +kernel
theorem dX1_draw_43 : decode cX1_draw 43 = .ok (.iload 4, 2) := by decide +kernel
theorem dX1_draw_45 : decode cX1_draw 45 = .ok (.iconst 1, 1) := by decide +kernel
theorem dX1_draw_46 : decode cX1_draw 46 = .ok (.isub, 1) := by decide +kernel
theorem dX1_draw_47 : decode cX1_draw 47 = .ok (.imul, 1) := by decide +kernel
theorem dX1_draw_48 : decode cX1_draw 48 = .ok (.idiv, 1) := by decide +kernel
theorem dX1_draw_49 : decode cX1_draw 49 = .ok (.iadd, 1) := by decide +kernel
theorem dX1_draw_50 : decode cX1_draw 50 = .ok (.istore_n 3, 1) := by decide +kernel
theorem dX1_draw_51 : decode cX1_draw 51 = .ok (.goto (-30), 3) := by decide +kernel
theorem dX1_draw_54 : decode cX1_draw 54 = .ok (.iconst 0, 1) := by decide +kernel
theorem dX1_draw_55 : decode cX1_draw 55 = .ok (.istore 5, 2) := by decide +kernel
theorem dX1_draw_57 : decode cX1_draw 57 = .ok (.iload 5, 2) := by decide +kernel
theorem dX1_draw_59 : decode cX1_draw 59 = .ok (.aload_n 0, 1) := by decide +kernel
theorem dX1_draw_60 : decode cX1_draw 60 = .ok (.getfield 35, 3) := by decide +kernel
theorem dX1_draw_63 : decode cX1_draw 63 = .ok (.if_icmp .ge 17, 3) := by decide +kernel
theorem dX1_draw_66 : decode cX1_draw 66 = .ok (.aload_n 0, 1) := by decide +kernel
theorem dX1_draw_67 : decode cX1_draw 67 = .ok (.getfield 32, 3) := by decide +kernel
theorem dX1_draw_70 : decode cX1_draw 70 = .ok (.iload 5, 2) := by decide +kernel
theorem dX1_draw_72 : decode cX1_draw 72 = .ok (.iconst 0, 1) := by decide +kernel
theorem dX1_draw_73 : decode cX1_draw 73 = .ok (.bastore, 1) := by decide +kernel
theorem dX1_draw_74 : decode cX1_draw 74 = .ok (.iinc 5 1, 3) := by decide +kernel
theorem dX1_draw_77 : decode cX1_draw 77 = .ok (.goto (-20), 3) := by decide +kernel
theorem dX1_draw_80 : decode cX1_draw 80 = .ok (.iconst 0, 1) := by decide +kernel
theorem dX1_draw_81 : decode cX1_draw 81 = .ok (.istore 5, 2) := by decide +kernel
theorem dX1_draw_83 : decode cX1_draw 83 = .ok (.iload 5, 2) := by decide +kernel
theorem dX1_draw_85 : decode cX1_draw 85 = .ok (.iload 4, 2) := by decide +kernel
theorem dX1_draw_87 : decode cX1_draw 87 = .ok (.if_icmp .ge 45, 3) := by decide +kernel
theorem dX1_draw_90 : decode cX1_draw 90 = .ok (.aload_n 0, 1) := by decide +kernel
theorem dX1_draw_91 : decode cX1_draw 91 = .ok (.invokevirtual 44, 3) := by decide +kernel
theorem dX1_draw_94 : decode cX1_draw 94 = .ok (.aload_n 0, 1) := by decide +kernel
theorem dX1_draw_95 : decode cX1_draw 95 = .ok (.getfield 35, 3) := by decide +kernel
theorem dX1_draw_98 : decode cX1_draw 98 = .ok (.irem, 1) := by decide +kernel
theorem dX1_draw_99 : decode cX1_draw 99 = .ok (.istore 6, 2) := by decide +kernel
theorem dX1_draw_101 : decode cX1_draw 101 = .ok (.iload 5, 2) := by decide +kernel
theorem dX1_draw_103 : decode cX1_draw 103 = .ok (.aload_n 0, 1) := by decide +kernel
theorem dX1_draw_104 : decode cX1_draw 104 = .ok (.getfield 32, 3) := by decide +kernel
theorem dX1_draw_107 : decode cX1_draw 107 = .ok (.iload 6, 2) := by decide +kernel
theorem dX1_draw_109 : decode cX1_draw 109 = .ok (.baload, 1) := by decide +kernel
theorem dX1_draw_110 : decode cX1_draw 110 = .ok (.ifCond .eq 7, 3) := by decide +kernel
theorem dX1_draw_113 : decode cX1_draw 113 = .ok (.iconst 0, 1) := by decide +kernel
theorem dX1_draw_114 : decode cX1_draw 114 = .ok (.goto 4, 3) := by decide +kernel
theorem dX1_draw_117 : decode cX1_draw 117 = .ok (.iconst 1, 1) := by decide +kernel
theorem dX1_draw_118 : decode cX1_draw 118 = .ok (.iadd, 1) := by decide +kernel
theorem dX1_draw_119 : decode cX1_draw 119 = .ok (.istore 5, 2) := by decide +kernel
theorem dX1_draw_121 : decode cX1_draw 121 = .ok (.aload_n 0, 1) := by decide +kernel
theorem dX1_draw_122 : decode cX1_draw 122 = .ok (.getfield 32, 3) := by decide +kernel
theorem dX1_draw_125 : decode cX1_draw 125 = .ok (.iload 6, 2) := by decide +kernel
theorem dX1_draw_127 : decode cX1_draw 127 = .ok (.iconst 1, 1) := by decide +kernel
theorem dX1_draw_128 : decode cX1_draw 128 = .ok (.bastore, 1) := by decide +kernel
theorem dX1_draw_129 : decode cX1_draw 129 = .ok (.goto (-46), 3) := by decide +kernel
theorem dX1_draw_132 : decode cX1_draw 132 = .ok (.iload 4, 2) := by decide +kernel
theorem dX1_draw_134 : decode cX1_draw 134 = .ok (.ireturn, 1) := by decide +kernel
theorem dX1_put_0 : decode cX1_put 0 = .ok (.iload_n 1, 1) := by decide +kernel
theorem dX1_put_1 : decode cX1_put 1 = .ok (.ifCond .lt 11, 3) := by decide +kernel
theorem dX1_put_4 : decode cX1_put 4 = .ok (.iload_n 1, 1) := by decide +kernel
theorem dX1_put_5 : decode cX1_put 5 = .ok (.aload_n 0, 1) := by decide +kernel
theorem dX1_put_6 : decode cX1_put 6 = .ok (.getfield 35, 3) := by decide +kernel
theorem dX1_put_9 : decode cX1_put 9 = .ok (.if_icmp .lt 5, 3) := by decide +kernel
theorem dX1_put_12 : decode cX1_put 12 = .ok (.iconst (-1), 1) := by decide +kernel
theorem dX1_put_13 : decode cX1_put 13 = .ok (.ireturn, 1) := by decide +kernel
theorem dX1_put_14 : decode cX1_put 14 = .ok (.aload_n 0, 1) := by decide +kernel
theorem dX1_put_15 : decode cX1_put 15 = .ok (.getfield 7, 3) := by decide +kernel
theorem dX1_put_18 : decode cX1_put 18 = .ok (.iload_n 1, 1) := by decide +kernel
theorem dX1_put_19 : decode cX1_put 19 = .ok (.iload_n 2, 1) := by decide +kernel
theorem dX1_put_20 : decode cX1_put 20 = .ok (.iastore, 1) := by decide +kernel
theorem dX1_put_21 : decode cX1_put 21 = .ok (.iconst 1, 1) := by decide +kernel
theorem dX1_put_22 : decode cX1_put 22 = .ok (.ireturn, 1) := by decide +kernel
set_option maxRecDepth 20000 in
theorem ggX1_drop_X1_draw : GoodIn wsX1_drop wsX1_draw := goodIn_r _ [8, 9, 10, 1, 2, 11, 12, 13, 7, 14, 15, 16, 17, 18, 19, 20, 21, 22, 23, 24, 25, 26, 27, 28, 29, 30] (by decide +kernel) (by decide +kernel)
set_option maxRecDepth 20000 in
theorem gX1_drop_X1_draw : GoodIn wsX1_drop (wsV RX1 49 RX1 yX1_draw wsX1_draw) := goodIn_app (goodIn_of _ (by decide +kernel)) ggX1_drop_X1_draw
theorem dX1_drop_0 : decode cX1_drop 0 = .ok (.aload_n 0, 1) := by decide +kernel
theorem dX1_drop_1 : decode cX1_drop 1 = .ok (.iload_n 1, 1) := by decide +kernel
theorem dX1_drop_2 : decode cX1_drop 2 = .ok (.invokevirtual 49, 3) := by decide +kernel
theorem dX1_drop_5 : decode cX1_drop 5 = .ok (.istore_n 2, 1) := by decide +kernel
theorem dX1_drop_6 : decode cX1_drop 6 = .ok (.iconst 0, 1) := by decide +kernel
theorem dX1_drop_7 : decode cX1_drop 7 = .ok (.istore_n 3, 1) := by decide +kernel
theorem dX1_drop_8 : decode cX1_drop 8 = .ok (.iconst 0, 1) := by decide +kernel
theorem dX1_drop_9 : decode cX1_drop 9 = .ok (.istore 4, 2) := by decide +kernel
theorem dX1_drop_11 : decode cX1_drop 11 = .ok (.iload 4, 2) := by decide +kernel
theorem dX1_drop_13 : decode cX1_drop 13 = .ok (.aload_n 0, 1) := by decide +kernel
theorem dX1_drop_14 : decode cX1_drop 14 = .ok (.getfield 35, 3) := by decide +kernel
theorem dX1_drop_17 : decode cX1_drop 17 = .ok (.if_icmp .ge 33, 3) := by decide +kernel
theorem dX1_drop_20 : decode cX1_drop 20 = .ok (.iload_n 3, 1) := by decide +kernel
theorem dX1_drop_21 : decode cX1_drop 21 = .ok (.aload_n 0, 1) := by decide +kernel
theorem dX1_drop_22 : decode cX1_drop 22 = .ok (.getfield 32, 3) := by decide +kernel
theorem dX1_drop_25 : decode cX1_drop 25 = .ok (.iload 4, 2) := by decide +kernel
theorem dX1_drop_27 : decode cX1_drop 27 = .ok (.baload, 1) := by decide +kernel
theorem dX1_drop_28 : decode cX1_drop 28 = .ok (.ifCond .eq 13, 3) := by decide +kernel
theorem dX1_drop_31 : decode cX1_drop 31 = .ok (.aload_n 0, 1) := by decide +kernel
theorem dX1_drop_32 : decode cX1_drop 32 = .ok (.getfield 7, 3) := by decide +kernel
theorem dX1_drop_35 : decode cX1_drop 35 = .ok (.iload 4, 2) := by decide +kernel
theorem dX1_drop_37 : decode cX1_drop 37 = .ok (.iaload, 1) := by decide +kernel
theorem dX1_drop_38 : decode cX1_drop 38 = .ok (.goto 4, 3) := by decide +kernel
theorem dX1_drop_41 : decode cX1_drop 41 = .ok (.iconst 0, 1) := by decide +kernel
theorem dX1_drop_42 : decode cX1_drop 42 = .ok (.ixor, 1) := by decide +kernel
theorem dX1_drop_43 : decode cX1_drop 43 = .ok (.istore_n 3, 1) := by decide +kernel
theorem dX1_drop_44 : decode cX1_drop 44 = .ok (.iinc 4 1, 3) := by decide +kernel
theorem dX1_drop_47 : decode cX1_drop 47 = .ok (.goto (-36), 3) := by decide +kernel
theorem dX1_drop_50 : decode cX1_drop 50 = .ok (.iload_n 3, 1) := by decide +kernel
theorem dX1_drop_51 : decode cX1_drop 51 = .ok (.ireturn, 1) := by decide +kernel
set_option maxRecDepth 20000 in
theorem ggX1_degree_X1_draw : GoodIn wsX1_degree wsX1_draw := goodIn_r _ [5, 6, 7, 8, 9, 10, 11, 12, 4, 13, 14, 15, 16, 17, 18, 19, 20, 21, 22, 23, 24, 25, 26, 27, 28, 29] (by decide +kernel) (by decide +kernel)
set_option maxRecDepth 20000 in
theorem gX1_degree_X1_draw : GoodIn wsX1_degree (wsV RX1 49 RX1 yX1_draw wsX1_draw) := goodIn_app (goodIn_of _ (by decide +kernel)) ggX1_degree_X1_draw
theorem dX1_degree_0 : decode cX1_degree 0 = .ok (.aload_n 0, 1) := by decide +kernel
theorem dX1_degree_1 : decode cX1_degree 1 = .ok (.iload_n 1, 1) := by decide +kernel
theorem dX1_degree_2 : decode cX1_degree 2 = .ok (.invokevirtual 49, 3) := by decide +kernel
theorem dX1_degree_5 : decode cX1_degree 5 = .ok (.ireturn, 1) := by decide +kernel
set_option maxRecDepth 20000 in
theorem ggX1_set_X1_draw : GoodIn wsX1_set wsX1_draw := goodIn_r _ [7, 8, 9, 1, 2, 10, 11, 12, 6, 13, 14, 15, 16, 17, 18, 19, 20, 21, 22, 23, 24, 25, 26, 27, 28, 29] (by decide +kernel) (by decide +kernel)
set_option maxRecDepth 20000 in
theorem gX1_set_X1_draw : GoodIn wsX1_set (wsV RX1 49 RX1 yX1_draw wsX1_draw) := goodIn_app (goodIn_of _ (by decide +kernel)) ggX1_set_X1_draw
theorem dX1_set_0 : decode cX1_set 0 = .ok (.aload_n 0, 1) := by decide +kernel
theorem dX1_set_1 : decode cX1_set 1 = .ok (.iload_n 1, 1) := by decide +kernel
theorem dX1_set_2 : decode cX1_set 2 = .ok (.invokevirtual 49, 3) := by decide +kernel
theorem dX1_set_5 : decode cX1_set 5 = .ok (.istore_n 2, 1) := by decide +kernel
theorem dX1_set_6 : decode cX1_set 6 = .ok (.iconst 0, 1) := by decide +kernel
theorem dX1_set_7 : decode cX1_set 7 = .ok (.istore_n 3, 1) := by decide +kernel
theorem dX1_set_8 : decode cX1_set 8 = .ok (.iconst 0, 1) := by decide +kernel
theorem dX1_set_9 : decode cX1_set 9 = .ok (.istore 4, 2) := by decide +kernel
theorem dX1_set_11 : decode cX1_set 11 = .ok (.iload 4, 2) := by decide +kernel
theorem dX1_set_13 : decode cX1_set 13 = .ok (.aload_n 0, 1) := by decide +kernel
theorem dX1_set_14 : decode cX1_set 14 = .ok (.getfield 35, 3) := by decide +kernel
theorem dX1_set_17 : decode cX1_set 17 = .ok (.if_icmp .ge 30, 3) := by decide +kernel
theorem dX1_set_20 : decode cX1_set 20 = .ok (.iload_n 3, 1) := by decide +kernel
theorem dX1_set_21 : decode cX1_set 21 = .ok (.aload_n 0, 1) := by decide +kernel
theorem dX1_set_22 : decode cX1_set 22 = .ok (.getfield 32, 3) := by decide +kernel
theorem dX1_set_25 : decode cX1_set 25 = .ok (.iload 4, 2) := by decide +kernel
theorem dX1_set_27 : decode cX1_set 27 = .ok (.baload, 1) := by decide +kernel
theorem dX1_set_28 : decode cX1_set 28 = .ok (.ifCond .eq 10, 3) := by decide +kernel
theorem dX1_set_31 : decode cX1_set 31 = .ok (.iconst 1, 1) := by decide +kernel
theorem dX1_set_32 : decode cX1_set 32 = .ok (.iload 4, 2) := by decide +kernel
theorem dX1_set_34 : decode cX1_set 34 = .ok (.ishl, 1) := by decide +kernel
theorem dX1_set_35 : decode cX1_set 35 = .ok (.goto 4, 3) := by decide +kernel
theorem dX1_set_38 : decode cX1_set 38 = .ok (.iconst 0, 1) := by decide +kernel
theorem dX1_set_39 : decode cX1_set 39 = .ok (.ior, 1) := by decide +kernel
theorem dX1_set_40 : decode cX1_set 40 = .ok (.istore_n 3, 1) := by decide +kernel
theorem dX1_set_41 : decode cX1_set 41 = .ok (.iinc 4 1, 3) := by decide +kernel
theorem dX1_set_44 : decode cX1_set 44 = .ok (.goto (-33), 3) := by decide +kernel
theorem dX1_set_47 : decode cX1_set 47 = .ok (.iload_n 3, 1) := by decide +kernel
theorem dX1_set_48 : decode cX1_set 48 = .ok (.ireturn, 1) := by decide +kernel
set_option maxRecDepth 20000 in
theorem ggX1_isOpen_X1_draw : GoodIn wsX1_isOpen wsX1_draw := goodIn_r _ [9, 10, 11, 2, 3, 12, 13, 14, 8, 15, 16, 17, 18, 19, 20, 21, 22, 23, 24, 25, 26, 27, 28, 29, 30, 31] (by decide +kernel) (by decide +kernel)
set_option maxRecDepth 20000 in
theorem gX1_isOpen_X1_draw : GoodIn wsX1_isOpen (wsV RX1 49 RX1 yX1_draw wsX1_draw) := goodIn_app (goodIn_of _ (by decide +kernel)) ggX1_isOpen_X1_draw
theorem dX1_isOpen_0 : decode cX1_isOpen 0 = .ok (.aload_n 0, 1) := by decide +kernel
theorem dX1_isOpen_1 : decode cX1_isOpen 1 = .ok (.aload_n 0, 1) := by decide +kernel
theorem dX1_isOpen_2 : decode cX1_isOpen 2 = .ok (.getfield 13, 3) := by decide +kernel
theorem dX1_isOpen_5 : decode cX1_isOpen 5 = .ok (.iload_n 1, 1) := by decide +kernel
theorem dX1_isOpen_6 : decode cX1_isOpen 6 = .ok (.iaload, 1) := by decide +kernel
theorem dX1_isOpen_7 : decode cX1_isOpen 7 = .ok (.invokevirtual 49, 3) := by decide +kernel
theorem dX1_isOpen_10 : decode cX1_isOpen 10 = .ok (.istore_n 2, 1) := by decide +kernel
theorem dX1_isOpen_11 : decode cX1_isOpen 11 = .ok (.iconst 0, 1) := by decide +kernel
theorem dX1_isOpen_12 : decode cX1_isOpen 12 = .ok (.istore_n 3, 1) := by decide +kernel
theorem dX1_isOpen_13 : decode cX1_isOpen 13 = .ok (.iconst 0, 1) := by decide +kernel
theorem dX1_isOpen_14 : decode cX1_isOpen 14 = .ok (.istore 4, 2) := by decide +kernel
theorem dX1_isOpen_16 : decode cX1_isOpen 16 = .ok (.iload 4, 2) := by decide +kernel
theorem dX1_isOpen_18 : decode cX1_isOpen 18 = .ok (.aload_n 0, 1) := by decide +kernel
theorem dX1_isOpen_19 : decode cX1_isOpen 19 = .ok (.getfield 35, 3) := by decide +kernel
theorem dX1_isOpen_22 : decode cX1_isOpen 22 = .ok (.if_icmp .ge 37, 3) := by decide +kernel
theorem dX1_isOpen_25 : decode cX1_isOpen 25 = .ok (.iload_n 3, 1) := by decide +kernel
theorem dX1_isOpen_26 : decode cX1_isOpen 26 = .ok (.aload_n 0, 1) := by decide +kernel
theorem dX1_isOpen_27 : decode cX1_isOpen 27 = .ok (.getfield 32, 3) := by decide +kernel
theorem dX1_isOpen_30 : decode cX1_isOpen 30 = .ok (.iload 4, 2) := by decide +kernel
theorem dX1_isOpen_32 : decode cX1_isOpen 32 = .ok (.baload, 1) := by decide +kernel
theorem dX1_isOpen_33 : decode cX1_isOpen 33 = .ok (.ifCond .eq 17, 3) := by decide +kernel
theorem dX1_isOpen_36 : decode cX1_isOpen 36 = .ok (.aload_n 0, 1) := by decide +kernel
theorem dX1_isOpen_37 : decode cX1_isOpen 37 = .ok (.getfield 22, 3) := by decide +kernel
theorem dX1_isOpen_40 : decode cX1_isOpen 40 = .ok (.iload 4, 2) := by decide +kernel
theorem dX1_isOpen_42 : decode cX1_isOpen 42 = .ok (.baload, 1) := by decide +kernel
theorem dX1_isOpen_43 : decode cX1_isOpen 43 = .ok (.ifCond .ne 7, 3) := by decide +kernel
theorem dX1_isOpen_46 : decode cX1_isOpen 46 = .ok (.iconst 1, 1) := by decide +kernel
theorem dX1_isOpen_47 : decode cX1_isOpen 47 = .ok (.goto 4, 3) := by decide +kernel
theorem dX1_isOpen_50 : decode cX1_isOpen 50 = .ok (.iconst 0, 1) := by decide +kernel
theorem dX1_isOpen_51 : decode cX1_isOpen 51 = .ok (.iadd, 1) := by decide +kernel
theorem dX1_isOpen_52 : decode cX1_isOpen 52 = .ok (.istore_n 3, 1) := by decide +kernel
theorem dX1_isOpen_53 : decode cX1_isOpen 53 = .ok (.iinc 4 1, 3) := by decide +kernel
theorem dX1_isOpen_56 : decode cX1_isOpen 56 = .ok (.goto (-40), 3) := by decide +kernel
theorem dX1_isOpen_59 : decode cX1_isOpen 59 = .ok (.iload_n 3, 1) := by decide +kernel
theorem dX1_isOpen_60 : decode cX1_isOpen 60 = .ok (.ireturn, 1) := by decide +kernel
set_option maxRecDepth 20000 in
theorem ggX1_off_X1_draw : GoodIn wsX1_off wsX1_draw := goodIn_r _ [11, 12, 13, 3, 4, 14, 15, 16, 10, 17, 18, 19, 20, 21, 22, 23, 24, 25, 26, 27, 28, 29, 30, 31, 32, 33] (by decide +kernel) (by decide +kernel)
set_option maxRecDepth 20000 in
theorem gX1_off_X1_draw : GoodIn wsX1_off (wsV RX1 49 RX1 yX1_draw wsX1_draw) := goodIn_app (goodIn_of _ (by decide +kernel)) ggX1_off_X1_draw
theorem dX1_off_0 : decode cX1_off 0 = .ok (.aload_n 0, 1) := by decide +kernel
theorem dX1_off_1 : decode cX1_off 1 = .ok (.aload_n 0, 1) := by decide +kernel
theorem dX1_off_2 : decode cX1_off 2 = .ok (.getfield 13, 3) := by decide +kernel
theorem dX1_off_5 : decode cX1_off 5 = .ok (.iload_n 1, 1) := by decide +kernel
theorem dX1_off_6 : decode cX1_off 6 = .ok (.iaload, 1) := by decide +kernel
theorem dX1_off_7 : decode cX1_off 7 = .ok (.invokevirtual 49, 3) := by decide +kernel
theorem dX1_off_10 : decode cX1_off 10 = .ok (.istore_n 2, 1) := by decide +kernel
theorem dX1_off_11 : decode cX1_off 11 = .ok (.aload_n 0, 1) := by decide +kernel
theorem dX1_off_12 : decode cX1_off 12 = .ok (.getfield 16, 3) := by decide +kernel
theorem dX1_off_15 : decode cX1_off 15 = .ok (.iload_n 1, 1) := by decide +kernel
theorem dX1_off_16 : decode cX1_off 16 = .ok (.iaload, 1) := by decide +kernel
theorem dX1_off_17 : decode cX1_off 17 = .ok (.istore_n 3, 1) := by decide +kernel
theorem dX1_off_18 : decode cX1_off 18 = .ok (.iconst 0, 1) := by decide +kernel
theorem dX1_off_19 : decode cX1_off 19 = .ok (.istore 4, 2) := by decide +kernel
theorem dX1_off_21 : decode cX1_off 21 = .ok (.iload 4, 2) := by decide +kernel
theorem dX1_off_23 : decode cX1_off 23 = .ok (.aload_n 0, 1) := by decide +kernel
theorem dX1_off_24 : decode cX1_off 24 = .ok (.getfield 35, 3) := by decide +kernel
theorem dX1_off_27 : decode cX1_off 27 = .ok (.if_icmp .ge 43, 3) := by decide +kernel
theorem dX1_off_30 : decode cX1_off 30 = .ok (.iload_n 3, 1) := by decide +kernel
theorem dX1_off_31 : decode cX1_off 31 = .ok (.aload_n 0, 1) := by decide +kernel
theorem dX1_off_32 : decode cX1_off 32 = .ok (.getfield 32, 3) := by decide +kernel
theorem dX1_off_35 : decode cX1_off 35 = .ok (.iload 4, 2) := by decide +kernel
theorem dX1_off_37 : decode cX1_off 37 = .ok (.baload, 1) := by decide +kernel
theorem dX1_off_38 : decode cX1_off 38 = .ok (.ifCond .eq 23, 3) := by decide +kernel
theorem dX1_off_41 : decode cX1_off 41 = .ok (.aload_n 0, 1) := by decide +kernel
theorem dX1_off_42 : decode cX1_off 42 = .ok (.getfield 22, 3) := by decide +kernel
theorem dX1_off_45 : decode cX1_off 45 = .ok (.iload 4, 2) := by decide +kernel
theorem dX1_off_47 : decode cX1_off 47 = .ok (.baload, 1) := by decide +kernel
theorem dX1_off_48 : decode cX1_off 48 = .ok (.ifCond .eq 13, 3) := by decide +kernel
theorem dX1_off_51 : decode cX1_off 51 = .ok (.aload_n 0, 1) := by decide +kernel
theorem dX1_off_52 : decode cX1_off 52 = .ok (.getfield 26, 3) := by decide +kernel
theorem dX1_off_55 : decode cX1_off 55 = .ok (.iload 4, 2) := by decide +kernel
theorem dX1_off_57 : decode cX1_off 57 = .ok (.iaload, 1) := by decide +kernel
theorem dX1_off_58 : decode cX1_off 58 = .ok (.goto 4, 3) := by decide +kernel
theorem dX1_off_61 : decode cX1_off 61 = .ok (.iconst 0, 1) := by decide +kernel
theorem dX1_off_62 : decode cX1_off 62 = .ok (.ixor, 1) := by decide +kernel
theorem dX1_off_63 : decode cX1_off 63 = .ok (.istore_n 3, 1) := by decide +kernel
theorem dX1_off_64 : decode cX1_off 64 = .ok (.iinc 4 1, 3) := by decide +kernel
theorem dX1_off_67 : decode cX1_off 67 = .ok (.goto (-46), 3) := by decide +kernel
theorem dX1_off_70 : decode cX1_off 70 = .ok (.iload_n 3, 1) := by decide +kernel
theorem dX1_off_71 : decode cX1_off 71 = .ok (.ireturn, 1) := by decide +kernel
theorem dX1_await_0 : decode cX1_await 0 = .ok (.aload_n 0, 1) := by decide +kernel
theorem dX1_await_1 : decode cX1_await 1 = .ok (.dup, 1) := by decide +kernel
theorem dX1_await_2 : decode cX1_await 2 = .ok (.getfield 53, 3) := by decide +kernel
theorem dX1_await_5 : decode cX1_await 5 = .ok (.iconst 1, 1) := by decide +kernel
theorem dX1_await_6 : decode cX1_await 6 = .ok (.iadd, 1) := by decide +kernel
theorem dX1_await_7 : decode cX1_await 7 = .ok (.putfield 53, 3) := by decide +kernel
theorem dX1_await_10 : decode cX1_await 10 = .ok (.aload_n 0, 1) := by decide +kernel
theorem dX1_await_11 : decode cX1_await 11 = .ok (.getfield 19, 3) := by decide +kernel
theorem dX1_await_14 : decode cX1_await 14 = .ok (.iload_n 1, 1) := by decide +kernel
theorem dX1_await_15 : decode cX1_await 15 = .ok (.aload_n 0, 1) := by decide +kernel
theorem dX1_await_16 : decode cX1_await 16 = .ok (.getfield 53, 3) := by decide +kernel
theorem dX1_await_19 : decode cX1_await 19 = .ok (.iastore, 1) := by decide +kernel
theorem dX1_await_20 : decode cX1_await 20 = .ok (.return_, 1) := by decide +kernel
theorem dX1_first_0 : decode cX1_first 0 = .ok (.iconst (-1), 1) := by decide +kernel
theorem dX1_first_1 : decode cX1_first 1 = .ok (.istore_n 1, 1) := by decide +kernel
theorem dX1_first_2 : decode cX1_first 2 = .ok (.iconst 0, 1) := by decide +kernel
theorem dX1_first_3 : decode cX1_first 3 = .ok (.istore_n 2, 1) := by decide +kernel
theorem dX1_first_4 : decode cX1_first 4 = .ok (.iload_n 2, 1) := by decide +kernel
theorem dX1_first_5 : decode cX1_first 5 = .ok (.aload_n 0, 1) := by decide +kernel
theorem dX1_first_6 : decode cX1_first 6 = .ok (.getfield 56, 3) := by decide +kernel
theorem dX1_first_9 : decode cX1_first 9 = .ok (.if_icmp .ge 44, 3) := by decide +kernel
theorem dX1_first_12 : decode cX1_first 12 = .ok (.aload_n 0, 1) := by decide +kernel
theorem dX1_first_13 : decode cX1_first 13 = .ok (.getfield 19, 3) := by decide +kernel
theorem dX1_first_16 : decode cX1_first 16 = .ok (.iload_n 2, 1) := by decide +kernel
theorem dX1_first_17 : decode cX1_first 17 = .ok (.iaload, 1) := by decide +kernel
theorem dX1_first_18 : decode cX1_first 18 = .ok (.ifCond .le 27, 3) := by decide +kernel
theorem dX1_first_21 : decode cX1_first 21 = .ok (.iload_n 1, 1) := by decide +kernel
theorem dX1_first_22 : decode cX1_first 22 = .ok (.iconst (-1), 1) := by decide +kernel
theorem dX1_first_23 : decode cX1_first 23 = .ok (.if_icmp .eq 18, 3) := by decide +kernel
theorem dX1_first_26 : decode cX1_first 26 = .ok (.aload_n 0, 1) := by decide +kernel
theorem dX1_first_27 : decode cX1_first 27 = .ok (.getfield 19, 3) := by decide +kernel
theorem dX1_first_30 : decode cX1_first 30 = .ok (.iload_n 2, 1) := by decide +kernel
theorem dX1_first_31 : decode cX1_first 31 = .ok (.iaload, 1) := by decide +kernel
theorem dX1_first_32 : decode cX1_first 32 = .ok (.aload_n 0, 1) := by decide +kernel
theorem dX1_first_33 : decode cX1_first 33 = .ok (.getfield 19, 3) := by decide +kernel
theorem dX1_first_36 : decode cX1_first 36 = .ok (.iload_n 1, 1) := by decide +kernel
theorem dX1_first_37 : decode cX1_first 37 = .ok (.iaload, 1) := by decide +kernel
theorem dX1_first_38 : decode cX1_first 38 = .ok (.if_icmp .ge 7, 3) := by decide +kernel
theorem dX1_first_41 : decode cX1_first 41 = .ok (.iload_n 2, 1) := by decide +kernel
theorem dX1_first_42 : decode cX1_first 42 = .ok (.goto 4, 3) := by decide +kernel
theorem dX1_first_45 : decode cX1_first 45 = .ok (.iload_n 1, 1) := by decide +kernel
theorem dX1_first_46 : decode cX1_first 46 = .ok (.istore_n 1, 1) := by decide +kernel
theorem dX1_first_47 : decode cX1_first 47 = .ok (.iinc 2 1, 3) := by decide +kernel
theorem dX1_first_50 : decode cX1_first 50 = .ok (.goto (-46), 3) := by decide +kernel
theorem dX1_first_53 : decode cX1_first 53 = .ok (.iload_n 1, 1) := by decide +kernel
theorem dX1_first_54 : decode cX1_first 54 = .ok (.ireturn, 1) := by decide +kernel
set_option maxRecDepth 20000 in
theorem ggX1_learn_X1_off : GoodIn wsX1_learn wsX1_off := goodIn_r _ [14, 1, 15, 16, 2, 3, 4, 17, 18, 19, 13, 20, 21, 22, 23, 24, 25, 26, 27, 28, 38, 39, 40, 41, 42, 43, 44, 45, 46, 47, 48, 49, 50, 51] (by decide +kernel) (by decide +kernel)
set_option maxRecDepth 20000 in
theorem gX1_learn_X1_off : GoodIn wsX1_learn (wsV RX1 59 RX1 yX1_off wsX1_off) := goodIn_app (goodIn_of _ (by decide +kernel)) ggX1_learn_X1_off
set_option maxRecDepth 20000 in
theorem ggX1_learn_X1_draw : GoodIn wsX1_learn wsX1_draw := goodIn_r _ [20, 21, 22, 16, 2, 23, 24, 25, 13, 26, 27, 28, 38, 39, 40, 41, 42, 43, 44, 45, 46, 47, 48, 49, 50, 51] (by decide +kernel) (by decide +kernel)
set_option maxRecDepth 20000 in
theorem gX1_learn_X1_draw : GoodIn wsX1_learn (wsV RX1 49 RX1 yX1_draw wsX1_draw) := goodIn_app (goodIn_of _ (by decide +kernel)) ggX1_learn_X1_draw
set_option maxRecDepth 20000 in
theorem ggX1_learn_X1_isOpen : GoodIn wsX1_learn wsX1_isOpen := goodIn_r _ [32, 1, 16, 2, 3, 17, 18, 19, 13, 20, 21, 22, 23, 24, 25, 26, 27, 28, 38, 39, 40, 41, 42, 43, 44, 45, 46, 47, 48, 49, 50, 51] (by decide +kernel) (by decide +kernel)
set_option maxRecDepth 20000 in
theorem gX1_learn_X1_isOpen : GoodIn wsX1_learn (wsV RX1 65 RX1 yX1_isOpen wsX1_isOpen) := goodIn_app (goodIn_of _ (by decide +kernel)) ggX1_learn_X1_isOpen
set_option maxRecDepth 20000 in
theorem ggX1_learn_X1_await : GoodIn wsX1_learn wsX1_await := goodIn_r _ [36, 37, 8, 38, 39, 40, 41, 42, 43, 44, 45, 46, 47, 48, 49, 50, 51] (by decide +kernel) (by decide +kernel)
set_option maxRecDepth 20000 in
theorem gX1_learn_X1_await : GoodIn wsX1_learn (wsV RX1 68 RX1 yX1_await wsX1_await) := goodIn_app (goodIn_of _ (by decide +kernel)) ggX1_learn_X1_await
theorem dX1_learn_0 : decode cX1_learn 0 = .ok (.aload_n 0, 1) := by decide +kernel
theorem dX1_learn_1 : decode cX1_learn 1 = .ok (.iload_n 1, 1) := by decide +kernel
theorem dX1_learn_2 : decode cX1_learn 2 = .ok (.invokevirtual 59, 3) := by decide +kernel
theorem dX1_learn_5 : decode cX1_learn 5 = .ok (.istore_n 2, 1) := by decide +kernel
theorem dX1_learn_6 : decode cX1_learn 6 = .ok (.aload_n 0, 1) := by decide +kernel
theorem dX1_learn_7 : decode cX1_learn 7 = .ok (.aload_n 0, 1) := by decide +kernel
theorem dX1_learn_8 : decode cX1_learn 8 = .ok (.getfield 13, 3) := by decide +kernel
theorem dX1_learn_11 : decode cX1_learn 11 = .ok (.iload_n 1, 1) := by decide +kernel
theorem dX1_learn_12 : decode cX1_learn 12 = .ok (.iaload, 1) := by decide +kernel
theorem dX1_learn_13 : decode cX1_learn 13 = .ok (.invokevirtual 49, 3) := by decide +kernel
theorem dX1_learn_16 : decode cX1_learn 16 = .ok (.istore_n 3, 1) := by decide +kernel
theorem dX1_learn_17 : decode cX1_learn 17 = .ok (.iconst 0, 1) := by decide +kernel
theorem dX1_learn_18 : decode cX1_learn 18 = .ok (.istore 4, 2) := by decide +kernel
theorem dX1_learn_20 : decode cX1_learn 20 = .ok (.aload_n 0, 1) := by decide +kernel
theorem dX1_learn_21 : decode cX1_learn 21 = .ok (.getfield 32, 3) := by decide +kernel
theorem dX1_learn_24 : decode cX1_learn 24 = .ok (.iload 4, 2) := by decide +kernel
theorem dX1_learn_26 : decode cX1_learn 26 = .ok (.baload, 1) := by decide +kernel
theorem dX1_learn_27 : decode cX1_learn 27 = .ok (.ifCond .eq 13, 3) := by decide +kernel
theorem dX1_learn_30 : decode cX1_learn 30 = .ok (.aload_n 0, 1) := by decide +kernel
theorem dX1_learn_31 : decode cX1_learn 31 = .ok (.getfield 22, 3) := by decide +kernel
theorem dX1_learn_34 : decode cX1_learn 34 = .ok (.iload 4, 2) := by decide +kernel
theorem dX1_learn_36 : decode cX1_learn 36 = .ok (.baload, 1) := by decide +kernel
theorem dX1_learn_37 : decode cX1_learn 37 = .ok (.ifCond .eq 9, 3) := by decide +kernel
theorem dX1_learn_40 : decode cX1_learn 40 = .ok (.iinc 4 1, 3) := by decide +kernel
theorem dX1_learn_43 : decode cX1_learn 43 = .ok (.goto (-23), 3) := by decide +kernel
theorem dX1_learn_46 : decode cX1_learn 46 = .ok (.aload_n 0, 1) := by decide +kernel
theorem dX1_learn_47 : decode cX1_learn 47 = .ok (.getfield 22, 3) := by decide +kernel
theorem dX1_learn_50 : decode cX1_learn 50 = .ok (.iload 4, 2) := by decide +kernel
theorem dX1_learn_52 : decode cX1_learn 52 = .ok (.iconst 1, 1) := by decide +kernel
theorem dX1_learn_53 : decode cX1_learn 53 = .ok (.bastore, 1) := by decide +kernel
theorem dX1_learn_54 : decode cX1_learn 54 = .ok (.aload_n 0, 1) := by decide +kernel
theorem dX1_learn_55 : decode cX1_learn 55 = .ok (.getfield 26, 3) := by decide +kernel
theorem dX1_learn_58 : decode cX1_learn 58 = .ok (.iload 4, 2) := by decide +kernel
theorem dX1_learn_60 : decode cX1_learn 60 = .ok (.iload_n 2, 1) := by decide +kernel
theorem dX1_learn_61 : decode cX1_learn 61 = .ok (.iastore, 1) := by decide +kernel
theorem dX1_learn_62 : decode cX1_learn 62 = .ok (.aload_n 0, 1) := by decide +kernel
theorem dX1_learn_63 : decode cX1_learn 63 = .ok (.getfield 29, 3) := by decide +kernel
theorem dX1_learn_66 : decode cX1_learn 66 = .ok (.aload_n 0, 1) := by decide +kernel
theorem dX1_learn_67 : decode cX1_learn 67 = .ok (.getfield 62, 3) := by decide +kernel
theorem dX1_learn_70 : decode cX1_learn 70 = .ok (.iload 4, 2) := by decide +kernel
theorem dX1_learn_72 : decode cX1_learn 72 = .ok (.iastore, 1) := by decide +kernel
theorem dX1_learn_73 : decode cX1_learn 73 = .ok (.aload_n 0, 1) := by decide +kernel
theorem dX1_learn_74 : decode cX1_learn 74 = .ok (.dup, 1) := by decide +kernel
theorem dX1_learn_75 : decode cX1_learn 75 = .ok (.getfield 62, 3) := by decide +kernel
theorem dX1_learn_78 : decode cX1_learn 78 = .ok (.iconst 1, 1) := by decide +kernel
theorem dX1_learn_79 : decode cX1_learn 79 = .ok (.iadd, 1) := by decide +kernel
theorem dX1_learn_80 : decode cX1_learn 80 = .ok (.putfield 62, 3) := by decide +kernel
theorem dX1_learn_83 : decode cX1_learn 83 = .ok (.iconst 0, 1) := by decide +kernel
theorem dX1_learn_84 : decode cX1_learn 84 = .ok (.istore 5, 2) := by decide +kernel
theorem dX1_learn_86 : decode cX1_learn 86 = .ok (.iload 5, 2) := by decide +kernel
theorem dX1_learn_88 : decode cX1_learn 88 = .ok (.aload_n 0, 1) := by decide +kernel
theorem dX1_learn_89 : decode cX1_learn 89 = .ok (.getfield 56, 3) := by decide +kernel
theorem dX1_learn_92 : decode cX1_learn 92 = .ok (.if_icmp .ge 86, 3) := by decide +kernel
theorem dX1_learn_95 : decode cX1_learn 95 = .ok (.aload_n 0, 1) := by decide +kernel
theorem dX1_learn_96 : decode cX1_learn 96 = .ok (.iload 5, 2) := by decide +kernel
theorem dX1_learn_98 : decode cX1_learn 98 = .ok (.invokevirtual 65, 3) := by decide +kernel
theorem dX1_learn_101 : decode cX1_learn 101 = .ok (.istore 6, 2) := by decide +kernel
theorem dX1_learn_103 : decode cX1_learn 103 = .ok (.aload_n 0, 1) := by decide +kernel
theorem dX1_learn_104 : decode cX1_learn 104 = .ok (.getfield 32, 3) := by decide +kernel
theorem dX1_learn_107 : decode cX1_learn 107 = .ok (.iload 4, 2) := by decide +kernel
theorem dX1_learn_109 : decode cX1_learn 109 = .ok (.baload, 1) := by decide +kernel
theorem dX1_learn_110 : decode cX1_learn 110 = .ok (.ifCond .eq 18, 3) := by decide +kernel
theorem dX1_learn_113 : decode cX1_learn 113 = .ok (.iload 6, 2) := by decide +kernel
theorem dX1_learn_115 : decode cX1_learn 115 = .ok (.iconst 1, 1) := by decide +kernel
theorem dX1_learn_116 : decode cX1_learn 116 = .ok (.if_icmp .ne 12, 3) := by decide +kernel
theorem dX1_learn_119 : decode cX1_learn 119 = .ok (.aload_n 0, 1) := by decide +kernel
theorem dX1_learn_120 : decode cX1_learn 120 = .ok (.iload 5, 2) := by decide +kernel
theorem dX1_learn_122 : decode cX1_learn 122 = .ok (.invokevirtual 68, 3) := by decide +kernel
theorem dX1_learn_125 : decode cX1_learn 125 = .ok (.goto 47, 3) := by decide +kernel
theorem dX1_learn_128 : decode cX1_learn 128 = .ok (.aload_n 0, 1) := by decide +kernel
theorem dX1_learn_129 : decode cX1_learn 129 = .ok (.getfield 32, 3) := by decide +kernel
theorem dX1_learn_132 : decode cX1_learn 132 = .ok (.iload 4, 2) := by decide +kernel
theorem dX1_learn_134 : decode cX1_learn 134 = .ok (.baload, 1) := by decide +kernel
theorem dX1_learn_135 : decode cX1_learn 135 = .ok (.ifCond .eq 37, 3) := by decide +kernel
theorem dX1_learn_138 : decode cX1_learn 138 = .ok (.iload 6, 2) := by decide +kernel
theorem dX1_learn_140 : decode cX1_learn 140 = .ok (.ifCond .ne 32, 3) := by decide +kernel
theorem dX1_learn_143 : decode cX1_learn 143 = .ok (.aload_n 0, 1) := by decide +kernel
theorem dX1_learn_144 : decode cX1_learn 144 = .ok (.getfield 19, 3) := by decide +kernel
theorem dX1_learn_147 : decode cX1_learn 147 = .ok (.iload 5, 2) := by decide +kernel
theorem dX1_learn_149 : decode cX1_learn 149 = .ok (.iaload, 1) := by decide +kernel
theorem dX1_learn_150 : decode cX1_learn 150 = .ok (.ifCond .ne 22, 3) := by decide +kernel
theorem dX1_learn_153 : decode cX1_learn 153 = .ok (.aload_n 0, 1) := by decide +kernel
theorem dX1_learn_154 : decode cX1_learn 154 = .ok (.iload 5, 2) := by decide +kernel
theorem dX1_learn_156 : decode cX1_learn 156 = .ok (.invokevirtual 59, 3) := by decide +kernel
theorem dX1_learn_159 : decode cX1_learn 159 = .ok (.ifCond .eq 13, 3) := by decide +kernel
theorem dX1_learn_162 : decode cX1_learn 162 = .ok (.aload_n 0, 1) := by decide +kernel
theorem dX1_learn_163 : decode cX1_learn 163 = .ok (.dup, 1) := by decide +kernel
theorem dX1_learn_164 : decode cX1_learn 164 = .ok (.getfield 72, 3) := by decide +kernel
theorem dX1_learn_167 : decode cX1_learn 167 = .ok (.iconst 1, 1) := by decide +kernel
theorem dX1_learn_168 : decode cX1_learn 168 = .ok (.iadd, 1) := by decide +kernel
theorem dX1_learn_169 : decode cX1_learn 169 = .ok (.putfield 72, 3) := by decide +kernel
theorem dX1_learn_172 : decode cX1_learn 172 = .ok (.iinc 5 1, 3) := by decide +kernel
theorem dX1_learn_175 : decode cX1_learn 175 = .ok (.goto (-89), 3) := by decide +kernel
theorem dX1_learn_178 : decode cX1_learn 178 = .ok (.return_, 1) := by decide +kernel
set_option maxRecDepth 20000 in
theorem ggX1_receive_X1_isOpen : GoodIn wsX1_receive wsX1_isOpen := goodIn_r _ [11, 2, 12, 13, 14, 15, 16, 17, 10, 18, 19, 20, 21, 22, 23, 24, 25, 26, 46, 47, 48, 49, 50, 51, 52, 53, 54, 55, 56, 57, 58, 59] (by decide +kernel) (by decide +kernel)
set_option maxRecDepth 20000 in
theorem gX1_receive_X1_isOpen : GoodIn wsX1_receive (wsV RX1 65 RX1 yX1_isOpen wsX1_isOpen) := goodIn_app (goodIn_of _ (by decide +kernel)) ggX1_receive_X1_isOpen
set_option maxRecDepth 20000 in
theorem ggX1_receive_X1_await : GoodIn wsX1_receive wsX1_await := goodIn_r _ [30, 31, 4, 46, 47, 48, 49, 50, 51, 52, 53, 54, 55, 56, 57, 58, 59] (by decide +kernel) (by decide +kernel)
set_option maxRecDepth 20000 in
theorem gX1_receive_X1_await : GoodIn wsX1_receive (wsV RX1 68 RX1 yX1_await wsX1_await) := goodIn_app (goodIn_of _ (by decide +kernel)) ggX1_receive_X1_await
set_option maxRecDepth 20000 in
theorem ggX1_receive_X1_off : GoodIn wsX1_receive wsX1_off := goodIn_r _ [35, 2, 3, 12, 13, 14, 36, 15, 16, 17, 10, 18, 19, 20, 21, 22, 23, 24, 25, 26, 46, 47, 48, 49, 50, 51, 52, 53, 54, 55, 56, 57, 58, 59] (by decide +kernel) (by decide +kernel)
set_option maxRecDepth 20000 in
theorem gX1_receive_X1_off : GoodIn wsX1_receive (wsV RX1 59 RX1 yX1_off wsX1_off) := goodIn_app (goodIn_of _ (by decide +kernel)) ggX1_receive_X1_off
set_option maxRecDepth 20000 in
theorem ggX1_receive_X1_first : GoodIn wsX1_receive wsX1_first := goodIn_r _ [40, 1, 4, 46, 47, 48, 49, 50, 51, 52, 53, 54, 55, 56, 57, 58, 59] (by decide +kernel) (by decide +kernel)
set_option maxRecDepth 20000 in
theorem gX1_receive_X1_first : GoodIn wsX1_receive (wsV RX1 75 RX1 yX1_first wsX1_first) := goodIn_app (goodIn_of _ (by decide +kernel)) ggX1_receive_X1_first
set_option maxRecDepth 20000 in
theorem ggX1_receive_X1_learn : GoodIn wsX1_receive wsX1_learn := goodIn_r _ [44, 2, 13, 14, 36, 45, 6, 1, 4, 5, 32, 33, 34, 10, 35, 3, 12, 15, 16, 17, 18, 19, 20, 21, 22, 23, 24, 25, 26, 7, 8, 9, 11, 27, 28, 29, 30, 31, 46, 47, 48, 49, 50, 51, 52, 53, 54, 55, 56, 57, 58, 59] (by decide +kernel) (by decide +kernel)
set_option maxRecDepth 20000 in
theorem gX1_receive_X1_learn : GoodIn wsX1_receive (wsV RX1 78 RX1 yX1_learn wsX1_learn) := goodIn_app (goodIn_of _ (by decide +kernel)) ggX1_receive_X1_learn
theorem dX1_receive_0 : decode cX1_receive 0 = .ok (.aload_n 0, 1) := by decide +kernel
theorem dX1_receive_1 : decode cX1_receive 1 = .ok (.getfield 56, 3) := by decide +kernel
theorem dX1_receive_4 : decode cX1_receive 4 = .ok (.bipush 60, 2) := by decide +kernel
theorem dX1_receive_6 : decode cX1_receive 6 = .ok (.if_icmp .ne 6, 3) := by decide +kernel
theorem dX1_receive_9 : decode cX1_receive 9 = .ok (.bipush (-2), 2) := by decide +kernel
theorem dX1_receive_11 : decode cX1_receive 11 = .ok (.ireturn, 1) := by decide +kernel
theorem dX1_receive_12 : decode cX1_receive 12 = .ok (.aload_n 0, 1) := by decide +kernel
theorem dX1_receive_13 : decode cX1_receive 13 = .ok (.getfield 56, 3) := by decide +kernel
theorem dX1_receive_16 : decode cX1_receive 16 = .ok (.istore_n 3, 1) := by decide +kernel
theorem dX1_receive_17 : decode cX1_receive 17 = .ok (.aload_n 0, 1) := by decide +kernel
theorem dX1_receive_18 : decode cX1_receive 18 = .ok (.dup, 1) := by decide +kernel
theorem dX1_receive_19 : decode cX1_receive 19 = .ok (.getfield 56, 3) := by decide +kernel
theorem dX1_receive_22 : decode cX1_receive 22 = .ok (.iconst 1, 1) := by decide +kernel
theorem dX1_receive_23 : decode cX1_receive 23 = .ok (.iadd, 1) := by decide +kernel
theorem dX1_receive_24 : decode cX1_receive 24 = .ok (.putfield 56, 3) := by decide +kernel
theorem dX1_receive_27 : decode cX1_receive 27 = .ok (.aload_n 0, 1) := by decide +kernel
theorem dX1_receive_28 : decode cX1_receive 28 = .ok (.getfield 13, 3) := by decide +kernel
theorem dX1_receive_31 : decode cX1_receive 31 = .ok (.iload_n 3, 1) := by decide +kernel
theorem dX1_receive_32 : decode cX1_receive 32 = .ok (.iload_n 1, 1) := by decide +kernel
theorem dX1_receive_33 : decode cX1_receive 33 = .ok (.iastore, 1) := by decide +kernel
theorem dX1_receive_34 : decode cX1_receive 34 = .ok (.aload_n 0, 1) := by decide +kernel
theorem dX1_receive_35 : decode cX1_receive 35 = .ok (.getfield 16, 3) := by decide +kernel
theorem dX1_receive_38 : decode cX1_receive 38 = .ok (.iload_n 3, 1) := by decide +kernel
theorem dX1_receive_39 : decode cX1_receive 39 = .ok (.iload_n 2, 1) := by decide +kernel
theorem dX1_receive_40 : decode cX1_receive 40 = .ok (.iastore, 1) := by decide +kernel
theorem dX1_receive_41 : decode cX1_receive 41 = .ok (.aload_n 0, 1) := by decide +kernel
theorem dX1_receive_42 : decode cX1_receive 42 = .ok (.getfield 19, 3) := by decide +kernel
theorem dX1_receive_45 : decode cX1_receive 45 = .ok (.iload_n 3, 1) := by decide +kernel
theorem dX1_receive_46 : decode cX1_receive 46 = .ok (.iconst 0, 1) := by decide +kernel
theorem dX1_receive_47 : decode cX1_receive 47 = .ok (.iastore, 1) := by decide +kernel
theorem dX1_receive_48 : decode cX1_receive 48 = .ok (.aload_n 0, 1) := by decide +kernel
theorem dX1_receive_49 : decode cX1_receive 49 = .ok (.iload_n 3, 1) := by decide +kernel
theorem dX1_receive_50 : decode cX1_receive 50 = .ok (.invokevirtual 65, 3) := by decide +kernel
theorem dX1_receive_53 : decode cX1_receive 53 = .ok (.istore 4, 2) := by decide +kernel
theorem dX1_receive_55 : decode cX1_receive 55 = .ok (.iload 4, 2) := by decide +kernel
theorem dX1_receive_57 : decode cX1_receive 57 = .ok (.iconst 1, 1) := by decide +kernel
theorem dX1_receive_58 : decode cX1_receive 58 = .ok (.if_icmp .ne 11, 3) := by decide +kernel
theorem dX1_receive_61 : decode cX1_receive 61 = .ok (.aload_n 0, 1) := by decide +kernel
theorem dX1_receive_62 : decode cX1_receive 62 = .ok (.iload_n 3, 1) := by decide +kernel
theorem dX1_receive_63 : decode cX1_receive 63 = .ok (.invokevirtual 68, 3) := by decide +kernel
theorem dX1_receive_66 : decode cX1_receive 66 = .ok (.goto 26, 3) := by decide +kernel
theorem dX1_receive_69 : decode cX1_receive 69 = .ok (.iload 4, 2) := by decide +kernel
theorem dX1_receive_71 : decode cX1_receive 71 = .ok (.ifCond .ne 21, 3) := by decide +kernel
theorem dX1_receive_74 : decode cX1_receive 74 = .ok (.aload_n 0, 1) := by decide +kernel
theorem dX1_receive_75 : decode cX1_receive 75 = .ok (.iload_n 3, 1) := by decide +kernel
theorem dX1_receive_76 : decode cX1_receive 76 = .ok (.invokevirtual 59, 3) := by decide +kernel
theorem dX1_receive_79 : decode cX1_receive 79 = .ok (.ifCond .eq 13, 3) := by decide +kernel
theorem dX1_receive_82 : decode cX1_receive 82 = .ok (.aload_n 0, 1) := by decide +kernel
theorem dX1_receive_83 : decode cX1_receive 83 = .ok (.dup, 1) := by decide +kernel
theorem dX1_receive_84 : decode cX1_receive 84 = .ok (.getfield 72, 3) := by decide +kernel
theorem dX1_receive_87 : decode cX1_receive 87 = .ok (.iconst 1, 1) := by decide +kernel
theorem dX1_receive_88 : decode cX1_receive 88 = .ok (.iadd, 1) := by decide +kernel
theorem dX1_receive_89 : decode cX1_receive 89 = .ok (.putfield 72, 3) := by decide +kernel
theorem dX1_receive_92 : decode cX1_receive 92 = .ok (.aload_n 0, 1) := by decide +kernel
theorem dX1_receive_93 : decode cX1_receive 93 = .ok (.invokevirtual 75, 3) := by decide +kernel
theorem dX1_receive_96 : decode cX1_receive 96 = .ok (.istore 5, 2) := by decide +kernel
theorem dX1_receive_98 : decode cX1_receive 98 = .ok (.iload 5, 2) := by decide +kernel
theorem dX1_receive_100 : decode cX1_receive 100 = .ok (.iconst (-1), 1) := by decide +kernel
theorem dX1_receive_101 : decode cX1_receive 101 = .ok (.if_icmp .eq 57, 3) := by decide +kernel
theorem dX1_receive_104 : decode cX1_receive 104 = .ok (.aload_n 0, 1) := by decide +kernel
theorem dX1_receive_105 : decode cX1_receive 105 = .ok (.getfield 19, 3) := by decide +kernel
theorem dX1_receive_108 : decode cX1_receive 108 = .ok (.iload 5, 2) := by decide +kernel
theorem dX1_receive_110 : decode cX1_receive 110 = .ok (.iconst 0, 1) := by decide +kernel
theorem dX1_receive_111 : decode cX1_receive 111 = .ok (.iastore, 1) := by decide +kernel
theorem dX1_receive_112 : decode cX1_receive 112 = .ok (.aload_n 0, 1) := by decide +kernel
theorem dX1_receive_113 : decode cX1_receive 113 = .ok (.iload 5, 2) := by decide +kernel
theorem dX1_receive_115 : decode cX1_receive 115 = .ok (.invokevirtual 65, 3) := by decide +kernel
theorem dX1_receive_118 : decode cX1_receive 118 = .ok (.ifCond .le 12, 3) := by decide +kernel
theorem dX1_receive_121 : decode cX1_receive 121 = .ok (.aload_n 0, 1) := by decide +kernel
theorem dX1_receive_122 : decode cX1_receive 122 = .ok (.iload 5, 2) := by decide +kernel
theorem dX1_receive_124 : decode cX1_receive 124 = .ok (.invokevirtual 78, 3) := by decide +kernel
theorem dX1_receive_127 : decode cX1_receive 127 = .ok (.goto 22, 3) := by decide +kernel
theorem dX1_receive_130 : decode cX1_receive 130 = .ok (.aload_n 0, 1) := by decide +kernel
theorem dX1_receive_131 : decode cX1_receive 131 = .ok (.iload 5, 2) := by decide +kernel
theorem dX1_receive_133 : decode cX1_receive 133 = .ok (.invokevirtual 59, 3) := by decide +kernel
theorem dX1_receive_136 : decode cX1_receive 136 = .ok (.ifCond .eq 13, 3) := by decide +kernel
theorem dX1_receive_139 : decode cX1_receive 139 = .ok (.aload_n 0, 1) := by decide +kernel
theorem dX1_receive_140 : decode cX1_receive 140 = .ok (.dup, 1) := by decide +kernel
theorem dX1_receive_141 : decode cX1_receive 141 = .ok (.getfield 72, 3) := by decide +kernel
theorem dX1_receive_144 : decode cX1_receive 144 = .ok (.iconst 1, 1) := by decide +kernel
theorem dX1_receive_145 : decode cX1_receive 145 = .ok (.iadd, 1) := by decide +kernel
theorem dX1_receive_146 : decode cX1_receive 146 = .ok (.putfield 72, 3) := by decide +kernel
theorem dX1_receive_149 : decode cX1_receive 149 = .ok (.aload_n 0, 1) := by decide +kernel
theorem dX1_receive_150 : decode cX1_receive 150 = .ok (.invokevirtual 75, 3) := by decide +kernel
theorem dX1_receive_153 : decode cX1_receive 153 = .ok (.istore 5, 2) := by decide +kernel
theorem dX1_receive_155 : decode cX1_receive 155 = .ok (.goto (-57), 3) := by decide +kernel
theorem dX1_receive_158 : decode cX1_receive 158 = .ok (.aload_n 0, 1) := by decide +kernel
theorem dX1_receive_159 : decode cX1_receive 159 = .ok (.getfield 62, 3) := by decide +kernel
theorem dX1_receive_162 : decode cX1_receive 162 = .ok (.ireturn, 1) := by decide +kernel
theorem dX1_known_0 : decode cX1_known 0 = .ok (.iload_n 1, 1) := by decide +kernel
theorem dX1_known_1 : decode cX1_known 1 = .ok (.ifCond .lt 11, 3) := by decide +kernel
theorem dX1_known_4 : decode cX1_known 4 = .ok (.iload_n 1, 1) := by decide +kernel
theorem dX1_known_5 : decode cX1_known 5 = .ok (.aload_n 0, 1) := by decide +kernel
theorem dX1_known_6 : decode cX1_known 6 = .ok (.getfield 35, 3) := by decide +kernel
theorem dX1_known_9 : decode cX1_known 9 = .ok (.if_icmp .lt 7, 3) := by decide +kernel
theorem dX1_known_12 : decode cX1_known 12 = .ok (.iconst (-1), 1) := by decide +kernel
theorem dX1_known_13 : decode cX1_known 13 = .ok (.goto 17, 3) := by decide +kernel
theorem dX1_known_16 : decode cX1_known 16 = .ok (.aload_n 0, 1) := by decide +kernel
theorem dX1_known_17 : decode cX1_known 17 = .ok (.getfield 22, 3) := by decide +kernel
theorem dX1_known_20 : decode cX1_known 20 = .ok (.iload_n 1, 1) := by decide +kernel
theorem dX1_known_21 : decode cX1_known 21 = .ok (.baload, 1) := by decide +kernel
theorem dX1_known_22 : decode cX1_known 22 = .ok (.ifCond .eq 7, 3) := by decide +kernel
theorem dX1_known_25 : decode cX1_known 25 = .ok (.iconst 1, 1) := by decide +kernel
theorem dX1_known_26 : decode cX1_known 26 = .ok (.goto 4, 3) := by decide +kernel
theorem dX1_known_29 : decode cX1_known 29 = .ok (.iconst 0, 1) := by decide +kernel
theorem dX1_known_30 : decode cX1_known 30 = .ok (.ireturn, 1) := by decide +kernel
theorem dX1_word_0 : decode cX1_word 0 = .ok (.iload_n 1, 1) := by decide +kernel
theorem dX1_word_1 : decode cX1_word 1 = .ok (.ifCond .lt 20, 3) := by decide +kernel
theorem dX1_word_4 : decode cX1_word 4 = .ok (.iload_n 1, 1) := by decide +kernel
theorem dX1_word_5 : decode cX1_word 5 = .ok (.aload_n 0, 1) := by decide +kernel
theorem dX1_word_6 : decode cX1_word 6 = .ok (.getfield 35, 3) := by decide +kernel
theorem dX1_word_9 : decode cX1_word 9 = .ok (.if_icmp .ge 12, 3) := by decide +kernel
theorem dX1_word_12 : decode cX1_word 12 = .ok (.aload_n 0, 1) := by decide +kernel
theorem dX1_word_13 : decode cX1_word 13 = .ok (.getfield 22, 3) := by decide +kernel
theorem dX1_word_16 : decode cX1_word 16 = .ok (.iload_n 1, 1) := by decide +kernel
theorem dX1_word_17 : decode cX1_word 17 = .ok (.baload, 1) := by decide +kernel
theorem dX1_word_18 : decode cX1_word 18 = .ok (.ifCond .ne 7, 3) := by decide +kernel
theorem dX1_word_21 : decode cX1_word 21 = .ok (.iconst 0, 1) := by decide +kernel
theorem dX1_word_22 : decode cX1_word 22 = .ok (.goto 9, 3) := by decide +kernel
theorem dX1_word_25 : decode cX1_word 25 = .ok (.aload_n 0, 1) := by decide +kernel
theorem dX1_word_26 : decode cX1_word 26 = .ok (.getfield 26, 3) := by decide +kernel
theorem dX1_word_29 : decode cX1_word 29 = .ok (.iload_n 1, 1) := by decide +kernel
theorem dX1_word_30 : decode cX1_word 30 = .ok (.iaload, 1) := by decide +kernel
theorem dX1_word_31 : decode cX1_word 31 = .ok (.ireturn, 1) := by decide +kernel
theorem dX1_order_0 : decode cX1_order 0 = .ok (.iload_n 1, 1) := by decide +kernel
theorem dX1_order_1 : decode cX1_order 1 = .ok (.ifCond .lt 11, 3) := by decide +kernel
theorem dX1_order_4 : decode cX1_order 4 = .ok (.iload_n 1, 1) := by decide +kernel
theorem dX1_order_5 : decode cX1_order 5 = .ok (.aload_n 0, 1) := by decide +kernel
theorem dX1_order_6 : decode cX1_order 6 = .ok (.getfield 62, 3) := by decide +kernel
theorem dX1_order_9 : decode cX1_order 9 = .ok (.if_icmp .lt 7, 3) := by decide +kernel
theorem dX1_order_12 : decode cX1_order 12 = .ok (.iconst (-1), 1) := by decide +kernel
theorem dX1_order_13 : decode cX1_order 13 = .ok (.goto 9, 3) := by decide +kernel
theorem dX1_order_16 : decode cX1_order 16 = .ok (.aload_n 0, 1) := by decide +kernel
theorem dX1_order_17 : decode cX1_order 17 = .ok (.getfield 29, 3) := by decide +kernel
theorem dX1_order_20 : decode cX1_order 20 = .ok (.iload_n 1, 1) := by decide +kernel
theorem dX1_order_21 : decode cX1_order 21 = .ok (.iaload, 1) := by decide +kernel
theorem dX1_order_22 : decode cX1_order 22 = .ok (.ireturn, 1) := by decide +kernel
set_option maxRecDepth 20000 in
theorem ggX1_open_X1_isOpen : GoodIn wsX1_open wsX1_isOpen := goodIn_r _ [6, 7, 8, 9, 10, 11, 12, 13, 5, 14, 15, 16, 17, 18, 19, 20, 21, 22, 23, 24, 25, 26, 27, 28, 29, 30, 31, 32, 33, 34, 35, 36] (by decide +kernel) (by decide +kernel)
set_option maxRecDepth 20000 in
theorem gX1_open_X1_isOpen : GoodIn wsX1_open (wsV RX1 65 RX1 yX1_isOpen wsX1_isOpen) := goodIn_app (goodIn_of _ (by decide +kernel)) ggX1_open_X1_isOpen
theorem dX1_open_0 : decode cX1_open 0 = .ok (.iload_n 1, 1) := by decide +kernel
theorem dX1_open_1 : decode cX1_open 1 = .ok (.ifCond .lt 11, 3) := by decide +kernel
theorem dX1_open_4 : decode cX1_open 4 = .ok (.iload_n 1, 1) := by decide +kernel
theorem dX1_open_5 : decode cX1_open 5 = .ok (.aload_n 0, 1) := by decide +kernel
theorem dX1_open_6 : decode cX1_open 6 = .ok (.getfield 56, 3) := by decide +kernel
theorem dX1_open_9 : decode cX1_open 9 = .ok (.if_icmp .lt 7, 3) := by decide +kernel
theorem dX1_open_12 : decode cX1_open 12 = .ok (.iconst (-1), 1) := by decide +kernel
theorem dX1_open_13 : decode cX1_open 13 = .ok (.goto 8, 3) := by decide +kernel
theorem dX1_open_16 : decode cX1_open 16 = .ok (.aload_n 0, 1) := by decide +kernel
theorem dX1_open_17 : decode cX1_open 17 = .ok (.iload_n 1, 1) := by decide +kernel
theorem dX1_open_18 : decode cX1_open 18 = .ok (.invokevirtual 65, 3) := by decide +kernel
theorem dX1_open_21 : decode cX1_open 21 = .ok (.ireturn, 1) := by decide +kernel
theorem dX1_drops_0 : decode cX1_drops 0 = .ok (.aload_n 0, 1) := by decide +kernel
theorem dX1_drops_1 : decode cX1_drops 1 = .ok (.getfield 56, 3) := by decide +kernel
theorem dX1_drops_4 : decode cX1_drops 4 = .ok (.ireturn, 1) := by decide +kernel
theorem dX1_count_0 : decode cX1_count 0 = .ok (.aload_n 0, 1) := by decide +kernel
theorem dX1_count_1 : decode cX1_count 1 = .ok (.getfield 62, 3) := by decide +kernel
theorem dX1_count_4 : decode cX1_count 4 = .ok (.ireturn, 1) := by decide +kernel
theorem dX1_clashes_0 : decode cX1_clashes 0 = .ok (.aload_n 0, 1) := by decide +kernel
theorem dX1_clashes_1 : decode cX1_clashes 1 = .ok (.getfield 72, 3) := by decide +kernel
theorem dX1_clashes_4 : decode cX1_clashes 4 = .ok (.ireturn, 1) := by decide +kernel
theorem dX1_forget_0 : decode cX1_forget 0 = .ok (.aload_n 0, 1) := by decide +kernel
theorem dX1_forget_1 : decode cX1_forget 1 = .ok (.getfield 56, 3) := by decide +kernel
theorem dX1_forget_4 : decode cX1_forget 4 = .ok (.istore_n 1, 1) := by decide +kernel
theorem dX1_forget_5 : decode cX1_forget 5 = .ok (.aload_n 0, 1) := by decide +kernel
theorem dX1_forget_6 : decode cX1_forget 6 = .ok (.iconst 0, 1) := by decide +kernel
theorem dX1_forget_7 : decode cX1_forget 7 = .ok (.putfield 56, 3) := by decide +kernel
theorem dX1_forget_10 : decode cX1_forget 10 = .ok (.aload_n 0, 1) := by decide +kernel
theorem dX1_forget_11 : decode cX1_forget 11 = .ok (.iconst 0, 1) := by decide +kernel
theorem dX1_forget_12 : decode cX1_forget 12 = .ok (.putfield 62, 3) := by decide +kernel
theorem dX1_forget_15 : decode cX1_forget 15 = .ok (.aload_n 0, 1) := by decide +kernel
theorem dX1_forget_16 : decode cX1_forget 16 = .ok (.iconst 0, 1) := by decide +kernel
theorem dX1_forget_17 : decode cX1_forget 17 = .ok (.putfield 72, 3) := by decide +kernel
theorem dX1_forget_20 : decode cX1_forget 20 = .ok (.iconst 0, 1) := by decide +kernel
theorem dX1_forget_21 : decode cX1_forget 21 = .ok (.istore_n 2, 1) := by decide +kernel
theorem dX1_forget_22 : decode cX1_forget 22 = .ok (.iload_n 2, 1) := by decide +kernel
theorem dX1_forget_23 : decode cX1_forget 23 = .ok (.aload_n 0, 1) := by decide +kernel
theorem dX1_forget_24 : decode cX1_forget 24 = .ok (.getfield 35, 3) := by decide +kernel
theorem dX1_forget_27 : decode cX1_forget 27 = .ok (.if_icmp .ge 16, 3) := by decide +kernel
theorem dX1_forget_30 : decode cX1_forget 30 = .ok (.aload_n 0, 1) := by decide +kernel
theorem dX1_forget_31 : decode cX1_forget 31 = .ok (.getfield 22, 3) := by decide +kernel
theorem dX1_forget_34 : decode cX1_forget 34 = .ok (.iload_n 2, 1) := by decide +kernel
theorem dX1_forget_35 : decode cX1_forget 35 = .ok (.iconst 0, 1) := by decide +kernel
theorem dX1_forget_36 : decode cX1_forget 36 = .ok (.bastore, 1) := by decide +kernel
theorem dX1_forget_37 : decode cX1_forget 37 = .ok (.iinc 2 1, 3) := by decide +kernel
theorem dX1_forget_40 : decode cX1_forget 40 = .ok (.goto (-18), 3) := by decide +kernel
theorem dX1_forget_43 : decode cX1_forget 43 = .ok (.iload_n 1, 1) := by decide +kernel
theorem dX1_forget_44 : decode cX1_forget 44 = .ok (.ireturn, 1) := by decide +kernel
theorem dJ6_numberOfTrailingZeros_0f7a4_0 : decode cJ6_numberOfTrailingZeros_0f7a4 0 = .ok (.iload_n 0, 1) := by decide +kernel
theorem dJ6_numberOfTrailingZeros_0f7a4_1 : decode cJ6_numberOfTrailingZeros_0f7a4 1 = .ok (.iconst (-1), 1) := by decide +kernel
theorem dJ6_numberOfTrailingZeros_0f7a4_2 : decode cJ6_numberOfTrailingZeros_0f7a4 2 = .ok (.ixor, 1) := by decide +kernel
theorem dJ6_numberOfTrailingZeros_0f7a4_3 : decode cJ6_numberOfTrailingZeros_0f7a4 3 = .ok (.iload_n 0, 1) := by decide +kernel
theorem dJ6_numberOfTrailingZeros_0f7a4_4 : decode cJ6_numberOfTrailingZeros_0f7a4 4 = .ok (.iconst 1, 1) := by decide +kernel
theorem dJ6_numberOfTrailingZeros_0f7a4_5 : decode cJ6_numberOfTrailingZeros_0f7a4 5 = .ok (.isub, 1) := by decide +kernel
theorem dJ6_numberOfTrailingZeros_0f7a4_6 : decode cJ6_numberOfTrailingZeros_0f7a4 6 = .ok (.iand, 1) := by decide +kernel
theorem dJ6_numberOfTrailingZeros_0f7a4_7 : decode cJ6_numberOfTrailingZeros_0f7a4 7 = .ok (.istore_n 0, 1) := by decide +kernel
theorem dJ6_numberOfTrailingZeros_0f7a4_8 : decode cJ6_numberOfTrailingZeros_0f7a4 8 = .ok (.iload_n 0, 1) := by decide +kernel
theorem dJ6_numberOfTrailingZeros_0f7a4_9 : decode cJ6_numberOfTrailingZeros_0f7a4 9 = .ok (.ifCond .gt 8, 3) := by decide +kernel
theorem dJ6_numberOfTrailingZeros_0f7a4_12 : decode cJ6_numberOfTrailingZeros_0f7a4 12 = .ok (.iload_n 0, 1) := by decide +kernel
theorem dJ6_numberOfTrailingZeros_0f7a4_13 : decode cJ6_numberOfTrailingZeros_0f7a4 13 = .ok (.bipush 32, 2) := by decide +kernel
theorem dJ6_numberOfTrailingZeros_0f7a4_15 : decode cJ6_numberOfTrailingZeros_0f7a4 15 = .ok (.iand, 1) := by decide +kernel
theorem dJ6_numberOfTrailingZeros_0f7a4_16 : decode cJ6_numberOfTrailingZeros_0f7a4 16 = .ok (.ireturn, 1) := by decide +kernel
theorem dJ6_numberOfTrailingZeros_0f7a4_17 : decode cJ6_numberOfTrailingZeros_0f7a4 17 = .ok (.iconst 1, 1) := by decide +kernel
theorem dJ6_numberOfTrailingZeros_0f7a4_18 : decode cJ6_numberOfTrailingZeros_0f7a4 18 = .ok (.istore_n 1, 1) := by decide +kernel
theorem dJ6_numberOfTrailingZeros_0f7a4_19 : decode cJ6_numberOfTrailingZeros_0f7a4 19 = .ok (.iload_n 0, 1) := by decide +kernel
theorem dJ6_numberOfTrailingZeros_0f7a4_20 : decode cJ6_numberOfTrailingZeros_0f7a4 20 = .ok (.ldc_w 264, 3) := by decide +kernel
theorem dJ6_numberOfTrailingZeros_0f7a4_23 : decode cJ6_numberOfTrailingZeros_0f7a4 23 = .ok (.if_icmp .le 11, 3) := by decide +kernel
theorem dJ6_numberOfTrailingZeros_0f7a4_26 : decode cJ6_numberOfTrailingZeros_0f7a4 26 = .ok (.iinc 1 16, 3) := by decide +kernel
theorem dJ6_numberOfTrailingZeros_0f7a4_29 : decode cJ6_numberOfTrailingZeros_0f7a4 29 = .ok (.iload_n 0, 1) := by decide +kernel
theorem dJ6_numberOfTrailingZeros_0f7a4_30 : decode cJ6_numberOfTrailingZeros_0f7a4 30 = .ok (.bipush 16, 2) := by decide +kernel
theorem dJ6_numberOfTrailingZeros_0f7a4_32 : decode cJ6_numberOfTrailingZeros_0f7a4 32 = .ok (.iushr, 1) := by decide +kernel
theorem dJ6_numberOfTrailingZeros_0f7a4_33 : decode cJ6_numberOfTrailingZeros_0f7a4 33 = .ok (.istore_n 0, 1) := by decide +kernel
theorem dJ6_numberOfTrailingZeros_0f7a4_34 : decode cJ6_numberOfTrailingZeros_0f7a4 34 = .ok (.iload_n 0, 1) := by decide +kernel
theorem dJ6_numberOfTrailingZeros_0f7a4_35 : decode cJ6_numberOfTrailingZeros_0f7a4 35 = .ok (.sipush 256, 3) := by decide +kernel
theorem dJ6_numberOfTrailingZeros_0f7a4_38 : decode cJ6_numberOfTrailingZeros_0f7a4 38 = .ok (.if_icmp .le 11, 3) := by decide +kernel
theorem dJ6_numberOfTrailingZeros_0f7a4_41 : decode cJ6_numberOfTrailingZeros_0f7a4 41 = .ok (.iinc 1 8, 3) := by decide +kernel
theorem dJ6_numberOfTrailingZeros_0f7a4_44 : decode cJ6_numberOfTrailingZeros_0f7a4 44 = .ok (.iload_n 0, 1) := by decide +kernel
theorem dJ6_numberOfTrailingZeros_0f7a4_45 : decode cJ6_numberOfTrailingZeros_0f7a4 45 = .ok (.bipush 8, 2) := by decide +kernel
theorem dJ6_numberOfTrailingZeros_0f7a4_47 : decode cJ6_numberOfTrailingZeros_0f7a4 47 = .ok (.iushr, 1) := by decide +kernel
theorem dJ6_numberOfTrailingZeros_0f7a4_48 : decode cJ6_numberOfTrailingZeros_0f7a4 48 = .ok (.istore_n 0, 1) := by decide +kernel
theorem dJ6_numberOfTrailingZeros_0f7a4_49 : decode cJ6_numberOfTrailingZeros_0f7a4 49 = .ok (.iload_n 0, 1) := by decide +kernel
theorem dJ6_numberOfTrailingZeros_0f7a4_50 : decode cJ6_numberOfTrailingZeros_0f7a4 50 = .ok (.bipush 16, 2) := by decide +kernel
theorem dJ6_numberOfTrailingZeros_0f7a4_52 : decode cJ6_numberOfTrailingZeros_0f7a4 52 = .ok (.if_icmp .le 10, 3) := by decide +kernel
theorem dJ6_numberOfTrailingZeros_0f7a4_55 : decode cJ6_numberOfTrailingZeros_0f7a4 55 = .ok (.iinc 1 4, 3) := by decide +kernel
theorem dJ6_numberOfTrailingZeros_0f7a4_58 : decode cJ6_numberOfTrailingZeros_0f7a4 58 = .ok (.iload_n 0, 1) := by decide +kernel
theorem dJ6_numberOfTrailingZeros_0f7a4_59 : decode cJ6_numberOfTrailingZeros_0f7a4 59 = .ok (.iconst 4, 1) := by decide +kernel
theorem dJ6_numberOfTrailingZeros_0f7a4_60 : decode cJ6_numberOfTrailingZeros_0f7a4 60 = .ok (.iushr, 1) := by decide +kernel
theorem dJ6_numberOfTrailingZeros_0f7a4_61 : decode cJ6_numberOfTrailingZeros_0f7a4 61 = .ok (.istore_n 0, 1) := by decide +kernel
theorem dJ6_numberOfTrailingZeros_0f7a4_62 : decode cJ6_numberOfTrailingZeros_0f7a4 62 = .ok (.iload_n 0, 1) := by decide +kernel
theorem dJ6_numberOfTrailingZeros_0f7a4_63 : decode cJ6_numberOfTrailingZeros_0f7a4 63 = .ok (.iconst 4, 1) := by decide +kernel
theorem dJ6_numberOfTrailingZeros_0f7a4_64 : decode cJ6_numberOfTrailingZeros_0f7a4 64 = .ok (.if_icmp .le 10, 3) := by decide +kernel
theorem dJ6_numberOfTrailingZeros_0f7a4_67 : decode cJ6_numberOfTrailingZeros_0f7a4 67 = .ok (.iinc 1 2, 3) := by decide +kernel
theorem dJ6_numberOfTrailingZeros_0f7a4_70 : decode cJ6_numberOfTrailingZeros_0f7a4 70 = .ok (.iload_n 0, 1) := by decide +kernel
theorem dJ6_numberOfTrailingZeros_0f7a4_71 : decode cJ6_numberOfTrailingZeros_0f7a4 71 = .ok (.iconst 2, 1) := by decide +kernel
theorem dJ6_numberOfTrailingZeros_0f7a4_72 : decode cJ6_numberOfTrailingZeros_0f7a4 72 = .ok (.iushr, 1) := by decide +kernel
theorem dJ6_numberOfTrailingZeros_0f7a4_73 : decode cJ6_numberOfTrailingZeros_0f7a4 73 = .ok (.istore_n 0, 1) := by decide +kernel
theorem dJ6_numberOfTrailingZeros_0f7a4_74 : decode cJ6_numberOfTrailingZeros_0f7a4 74 = .ok (.iload_n 1, 1) := by decide +kernel
theorem dJ6_numberOfTrailingZeros_0f7a4_75 : decode cJ6_numberOfTrailingZeros_0f7a4 75 = .ok (.iload_n 0, 1) := by decide +kernel
theorem dJ6_numberOfTrailingZeros_0f7a4_76 : decode cJ6_numberOfTrailingZeros_0f7a4 76 = .ok (.iconst 1, 1) := by decide +kernel
theorem dJ6_numberOfTrailingZeros_0f7a4_77 : decode cJ6_numberOfTrailingZeros_0f7a4 77 = .ok (.iushr, 1) := by decide +kernel
theorem dJ6_numberOfTrailingZeros_0f7a4_78 : decode cJ6_numberOfTrailingZeros_0f7a4 78 = .ok (.iadd, 1) := by decide +kernel
theorem dJ6_numberOfTrailingZeros_0f7a4_79 : decode cJ6_numberOfTrailingZeros_0f7a4 79 = .ok (.ireturn, 1) := by decide +kernel
theorem dJ6_bitCount_0f7a4_0 : decode cJ6_bitCount_0f7a4 0 = .ok (.iload_n 0, 1) := by decide +kernel
theorem dJ6_bitCount_0f7a4_1 : decode cJ6_bitCount_0f7a4 1 = .ok (.iload_n 0, 1) := by decide +kernel
theorem dJ6_bitCount_0f7a4_2 : decode cJ6_bitCount_0f7a4 2 = .ok (.iconst 1, 1) := by decide +kernel
theorem dJ6_bitCount_0f7a4_3 : decode cJ6_bitCount_0f7a4 3 = .ok (.iushr, 1) := by decide +kernel
theorem dJ6_bitCount_0f7a4_4 : decode cJ6_bitCount_0f7a4 4 = .ok (.ldc_w 265, 3) := by decide +kernel
theorem dJ6_bitCount_0f7a4_7 : decode cJ6_bitCount_0f7a4 7 = .ok (.iand, 1) := by decide +kernel
theorem dJ6_bitCount_0f7a4_8 : decode cJ6_bitCount_0f7a4 8 = .ok (.isub, 1) := by decide +kernel
theorem dJ6_bitCount_0f7a4_9 : decode cJ6_bitCount_0f7a4 9 = .ok (.istore_n 0, 1) := by decide +kernel
theorem dJ6_bitCount_0f7a4_10 : decode cJ6_bitCount_0f7a4 10 = .ok (.iload_n 0, 1) := by decide +kernel
theorem dJ6_bitCount_0f7a4_11 : decode cJ6_bitCount_0f7a4 11 = .ok (.ldc_w 266, 3) := by decide +kernel
theorem dJ6_bitCount_0f7a4_14 : decode cJ6_bitCount_0f7a4 14 = .ok (.iand, 1) := by decide +kernel
theorem dJ6_bitCount_0f7a4_15 : decode cJ6_bitCount_0f7a4 15 = .ok (.iload_n 0, 1) := by decide +kernel
theorem dJ6_bitCount_0f7a4_16 : decode cJ6_bitCount_0f7a4 16 = .ok (.iconst 2, 1) := by decide +kernel
theorem dJ6_bitCount_0f7a4_17 : decode cJ6_bitCount_0f7a4 17 = .ok (.iushr, 1) := by decide +kernel
theorem dJ6_bitCount_0f7a4_18 : decode cJ6_bitCount_0f7a4 18 = .ok (.ldc_w 266, 3) := by decide +kernel
theorem dJ6_bitCount_0f7a4_21 : decode cJ6_bitCount_0f7a4 21 = .ok (.iand, 1) := by decide +kernel
theorem dJ6_bitCount_0f7a4_22 : decode cJ6_bitCount_0f7a4 22 = .ok (.iadd, 1) := by decide +kernel
theorem dJ6_bitCount_0f7a4_23 : decode cJ6_bitCount_0f7a4 23 = .ok (.istore_n 0, 1) := by decide +kernel
theorem dJ6_bitCount_0f7a4_24 : decode cJ6_bitCount_0f7a4 24 = .ok (.iload_n 0, 1) := by decide +kernel
theorem dJ6_bitCount_0f7a4_25 : decode cJ6_bitCount_0f7a4 25 = .ok (.iload_n 0, 1) := by decide +kernel
theorem dJ6_bitCount_0f7a4_26 : decode cJ6_bitCount_0f7a4 26 = .ok (.iconst 4, 1) := by decide +kernel
theorem dJ6_bitCount_0f7a4_27 : decode cJ6_bitCount_0f7a4 27 = .ok (.iushr, 1) := by decide +kernel
theorem dJ6_bitCount_0f7a4_28 : decode cJ6_bitCount_0f7a4 28 = .ok (.iadd, 1) := by decide +kernel
theorem dJ6_bitCount_0f7a4_29 : decode cJ6_bitCount_0f7a4 29 = .ok (.ldc_w 267, 3) := by decide +kernel
theorem dJ6_bitCount_0f7a4_32 : decode cJ6_bitCount_0f7a4 32 = .ok (.iand, 1) := by decide +kernel
theorem dJ6_bitCount_0f7a4_33 : decode cJ6_bitCount_0f7a4 33 = .ok (.istore_n 0, 1) := by decide +kernel
theorem dJ6_bitCount_0f7a4_34 : decode cJ6_bitCount_0f7a4 34 = .ok (.iload_n 0, 1) := by decide +kernel
theorem dJ6_bitCount_0f7a4_35 : decode cJ6_bitCount_0f7a4 35 = .ok (.iload_n 0, 1) := by decide +kernel
theorem dJ6_bitCount_0f7a4_36 : decode cJ6_bitCount_0f7a4 36 = .ok (.bipush 8, 2) := by decide +kernel
theorem dJ6_bitCount_0f7a4_38 : decode cJ6_bitCount_0f7a4 38 = .ok (.iushr, 1) := by decide +kernel
theorem dJ6_bitCount_0f7a4_39 : decode cJ6_bitCount_0f7a4 39 = .ok (.iadd, 1) := by decide +kernel
theorem dJ6_bitCount_0f7a4_40 : decode cJ6_bitCount_0f7a4 40 = .ok (.istore_n 0, 1) := by decide +kernel
theorem dJ6_bitCount_0f7a4_41 : decode cJ6_bitCount_0f7a4 41 = .ok (.iload_n 0, 1) := by decide +kernel
theorem dJ6_bitCount_0f7a4_42 : decode cJ6_bitCount_0f7a4 42 = .ok (.iload_n 0, 1) := by decide +kernel
theorem dJ6_bitCount_0f7a4_43 : decode cJ6_bitCount_0f7a4 43 = .ok (.bipush 16, 2) := by decide +kernel
theorem dJ6_bitCount_0f7a4_45 : decode cJ6_bitCount_0f7a4 45 = .ok (.iushr, 1) := by decide +kernel
theorem dJ6_bitCount_0f7a4_46 : decode cJ6_bitCount_0f7a4 46 = .ok (.iadd, 1) := by decide +kernel
theorem dJ6_bitCount_0f7a4_47 : decode cJ6_bitCount_0f7a4 47 = .ok (.istore_n 0, 1) := by decide +kernel
theorem dJ6_bitCount_0f7a4_48 : decode cJ6_bitCount_0f7a4 48 = .ok (.iload_n 0, 1) := by decide +kernel
theorem dJ6_bitCount_0f7a4_49 : decode cJ6_bitCount_0f7a4 49 = .ok (.bipush 63, 2) := by decide +kernel
theorem dJ6_bitCount_0f7a4_51 : decode cJ6_bitCount_0f7a4 51 = .ok (.iand, 1) := by decide +kernel
theorem dJ6_bitCount_0f7a4_52 : decode cJ6_bitCount_0f7a4 52 = .ok (.ireturn, 1) := by decide +kernel
theorem dJ9_floorMod_7cf53_0 : decode cJ9_floorMod_7cf53 0 = .ok (.iload_n 0, 1) := by decide +kernel
theorem dJ9_floorMod_7cf53_1 : decode cJ9_floorMod_7cf53 1 = .ok (.iload_n 1, 1) := by decide +kernel
theorem dJ9_floorMod_7cf53_2 : decode cJ9_floorMod_7cf53 2 = .ok (.irem, 1) := by decide +kernel
theorem dJ9_floorMod_7cf53_3 : decode cJ9_floorMod_7cf53 3 = .ok (.istore_n 2, 1) := by decide +kernel
theorem dJ9_floorMod_7cf53_4 : decode cJ9_floorMod_7cf53 4 = .ok (.iload_n 0, 1) := by decide +kernel
theorem dJ9_floorMod_7cf53_5 : decode cJ9_floorMod_7cf53 5 = .ok (.iload_n 1, 1) := by decide +kernel
theorem dJ9_floorMod_7cf53_6 : decode cJ9_floorMod_7cf53 6 = .ok (.ixor, 1) := by decide +kernel
theorem dJ9_floorMod_7cf53_7 : decode cJ9_floorMod_7cf53 7 = .ok (.ifCond .ge 11, 3) := by decide +kernel
theorem dJ9_floorMod_7cf53_10 : decode cJ9_floorMod_7cf53 10 = .ok (.iload_n 2, 1) := by decide +kernel
theorem dJ9_floorMod_7cf53_11 : decode cJ9_floorMod_7cf53 11 = .ok (.ifCond .eq 7, 3) := by decide +kernel
theorem dJ9_floorMod_7cf53_14 : decode cJ9_floorMod_7cf53 14 = .ok (.iload_n 2, 1) := by decide +kernel
theorem dJ9_floorMod_7cf53_15 : decode cJ9_floorMod_7cf53 15 = .ok (.iload_n 1, 1) := by decide +kernel
theorem dJ9_floorMod_7cf53_16 : decode cJ9_floorMod_7cf53 16 = .ok (.iadd, 1) := by decide +kernel
theorem dJ9_floorMod_7cf53_17 : decode cJ9_floorMod_7cf53 17 = .ok (.ireturn, 1) := by decide +kernel
theorem dJ9_floorMod_7cf53_18 : decode cJ9_floorMod_7cf53 18 = .ok (.iload_n 2, 1) := by decide +kernel
theorem dJ9_floorMod_7cf53_19 : decode cJ9_floorMod_7cf53 19 = .ok (.ireturn, 1) := by decide +kernel
theorem dL_cell_0 : decode cL_cell 0 = .ok (.iload_n 1, 1) := by decide +kernel
theorem dL_cell_1 : decode cL_cell 1 = .ok (.aload_n 0, 1) := by decide +kernel
theorem dL_cell_2 : decode cL_cell 2 = .ok (.arraylength, 1) := by decide +kernel
theorem dL_cell_3 : decode cL_cell 3 = .ok (.if_icmp .ge 9, 3) := by decide +kernel
theorem dL_cell_6 : decode cL_cell 6 = .ok (.aload_n 0, 1) := by decide +kernel
theorem dL_cell_7 : decode cL_cell 7 = .ok (.iload_n 1, 1) := by decide +kernel
theorem dL_cell_8 : decode cL_cell 8 = .ok (.iaload, 1) := by decide +kernel
theorem dL_cell_9 : decode cL_cell 9 = .ok (.goto 4, 3) := by decide +kernel
theorem dL_cell_12 : decode cL_cell 12 = .ok (.iconst 0, 1) := by decide +kernel
theorem dL_cell_13 : decode cL_cell 13 = .ok (.ireturn, 1) := by decide +kernel
set_option maxRecDepth 20000 in
theorem ggL_law_L_cell : GoodIn wsL_law wsL_cell := goodIn_r _ [9] (by decide +kernel) (by decide +kernel)
set_option maxRecDepth 20000 in
theorem gL_law_L_cell : GoodIn wsL_law (va_wsS RL 9 yL_cell wsL_cell) := goodIn_app (goodIn_of _ (by decide +kernel)) ggL_law_L_cell
set_option maxRecDepth 20000 in
theorem ggL_law_X0_init : GoodIn wsL_law wsX0_init := goodIn_r _ [12, 13, 14, 15, 16, 17, 18, 19, 20, 21, 22, 23, 24, 25, 26, 27, 28, 29, 30, 31, 269, 270, 271, 272, 273, 274, 275, 276, 277, 278, 279] (by decide +kernel) (by decide +kernel)
set_option maxRecDepth 20000 in
theorem gL_law_X0_init : GoodIn wsL_law (wsX0_init) := ggL_law_X0_init
set_option maxRecDepth 20000 in
theorem ggL_law_X1_init : GoodIn wsL_law wsX1_init := goodIn_r _ [34, 35, 14, 15, 16, 36, 37, 38, 39, 40, 41, 42, 43, 44, 45, 280, 281, 282, 283, 284, 285, 286, 287, 288, 289, 290, 291, 292, 293] (by decide +kernel) (by decide +kernel)
set_option maxRecDepth 20000 in
theorem gL_law_X1_init : GoodIn wsL_law (wsX1_init) := ggL_law_X1_init
set_option maxRecDepth 20000 in
theorem ggL_law_X0_put : GoodIn wsL_law wsX0_put := goodIn_r _ [49, 25, 50, 51, 52, 2, 53, 24, 269, 270, 271, 272, 273, 274, 275, 276, 277, 278, 279] (by decide +kernel) (by decide +kernel)
set_option maxRecDepth 20000 in
theorem gL_law_X0_put : GoodIn wsL_law (wsV RL 21 RX0 yX0_put wsX0_put) := goodIn_app (goodIn_of _ (by decide +kernel)) ggL_law_X0_put
set_option maxRecDepth 20000 in
theorem ggL_law_X1_put : GoodIn wsL_law wsX1_put := goodIn_r _ [57, 45, 36, 280, 281, 282, 283, 284, 285, 286, 287, 288, 289, 290, 291, 292, 293] (by decide +kernel) (by decide +kernel)
set_option maxRecDepth 20000 in
theorem gL_law_X1_put : GoodIn wsL_law (wsV RL 25 RX1 yX1_put wsX1_put) := goodIn_app (goodIn_of _ (by decide +kernel)) ggL_law_X1_put
set_option maxRecDepth 20000 in
theorem ggL_law_X0_drop : GoodIn wsL_law wsX0_drop := goodIn_r _ [61, 25, 62, 63, 64, 2, 65, 66, 24, 67, 68, 69, 70, 71, 72, 73, 74, 75, 76, 77, 78, 79, 80, 81, 82, 83, 84, 85, 86, 87, 88, 89, 90, 91, 92, 269, 270, 271, 272, 273, 274, 275, 276, 277, 278, 279] (by decide +kernel) (by decide +kernel)
set_option maxRecDepth 20000 in
theorem gL_law_X0_drop : GoodIn wsL_law (wsV RL 26 RX0 yX0_drop wsX0_drop) := goodIn_app (goodIn_of _ (by decide +kernel)) ggL_law_X0_drop
set_option maxRecDepth 20000 in
theorem ggL_law_X1_drop : GoodIn wsL_law wsX1_drop := goodIn_r _ [96, 45, 44, 36, 97, 98, 99, 5, 100, 101, 102, 103, 104, 105, 106, 107, 108, 280, 281, 282, 283, 284, 285, 286, 287, 288, 289, 290, 291, 292, 293] (by decide +kernel) (by decide +kernel)
set_option maxRecDepth 20000 in
theorem gL_law_X1_drop : GoodIn wsL_law (wsV RL 30 RX1 yX1_drop wsX1_drop) := goodIn_app (goodIn_of _ (by decide +kernel)) ggL_law_X1_drop
set_option maxRecDepth 20000 in
theorem ggL_law_X0_degree : GoodIn wsL_law wsX0_degree := goodIn_r _ [112, 67, 68, 2, 69, 70, 71, 72, 73, 74, 75, 76, 77, 78, 79, 24, 269, 270, 271, 272, 273, 274, 275, 276, 277, 278, 279] (by decide +kernel) (by decide +kernel)
set_option maxRecDepth 20000 in
theorem gL_law_X0_degree : GoodIn wsL_law (wsV RL 31 RX0 yX0_degree wsX0_degree) := goodIn_app (goodIn_of _ (by decide +kernel)) ggL_law_X0_degree
set_option maxRecDepth 20000 in
theorem ggL_law_X1_degree : GoodIn wsL_law wsX1_degree := goodIn_r _ [116, 97, 98, 99, 5, 100, 101, 102, 45, 44, 103, 104, 105, 106, 107, 108, 280, 281, 282, 283, 284, 285, 286, 287, 288, 289, 290, 291, 292, 293] (by decide +kernel) (by decide +kernel)
set_option maxRecDepth 20000 in
theorem gL_law_X1_degree : GoodIn wsL_law (wsV RL 34 RX1 yX1_degree wsX1_degree) := goodIn_app (goodIn_of _ (by decide +kernel)) ggL_law_X1_degree
set_option maxRecDepth 20000 in
theorem ggL_law_X0_set : GoodIn wsL_law wsX0_set := goodIn_r _ [120, 62, 63, 64, 2, 65, 66, 24, 67, 68, 69, 70, 71, 72, 73, 74, 75, 76, 77, 78, 79, 80, 81, 82, 83, 84, 85, 86, 269, 270, 271, 272, 273, 274, 275, 276, 277, 278, 279] (by decide +kernel) (by decide +kernel)
set_option maxRecDepth 20000 in
theorem gL_law_X0_set : GoodIn wsL_law (wsV RL 35 RX0 yX0_set wsX0_set) := goodIn_app (goodIn_of _ (by decide +kernel)) ggL_law_X0_set
set_option maxRecDepth 20000 in
theorem ggL_law_X1_set : GoodIn wsL_law wsX1_set := goodIn_r _ [124, 45, 44, 97, 98, 99, 5, 100, 101, 102, 103, 104, 105, 106, 107, 108, 280, 281, 282, 283, 284, 285, 286, 287, 288, 289, 290, 291, 292, 293] (by decide +kernel) (by decide +kernel)
set_option maxRecDepth 20000 in
theorem gL_law_X1_set : GoodIn wsL_law (wsV RL 38 RX1 yX1_set wsX1_set) := goodIn_app (goodIn_of _ (by decide +kernel)) ggL_law_X1_set
set_option maxRecDepth 20000 in
theorem ggL_law_X0_receive : GoodIn wsL_law wsX0_receive := goodIn_r _ [128, 19, 17, 18, 22, 62, 63, 64, 2, 65, 66, 24, 67, 68, 69, 70, 71, 72, 73, 74, 75, 76, 77, 78, 79, 80, 81, 82, 83, 84, 85, 86, 129, 130, 131, 132, 133, 134, 135, 136, 20, 137, 138, 139, 140, 21, 141, 142, 143, 144, 23, 145, 146, 147, 148, 26, 87, 88, 89, 90, 91, 92, 149, 150, 151, 152, 153, 154, 155, 156, 157, 158, 159, 160, 161, 162, 163, 164, 27, 165, 166, 167, 168, 169, 170, 171, 172, 269, 270, 271, 272, 273, 274, 275, 276, 277, 278, 279] (by decide +kernel) (by decide +kernel)
set_option maxRecDepth 20000 in
theorem gL_law_X0_receive : GoodIn wsL_law (wsV RL 39 RX0 yX0_receive wsX0_receive) := goodIn_app (goodIn_of _ (by decide +kernel)) ggL_law_X0_receive
set_option maxRecDepth 20000 in
theorem ggL_law_X1_receive : GoodIn wsL_law wsX1_receive := goodIn_r _ [176, 177, 37, 38, 39, 178, 179, 180, 181, 182, 5, 183, 45, 44, 41, 97, 98, 99, 100, 101, 102, 103, 104, 105, 106, 107, 108, 184, 185, 186, 187, 188, 189, 190, 191, 192, 42, 193, 194, 195, 196, 197, 198, 199, 200, 43, 280, 281, 282, 283, 284, 285, 286, 287, 288, 289, 290, 291, 292, 293] (by decide +kernel) (by decide +kernel)
set_option maxRecDepth 20000 in
theorem gL_law_X1_receive : GoodIn wsL_law (wsV RL 42 RX1 yX1_receive wsX1_receive) := goodIn_app (goodIn_of _ (by decide +kernel)) ggL_law_X1_receive
set_option maxRecDepth 20000 in
theorem ggL_law_X0_known : GoodIn wsL_law wsX0_known := goodIn_r _ [204, 50, 51, 52, 2, 53, 24, 205, 206, 207, 208, 20, 90, 91, 92, 269, 270, 271, 272, 273, 274, 275, 276, 277, 278, 279] (by decide +kernel) (by decide +kernel)
set_option maxRecDepth 20000 in
theorem gL_law_X0_known : GoodIn wsL_law (wsV RL 43 RX0 yX0_known wsX0_known) := goodIn_app (goodIn_of _ (by decide +kernel)) ggL_law_X0_known
set_option maxRecDepth 20000 in
theorem ggL_law_X1_known : GoodIn wsL_law wsX1_known := goodIn_r _ [212, 45, 41, 280, 281, 282, 283, 284, 285, 286, 287, 288, 289, 290, 291, 292, 293] (by decide +kernel) (by decide +kernel)
set_option maxRecDepth 20000 in
theorem gL_law_X1_known : GoodIn wsL_law (wsV RL 46 RX1 yX1_known wsX1_known) := goodIn_app (goodIn_of _ (by decide +kernel)) ggL_law_X1_known
set_option maxRecDepth 20000 in
theorem ggL_law_X0_word : GoodIn wsL_law wsX0_word := goodIn_r _ [216, 26, 50, 51, 52, 2, 53, 24, 205, 206, 207, 208, 20, 90, 91, 92, 269, 270, 271, 272, 273, 274, 275, 276, 277, 278, 279] (by decide +kernel) (by decide +kernel)
set_option maxRecDepth 20000 in
theorem gL_law_X0_word : GoodIn wsL_law (wsV RL 47 RX0 yX0_word wsX0_word) := goodIn_app (goodIn_of _ (by decide +kernel)) ggL_law_X0_word
set_option maxRecDepth 20000 in
theorem ggL_law_X1_word : GoodIn wsL_law wsX1_word := goodIn_r _ [220, 45, 41, 42, 280, 281, 282, 283, 284, 285, 286, 287, 288, 289, 290, 291, 292, 293] (by decide +kernel) (by decide +kernel)
set_option maxRecDepth 20000 in
theorem gL_law_X1_word : GoodIn wsL_law (wsV RL 50 RX1 yX1_word wsX1_word) := goodIn_app (goodIn_of _ (by decide +kernel)) ggL_law_X1_word
set_option maxRecDepth 20000 in
theorem ggL_law_X0_order : GoodIn wsL_law wsX0_order := goodIn_r _ [224, 27, 165, 166, 167, 2, 168, 20, 80, 81, 82, 83, 84, 85, 86, 269, 270, 271, 272, 273, 274, 275, 276, 277, 278, 279] (by decide +kernel) (by decide +kernel)
set_option maxRecDepth 20000 in
theorem gL_law_X0_order : GoodIn wsL_law (wsV RL 51 RX0 yX0_order wsX0_order) := goodIn_app (goodIn_of _ (by decide +kernel)) ggL_law_X0_order
set_option maxRecDepth 20000 in
theorem ggL_law_X1_order : GoodIn wsL_law wsX1_order := goodIn_r _ [228, 179, 43, 280, 281, 282, 283, 284, 285, 286, 287, 288, 289, 290, 291, 292, 293] (by decide +kernel) (by decide +kernel)
set_option maxRecDepth 20000 in
theorem gL_law_X1_order : GoodIn wsL_law (wsV RL 54 RX1 yX1_order wsX1_order) := goodIn_app (goodIn_of _ (by decide +kernel)) ggL_law_X1_order
set_option maxRecDepth 20000 in
theorem ggL_law_X0_open : GoodIn wsL_law wsX0_open := goodIn_r _ [232, 19, 129, 130, 131, 2, 132, 133, 134, 135, 136, 17, 20, 80, 81, 82, 83, 84, 85, 86, 269, 270, 271, 272, 273, 274, 275, 276, 277, 278, 279] (by decide +kernel) (by decide +kernel)
set_option maxRecDepth 20000 in
theorem gL_law_X0_open : GoodIn wsL_law (wsV RL 55 RX0 yX0_open wsX0_open) := goodIn_app (goodIn_of _ (by decide +kernel)) ggL_law_X0_open
set_option maxRecDepth 20000 in
theorem ggL_law_X1_open : GoodIn wsL_law wsX1_open := goodIn_r _ [236, 177, 180, 181, 182, 5, 183, 37, 45, 44, 41, 97, 98, 99, 100, 101, 102, 103, 104, 105, 106, 107, 108, 280, 281, 282, 283, 284, 285, 286, 287, 288, 289, 290, 291, 292, 293] (by decide +kernel) (by decide +kernel)
set_option maxRecDepth 20000 in
theorem gL_law_X1_open : GoodIn wsL_law (wsV RL 58 RX1 yX1_open wsX1_open) := goodIn_app (goodIn_of _ (by decide +kernel)) ggL_law_X1_open
set_option maxRecDepth 20000 in
theorem ggL_law_X0_drops : GoodIn wsL_law wsX0_drops := goodIn_r _ [240, 19, 269, 270, 271, 272, 273, 274, 275, 276, 277, 278, 279] (by decide +kernel) (by decide +kernel)
set_option maxRecDepth 20000 in
theorem gL_law_X0_drops : GoodIn wsL_law (wsV RL 59 RX0 yX0_drops wsX0_drops) := goodIn_app (goodIn_of _ (by decide +kernel)) ggL_law_X0_drops
set_option maxRecDepth 20000 in
theorem ggL_law_X1_drops : GoodIn wsL_law wsX1_drops := goodIn_r _ [244, 177, 280, 281, 282, 283, 284, 285, 286, 287, 288, 289, 290, 291, 292, 293] (by decide +kernel) (by decide +kernel)
set_option maxRecDepth 20000 in
theorem gL_law_X1_drops : GoodIn wsL_law (wsV RL 63 RX1 yX1_drops wsX1_drops) := goodIn_app (goodIn_of _ (by decide +kernel)) ggL_law_X1_drops
set_option maxRecDepth 20000 in
theorem ggL_law_X0_count : GoodIn wsL_law wsX0_count := goodIn_r _ [248, 165, 166, 167, 2, 168, 20, 80, 81, 82, 83, 84, 85, 86, 269, 270, 271, 272, 273, 274, 275, 276, 277, 278, 279] (by decide +kernel) (by decide +kernel)
set_option maxRecDepth 20000 in
theorem gL_law_X0_count : GoodIn wsL_law (wsV RL 64 RX0 yX0_count wsX0_count) := goodIn_app (goodIn_of _ (by decide +kernel)) ggL_law_X0_count
set_option maxRecDepth 20000 in
theorem ggL_law_X1_count : GoodIn wsL_law wsX1_count := goodIn_r _ [252, 179, 280, 281, 282, 283, 284, 285, 286, 287, 288, 289, 290, 291, 292, 293] (by decide +kernel) (by decide +kernel)
set_option maxRecDepth 20000 in
theorem gL_law_X1_count : GoodIn wsL_law (wsV RL 67 RX1 yX1_count wsX1_count) := goodIn_app (goodIn_of _ (by decide +kernel)) ggL_law_X1_count
set_option maxRecDepth 20000 in
theorem ggL_law_X0_clashes : GoodIn wsL_law wsX0_clashes := goodIn_r _ [256, 23, 269, 270, 271, 272, 273, 274, 275, 276, 277, 278, 279] (by decide +kernel) (by decide +kernel)
set_option maxRecDepth 20000 in
theorem gL_law_X0_clashes : GoodIn wsL_law (wsV RL 68 RX0 yX0_clashes wsX0_clashes) := goodIn_app (goodIn_of _ (by decide +kernel)) ggL_law_X0_clashes
set_option maxRecDepth 20000 in
theorem ggL_law_X1_clashes : GoodIn wsL_law wsX1_clashes := goodIn_r _ [260, 178, 280, 281, 282, 283, 284, 285, 286, 287, 288, 289, 290, 291, 292, 293] (by decide +kernel) (by decide +kernel)
set_option maxRecDepth 20000 in
theorem gL_law_X1_clashes : GoodIn wsL_law (wsV RL 71 RX1 yX1_clashes wsX1_clashes) := goodIn_app (goodIn_of _ (by decide +kernel)) ggL_law_X1_clashes
set_option maxRecDepth 20000 in
theorem ggL_law_X0_forget : GoodIn wsL_law wsX0_forget := goodIn_r _ [264, 19, 20, 23, 269, 270, 271, 272, 273, 274, 275, 276, 277, 278, 279] (by decide +kernel) (by decide +kernel)
set_option maxRecDepth 20000 in
theorem gL_law_X0_forget : GoodIn wsL_law (wsV RL 72 RX0 yX0_forget wsX0_forget) := goodIn_app (goodIn_of _ (by decide +kernel)) ggL_law_X0_forget
set_option maxRecDepth 20000 in
theorem ggL_law_X1_forget : GoodIn wsL_law wsX1_forget := goodIn_r _ [268, 177, 179, 178, 45, 41, 280, 281, 282, 283, 284, 285, 286, 287, 288, 289, 290, 291, 292, 293] (by decide +kernel) (by decide +kernel)
set_option maxRecDepth 20000 in
theorem gL_law_X1_forget : GoodIn wsL_law (wsV RL 75 RX1 yX1_forget wsX1_forget) := goodIn_app (goodIn_of _ (by decide +kernel)) ggL_law_X1_forget
theorem dL_law_0 : decode cL_law 0 = .ok (.new 7, 3) := by decide +kernel
theorem dL_law_3 : decode cL_law 3 = .ok (.dup, 1) := by decide +kernel
theorem dL_law_4 : decode cL_law 4 = .ok (.aload_n 0, 1) := by decide +kernel
theorem dL_law_5 : decode cL_law 5 = .ok (.iconst 0, 1) := by decide +kernel
theorem dL_law_6 : decode cL_law 6 = .ok (.invokestatic 9, 3) := by decide +kernel
theorem dL_law_9 : decode cL_law 9 = .ok (.invokespecial 15, 3) := by decide +kernel
theorem dL_law_12 : decode cL_law 12 = .ok (.astore_n 1, 1) := by decide +kernel
theorem dL_law_13 : decode cL_law 13 = .ok (.new 18, 3) := by decide +kernel
theorem dL_law_16 : decode cL_law 16 = .ok (.dup, 1) := by decide +kernel
theorem dL_law_17 : decode cL_law 17 = .ok (.aload_n 0, 1) := by decide +kernel
theorem dL_law_18 : decode cL_law 18 = .ok (.iconst 0, 1) := by decide +kernel
theorem dL_law_19 : decode cL_law 19 = .ok (.invokestatic 9, 3) := by decide +kernel
theorem dL_law_22 : decode cL_law 22 = .ok (.invokespecial 20, 3) := by decide +kernel
theorem dL_law_25 : decode cL_law 25 = .ok (.astore_n 2, 1) := by decide +kernel
theorem dL_law_26 : decode cL_law 26 = .ok (.iconst 1, 1) := by decide +kernel
theorem dL_law_27 : decode cL_law 27 = .ok (.istore_n 3, 1) := by decide +kernel
theorem dL_law_28 : decode cL_law 28 = .ok (.iload_n 3, 1) := by decide +kernel
theorem dL_law_29 : decode cL_law 29 = .ok (.aload_n 0, 1) := by decide +kernel
theorem dL_law_30 : decode cL_law 30 = .ok (.arraylength, 1) := by decide +kernel
theorem dL_law_31 : decode cL_law 31 = .ok (.iconst 3, 1) := by decide +kernel
theorem dL_law_32 : decode cL_law 32 = .ok (.isub, 1) := by decide +kernel
theorem dL_law_33 : decode cL_law 33 = .ok (.if_icmp .gt 360, 3) := by decide +kernel
theorem dL_law_36 : decode cL_law 36 = .ok (.aload_n 0, 1) := by decide +kernel
theorem dL_law_37 : decode cL_law 37 = .ok (.iload_n 3, 1) := by decide +kernel
theorem dL_law_38 : decode cL_law 38 = .ok (.iaload, 1) := by decide +kernel
theorem dL_law_39 : decode cL_law 39 = .ok (.bipush 15, 2) := by decide +kernel
theorem dL_law_41 : decode cL_law 41 = .ok (.iand, 1) := by decide +kernel
theorem dL_law_42 : decode cL_law 42 = .ok (.tableswitch 345 0 12 #[66, 99, 122, 145, 168, 201, 224, 247, 270, 293, 306, 319, 332], 66) := by decide +kernel
theorem dL_law_108 : decode cL_law 108 = .ok (.aload_n 1, 1) := by decide +kernel
theorem dL_law_109 : decode cL_law 109 = .ok (.aload_n 0, 1) := by decide +kernel
theorem dL_law_110 : decode cL_law 110 = .ok (.iload_n 3, 1) := by decide +kernel
theorem dL_law_111 : decode cL_law 111 = .ok (.iconst 1, 1) := by decide +kernel
theorem dL_law_112 : decode cL_law 112 = .ok (.iadd, 1) := by decide +kernel
theorem dL_law_113 : decode cL_law 113 = .ok (.iaload, 1) := by decide +kernel
theorem dL_law_114 : decode cL_law 114 = .ok (.aload_n 0, 1) := by decide +kernel
theorem dL_law_115 : decode cL_law 115 = .ok (.iload_n 3, 1) := by decide +kernel
theorem dL_law_116 : decode cL_law 116 = .ok (.iconst 2, 1) := by decide +kernel
theorem dL_law_117 : decode cL_law 117 = .ok (.iadd, 1) := by decide +kernel
theorem dL_law_118 : decode cL_law 118 = .ok (.iaload, 1) := by decide +kernel
theorem dL_law_119 : decode cL_law 119 = .ok (.invokevirtual 21, 3) := by decide +kernel
theorem dL_law_122 : decode cL_law 122 = .ok (.aload_n 2, 1) := by decide +kernel
theorem dL_law_123 : decode cL_law 123 = .ok (.aload_n 0, 1) := by decide +kernel
theorem dL_law_124 : decode cL_law 124 = .ok (.iload_n 3, 1) := by decide +kernel
theorem dL_law_125 : decode cL_law 125 = .ok (.iconst 1, 1) := by decide +kernel
theorem dL_law_126 : decode cL_law 126 = .ok (.iadd, 1) := by decide +kernel
theorem dL_law_127 : decode cL_law 127 = .ok (.iaload, 1) := by decide +kernel
theorem dL_law_128 : decode cL_law 128 = .ok (.aload_n 0, 1) := by decide +kernel
theorem dL_law_129 : decode cL_law 129 = .ok (.iload_n 3, 1) := by decide +kernel
theorem dL_law_130 : decode cL_law 130 = .ok (.iconst 2, 1) := by decide +kernel
theorem dL_law_131 : decode cL_law 131 = .ok (.iadd, 1) := by decide +kernel
theorem dL_law_132 : decode cL_law 132 = .ok (.iaload, 1) := by decide +kernel
theorem dL_law_133 : decode cL_law 133 = .ok (.invokevirtual 25, 3) := by decide +kernel
theorem dL_law_136 : decode cL_law 136 = .ok (.if_icmp .eq 251, 3) := by decide +kernel
theorem dL_law_139 : decode cL_law 139 = .ok (.iconst 0, 1) := by decide +kernel
theorem dL_law_140 : decode cL_law 140 = .ok (.ireturn, 1) := by decide +kernel
theorem dL_law_141 : decode cL_law 141 = .ok (.aload_n 1, 1) := by decide +kernel
theorem dL_law_142 : decode cL_law 142 = .ok (.aload_n 0, 1) := by decide +kernel
theorem dL_law_143 : decode cL_law 143 = .ok (.iload_n 3, 1) := by decide +kernel
theorem dL_law_144 : decode cL_law 144 = .ok (.iconst 1, 1) := by decide +kernel
theorem dL_law_145 : decode cL_law 145 = .ok (.iadd, 1) := by decide +kernel
theorem dL_law_146 : decode cL_law 146 = .ok (.iaload, 1) := by decide +kernel
theorem dL_law_147 : decode cL_law 147 = .ok (.invokevirtual 26, 3) := by decide +kernel
theorem dL_law_150 : decode cL_law 150 = .ok (.aload_n 2, 1) := by decide +kernel
theorem dL_law_151 : decode cL_law 151 = .ok (.aload_n 0, 1) := by decide +kernel
theorem dL_law_152 : decode cL_law 152 = .ok (.iload_n 3, 1) := by decide +kernel
theorem dL_law_153 : decode cL_law 153 = .ok (.iconst 1, 1) := by decide +kernel
theorem dL_law_154 : decode cL_law 154 = .ok (.iadd, 1) := by decide +kernel
theorem dL_law_155 : decode cL_law 155 = .ok (.iaload, 1) := by decide +kernel
theorem dL_law_156 : decode cL_law 156 = .ok (.invokevirtual 30, 3) := by decide +kernel
theorem dL_law_159 : decode cL_law 159 = .ok (.if_icmp .eq 228, 3) := by decide +kernel
theorem dL_law_162 : decode cL_law 162 = .ok (.iconst 0, 1) := by decide +kernel
theorem dL_law_163 : decode cL_law 163 = .ok (.ireturn, 1) := by decide +kernel
theorem dL_law_164 : decode cL_law 164 = .ok (.aload_n 1, 1) := by decide +kernel
theorem dL_law_165 : decode cL_law 165 = .ok (.aload_n 0, 1) := by decide +kernel
theorem dL_law_166 : decode cL_law 166 = .ok (.iload_n 3, 1) := by decide +kernel
theorem dL_law_167 : decode cL_law 167 = .ok (.iconst 1, 1) := by decide +kernel
theorem dL_law_168 : decode cL_law 168 = .ok (.iadd, 1) := by decide +kernel
theorem dL_law_169 : decode cL_law 169 = .ok (.iaload, 1) := by decide +kernel
theorem dL_law_170 : decode cL_law 170 = .ok (.invokevirtual 31, 3) := by decide +kernel
theorem dL_law_173 : decode cL_law 173 = .ok (.aload_n 2, 1) := by decide +kernel
theorem dL_law_174 : decode cL_law 174 = .ok (.aload_n 0, 1) := by decide +kernel
theorem dL_law_175 : decode cL_law 175 = .ok (.iload_n 3, 1) := by decide +kernel
theorem dL_law_176 : decode cL_law 176 = .ok (.iconst 1, 1) := by decide +kernel
theorem dL_law_177 : decode cL_law 177 = .ok (.iadd, 1) := by decide +kernel
theorem dL_law_178 : decode cL_law 178 = .ok (.iaload, 1) := by decide +kernel
theorem dL_law_179 : decode cL_law 179 = .ok (.invokevirtual 34, 3) := by decide +kernel
theorem dL_law_182 : decode cL_law 182 = .ok (.if_icmp .eq 205, 3) := by decide +kernel
theorem dL_law_185 : decode cL_law 185 = .ok (.iconst 0, 1) := by decide +kernel
theorem dL_law_186 : decode cL_law 186 = .ok (.ireturn, 1) := by decide +kernel
theorem dL_law_187 : decode cL_law 187 = .ok (.aload_n 1, 1) := by decide +kernel
theorem dL_law_188 : decode cL_law 188 = .ok (.aload_n 0, 1) := by decide +kernel
theorem dL_law_189 : decode cL_law 189 = .ok (.iload_n 3, 1) := by decide +kernel
theorem dL_law_190 : decode cL_law 190 = .ok (.iconst 1, 1) := by decide +kernel
theorem dL_law_191 : decode cL_law 191 = .ok (.iadd, 1) := by decide +kernel
theorem dL_law_192 : decode cL_law 192 = .ok (.iaload, 1) := by decide +kernel
theorem dL_law_193 : decode cL_law 193 = .ok (.invokevirtual 35, 3) := by decide +kernel
theorem dL_law_196 : decode cL_law 196 = .ok (.aload_n 2, 1) := by decide +kernel
theorem dL_law_197 : decode cL_law 197 = .ok (.aload_n 0, 1) := by decide +kernel
theorem dL_law_198 : decode cL_law 198 = .ok (.iload_n 3, 1) := by decide +kernel
theorem dL_law_199 : decode cL_law 199 = .ok (.iconst 1, 1) := by decide +kernel
theorem dL_law_200 : decode cL_law 200 = .ok (.iadd, 1) := by decide +kernel
theorem dL_law_201 : decode cL_law 201 = .ok (.iaload, 1) := by decide +kernel
theorem dL_law_202 : decode cL_law 202 = .ok (.invokevirtual 38, 3) := by decide +kernel
theorem dL_law_205 : decode cL_law 205 = .ok (.if_icmp .eq 182, 3) := by decide +kernel
theorem dL_law_208 : decode cL_law 208 = .ok (.iconst 0, 1) := by decide +kernel
theorem dL_law_209 : decode cL_law 209 = .ok (.ireturn, 1) := by decide +kernel
theorem dL_law_210 : decode cL_law 210 = .ok (.aload_n 1, 1) := by decide +kernel
theorem dL_law_211 : decode cL_law 211 = .ok (.aload_n 0, 1) := by decide +kernel
theorem dL_law_212 : decode cL_law 212 = .ok (.iload_n 3, 1) := by decide +kernel
theorem dL_law_213 : decode cL_law 213 = .ok (.iconst 1, 1) := by decide +kernel
theorem dL_law_214 : decode cL_law 214 = .ok (.iadd, 1) := by decide +kernel
theorem dL_law_215 : decode cL_law 215 = .ok (.iaload, 1) := by decide +kernel
theorem dL_law_216 : decode cL_law 216 = .ok (.aload_n 0, 1) := by decide +kernel
theorem dL_law_217 : decode cL_law 217 = .ok (.iload_n 3, 1) := by decide +kernel
theorem dL_law_218 : decode cL_law 218 = .ok (.iconst 2, 1) := by decide +kernel
theorem dL_law_219 : decode cL_law 219 = .ok (.iadd, 1) := by decide +kernel
theorem dL_law_220 : decode cL_law 220 = .ok (.iaload, 1) := by decide +kernel
theorem dL_law_221 : decode cL_law 221 = .ok (.invokevirtual 39, 3) := by decide +kernel
theorem dL_law_224 : decode cL_law 224 = .ok (.aload_n 2, 1) := by decide +kernel
theorem dL_law_225 : decode cL_law 225 = .ok (.aload_n 0, 1) := by decide +kernel
theorem dL_law_226 : decode cL_law 226 = .ok (.iload_n 3, 1) := by decide +kernel
theorem dL_law_227 : decode cL_law 227 = .ok (.iconst 1, 1) := by decide +kernel
theorem dL_law_228 : decode cL_law 228 = .ok (.iadd, 1) := by decide +kernel
theorem dL_law_229 : decode cL_law 229 = .ok (.iaload, 1) := by decide +kernel
theorem dL_law_230 : decode cL_law 230 = .ok (.aload_n 0, 1) := by decide +kernel
theorem dL_law_231 : decode cL_law 231 = .ok (.iload_n 3, 1) := by decide +kernel
theorem dL_law_232 : decode cL_law 232 = .ok (.iconst 2, 1) := by decide +kernel
theorem dL_law_233 : decode cL_law 233 = .ok (.iadd, 1) := by decide +kernel
theorem dL_law_234 : decode cL_law 234 = .ok (.iaload, 1) := by decide +kernel
theorem dL_law_235 : decode cL_law 235 = .ok (.invokevirtual 42, 3) := by decide +kernel
theorem dL_law_238 : decode cL_law 238 = .ok (.if_icmp .eq 149, 3) := by decide +kernel
theorem dL_law_241 : decode cL_law 241 = .ok (.iconst 0, 1) := by decide +kernel
theorem dL_law_242 : decode cL_law 242 = .ok (.ireturn, 1) := by decide +kernel
theorem dL_law_243 : decode cL_law 243 = .ok (.aload_n 1, 1) := by decide +kernel
theorem dL_law_244 : decode cL_law 244 = .ok (.aload_n 0, 1) := by decide +kernel
theorem dL_law_245 : decode cL_law 245 = .ok (.iload_n 3, 1) := by decide +kernel
theorem dL_law_246 : decode cL_law 246 = .ok (.iconst 1, 1) := by decide +kernel
theorem dL_law_247 : decode cL_law 247 = .ok (.iadd, 1) := by decide +kernel
theorem dL_law_248 : decode cL_law 248 = .ok (.iaload, 1) := by decide +kernel
theorem dL_law_249 : decode cL_law 249 = .ok (.invokevirtual 43, 3) := by decide +kernel
theorem dL_law_252 : decode cL_law 252 = .ok (.aload_n 2, 1) := by decide +kernel
theorem dL_law_253 : decode cL_law 253 = .ok (.aload_n 0, 1) := by decide +kernel
theorem dL_law_254 : decode cL_law 254 = .ok (.iload_n 3, 1) := by decide +kernel
theorem dL_law_255 : decode cL_law 255 = .ok (.iconst 1, 1) := by decide +kernel
theorem dL_law_256 : decode cL_law 256 = .ok (.iadd, 1) := by decide +kernel
theorem dL_law_257 : decode cL_law 257 = .ok (.iaload, 1) := by decide +kernel
theorem dL_law_258 : decode cL_law 258 = .ok (.invokevirtual 46, 3) := by decide +kernel
theorem dL_law_261 : decode cL_law 261 = .ok (.if_icmp .eq 126, 3) := by decide +kernel
theorem dL_law_264 : decode cL_law 264 = .ok (.iconst 0, 1) := by decide +kernel
theorem dL_law_265 : decode cL_law 265 = .ok (.ireturn, 1) := by decide +kernel
theorem dL_law_266 : decode cL_law 266 = .ok (.aload_n 1, 1) := by decide +kernel
theorem dL_law_267 : decode cL_law 267 = .ok (.aload_n 0, 1) := by decide +kernel
theorem dL_law_268 : decode cL_law 268 = .ok (.iload_n 3, 1) := by decide +kernel
theorem dL_law_269 : decode cL_law 269 = .ok (.iconst 1, 1) := by decide +kernel
theorem dL_law_270 : decode cL_law 270 = .ok (.iadd, 1) := by decide +kernel
theorem dL_law_271 : decode cL_law 271 = .ok (.iaload, 1) := by decide +kernel
theorem dL_law_272 : decode cL_law 272 = .ok (.invokevirtual 47, 3) := by decide +kernel
theorem dL_law_275 : decode cL_law 275 = .ok (.aload_n 2, 1) := by decide +kernel
theorem dL_law_276 : decode cL_law 276 = .ok (.aload_n 0, 1) := by decide +kernel
theorem dL_law_277 : decode cL_law 277 = .ok (.iload_n 3, 1) := by decide +kernel
theorem dL_law_278 : decode cL_law 278 = .ok (.iconst 1, 1) := by decide +kernel
theorem dL_law_279 : decode cL_law 279 = .ok (.iadd, 1) := by decide +kernel
theorem dL_law_280 : decode cL_law 280 = .ok (.iaload, 1) := by decide +kernel
theorem dL_law_281 : decode cL_law 281 = .ok (.invokevirtual 50, 3) := by decide +kernel
theorem dL_law_284 : decode cL_law 284 = .ok (.if_icmp .eq 103, 3) := by decide +kernel
theorem dL_law_287 : decode cL_law 287 = .ok (.iconst 0, 1) := by decide +kernel
theorem dL_law_288 : decode cL_law 288 = .ok (.ireturn, 1) := by decide +kernel
theorem dL_law_289 : decode cL_law 289 = .ok (.aload_n 1, 1) := by decide +kernel
theorem dL_law_290 : decode cL_law 290 = .ok (.aload_n 0, 1) := by decide +kernel
theorem dL_law_291 : decode cL_law 291 = .ok (.iload_n 3, 1) := by decide +kernel
theorem dL_law_292 : decode cL_law 292 = .ok (.iconst 1, 1) := by decide +kernel
theorem dL_law_293 : decode cL_law 293 = .ok (.iadd, 1) := by decide +kernel
theorem dL_law_294 : decode cL_law 294 = .ok (.iaload, 1) := by decide +kernel
theorem dL_law_295 : decode cL_law 295 = .ok (.invokevirtual 51, 3) := by decide +kernel
theorem dL_law_298 : decode cL_law 298 = .ok (.aload_n 2, 1) := by decide +kernel
theorem dL_law_299 : decode cL_law 299 = .ok (.aload_n 0, 1) := by decide +kernel
theorem dL_law_300 : decode cL_law 300 = .ok (.iload_n 3, 1) := by decide +kernel
theorem dL_law_301 : decode cL_law 301 = .ok (.iconst 1, 1) := by decide +kernel
theorem dL_law_302 : decode cL_law 302 = .ok (.iadd, 1) := by decide +kernel
theorem dL_law_303 : decode cL_law 303 = .ok (.iaload, 1) := by decide +kernel
theorem dL_law_304 : decode cL_law 304 = .ok (.invokevirtual 54, 3) := by decide +kernel
theorem dL_law_307 : decode cL_law 307 = .ok (.if_icmp .eq 80, 3) := by decide +kernel
theorem dL_law_310 : decode cL_law 310 = .ok (.iconst 0, 1) := by decide +kernel
theorem dL_law_311 : decode cL_law 311 = .ok (.ireturn, 1) := by decide +kernel
theorem dL_law_312 : decode cL_law 312 = .ok (.aload_n 1, 1) := by decide +kernel
theorem dL_law_313 : decode cL_law 313 = .ok (.aload_n 0, 1) := by decide +kernel
theorem dL_law_314 : decode cL_law 314 = .ok (.iload_n 3, 1) := by decide +kernel
theorem dL_law_315 : decode cL_law 315 = .ok (.iconst 1, 1) := by decide +kernel
theorem dL_law_316 : decode cL_law 316 = .ok (.iadd, 1) := by decide +kernel
theorem dL_law_317 : decode cL_law 317 = .ok (.iaload, 1) := by decide +kernel
theorem dL_law_318 : decode cL_law 318 = .ok (.invokevirtual 55, 3) := by decide +kernel
theorem dL_law_321 : decode cL_law 321 = .ok (.aload_n 2, 1) := by decide +kernel
theorem dL_law_322 : decode cL_law 322 = .ok (.aload_n 0, 1) := by decide +kernel
theorem dL_law_323 : decode cL_law 323 = .ok (.iload_n 3, 1) := by decide +kernel
theorem dL_law_324 : decode cL_law 324 = .ok (.iconst 1, 1) := by decide +kernel
theorem dL_law_325 : decode cL_law 325 = .ok (.iadd, 1) := by decide +kernel
theorem dL_law_326 : decode cL_law 326 = .ok (.iaload, 1) := by decide +kernel
theorem dL_law_327 : decode cL_law 327 = .ok (.invokevirtual 58, 3) := by decide +kernel
theorem dL_law_330 : decode cL_law 330 = .ok (.if_icmp .eq 57, 3) := by decide +kernel
theorem dL_law_333 : decode cL_law 333 = .ok (.iconst 0, 1) := by decide +kernel
theorem dL_law_334 : decode cL_law 334 = .ok (.ireturn, 1) := by decide +kernel
theorem dL_law_335 : decode cL_law 335 = .ok (.aload_n 1, 1) := by decide +kernel
theorem dL_law_336 : decode cL_law 336 = .ok (.invokevirtual 59, 3) := by decide +kernel
theorem dL_law_339 : decode cL_law 339 = .ok (.aload_n 2, 1) := by decide +kernel
theorem dL_law_340 : decode cL_law 340 = .ok (.invokevirtual 63, 3) := by decide +kernel
theorem dL_law_343 : decode cL_law 343 = .ok (.if_icmp .eq 44, 3) := by decide +kernel
theorem dL_law_346 : decode cL_law 346 = .ok (.iconst 0, 1) := by decide +kernel
theorem dL_law_347 : decode cL_law 347 = .ok (.ireturn, 1) := by decide +kernel
theorem dL_law_348 : decode cL_law 348 = .ok (.aload_n 1, 1) := by decide +kernel
theorem dL_law_349 : decode cL_law 349 = .ok (.invokevirtual 64, 3) := by decide +kernel
theorem dL_law_352 : decode cL_law 352 = .ok (.aload_n 2, 1) := by decide +kernel
theorem dL_law_353 : decode cL_law 353 = .ok (.invokevirtual 67, 3) := by decide +kernel
theorem dL_law_356 : decode cL_law 356 = .ok (.if_icmp .eq 31, 3) := by decide +kernel
theorem dL_law_359 : decode cL_law 359 = .ok (.iconst 0, 1) := by decide +kernel
theorem dL_law_360 : decode cL_law 360 = .ok (.ireturn, 1) := by decide +kernel
theorem dL_law_361 : decode cL_law 361 = .ok (.aload_n 1, 1) := by decide +kernel
theorem dL_law_362 : decode cL_law 362 = .ok (.invokevirtual 68, 3) := by decide +kernel
theorem dL_law_365 : decode cL_law 365 = .ok (.aload_n 2, 1) := by decide +kernel
theorem dL_law_366 : decode cL_law 366 = .ok (.invokevirtual 71, 3) := by decide +kernel
theorem dL_law_369 : decode cL_law 369 = .ok (.if_icmp .eq 18, 3) := by decide +kernel
theorem dL_law_372 : decode cL_law 372 = .ok (.iconst 0, 1) := by decide +kernel
theorem dL_law_373 : decode cL_law 373 = .ok (.ireturn, 1) := by decide +kernel
theorem dL_law_374 : decode cL_law 374 = .ok (.aload_n 1, 1) := by decide +kernel
theorem dL_law_375 : decode cL_law 375 = .ok (.invokevirtual 72, 3) := by decide +kernel
theorem dL_law_378 : decode cL_law 378 = .ok (.aload_n 2, 1) := by decide +kernel
theorem dL_law_379 : decode cL_law 379 = .ok (.invokevirtual 75, 3) := by decide +kernel
theorem dL_law_382 : decode cL_law 382 = .ok (.if_icmp .eq 5, 3) := by decide +kernel
theorem dL_law_385 : decode cL_law 385 = .ok (.iconst 0, 1) := by decide +kernel
theorem dL_law_386 : decode cL_law 386 = .ok (.ireturn, 1) := by decide +kernel
theorem dL_law_387 : decode cL_law 387 = .ok (.iinc 3 3, 3) := by decide +kernel
theorem dL_law_390 : decode cL_law 390 = .ok (.goto (-362), 3) := by decide +kernel
theorem dL_law_393 : decode cL_law 393 = .ok (.iconst 1, 1) := by decide +kernel
theorem dL_law_394 : decode cL_law 394 = .ok (.ireturn, 1) := by decide +kernel
abbrev vwCl : List vw_C := [(RX0, TX0, 11), (RX1, TX1, 14)]
end
section
/-! ===== Int32 by its bits: bt x i ===== -/
def bt (x : Int32) (i : Nat) : Bool := x.toBitVec.getLsbD i
theorem b_ext {x y : Int32} (h : ∀ i, i < 32 → bt x i = bt y i) : x = y := Int32.toBitVec_inj.mp (BitVec.eq_of_getLsbD_eq (fun i hi => h i hi))
theorem b_or (x y : Int32) (i : Nat) : bt (x ||| y) i = (bt x i || bt y i) := by unfold bt; rw [Int32.toBitVec_or, BitVec.getLsbD_or]
theorem b_and (x y : Int32) (i : Nat) : bt (x &&& y) i = (bt x i && bt y i) := by unfold bt; rw [Int32.toBitVec_and, BitVec.getLsbD_and]
theorem b_xor (x y : Int32) (i : Nat) : bt (x ^^^ y) i = (bt x i ^^ bt y i) := by unfold bt; rw [Int32.toBitVec_xor, BitVec.getLsbD_xor]
theorem b_big {x : Int32} {i : Nat} (h : 32 ≤ i) : bt x i = false := BitVec.getLsbD_of_ge _ _ h
theorem b_255 (i : Nat) : bt 255 i = decide (i < 8) := by
  rcases Nat.lt_or_ge i 32 with h | h
  · exact (by decide +kernel : ∀ i, i < 32 → bt 255 i = decide (i < 8)) i h
  · rw [b_big h, decide_eq_false (by omega)]
theorem b_65535 (i : Nat) : bt 65535 i = decide (i < 16) := by
  rcases Nat.lt_or_ge i 32 with h | h
  · exact (by decide +kernel : ∀ i, i < 32 → bt 65535 i = decide (i < 16)) i h
  · rw [b_big h, decide_eq_false (by omega)]
theorem b_m1 : ∀ i, i < 32 → bt (-1) i = true := by decide +kernel
theorem b_0 (i : Nat) : bt 0 i = false := BitVec.getLsbD_zero
theorem s_l : ∀ n, n < 32 → ((nI n &&& 31).toBitVec.smod 32).toNat = n := by decide +kernel
theorem s_u : ∀ n, n < 32 → (((nI n).toUInt32 &&& Int32.toUInt32 31).toBitVec % 32).toNat = n := by decide +kernel
theorem b_shl (n : Nat) (hn : n < 32) (x : Int32) {i : Nat} (hi : i < 32) : bt (x <<< (nI n &&& 31)) i = (decide (n ≤ i) && bt x (i - n)) := by
  unfold bt
  rw [Int32.toBitVec_shiftLeft]
  show (x.toBitVec <<< ((nI n &&& 31).toBitVec.smod 32).toNat).getLsbD i = _
  rw [s_l n hn, BitVec.getLsbD_shiftLeft]
  rcases Nat.lt_or_ge i n with h | h
  · simp [h, Nat.not_le.mpr h]
  · simp [hi, h, Nat.not_lt.mpr h]
theorem b_ushr (n : Nat) (hn : n < 32) (x : Int32) (i : Nat) : bt ((x.toUInt32 >>> ((nI n).toUInt32 &&& Int32.toUInt32 31)).toInt32) i = bt x (n + i) := by
  show (x.toUInt32 >>> ((nI n).toUInt32 &&& Int32.toUInt32 31)).toBitVec.getLsbD i = x.toUInt32.toBitVec.getLsbD (n + i)
  rw [UInt32.toBitVec_shiftRight]
  show (x.toUInt32.toBitVec >>> (((nI n).toUInt32 &&& Int32.toUInt32 31).toBitVec % 32).toNat).getLsbD i = _
  rw [s_u n hn, BitVec.getLsbD_ushiftRight]
theorem b_sshr (n : Nat) (hn : n < 32) (x : Int32) {i : Nat} (hi : i < 32) : bt (x >>> (nI n &&& 31)) i = if n + i < 32 then bt x (n + i) else bt x 31 := by
  unfold bt
  rw [Int32.toBitVec_shiftRight]
  show (x.toBitVec.sshiftRight ((nI n &&& 31).toBitVec.smod 32).toNat).getLsbD i = _
  rw [s_l n hn, BitVec.getLsbD_sshiftRight, BitVec.msb_eq_getLsbD_last]
  simp [hi]
theorem b_shl8 (x : Int32) {i : Nat} (hi : i < 32) : bt (x <<< ((8 : Int32) &&& 31)) i = (decide (8 ≤ i) && bt x (i - 8)) := b_shl 8 (by omega) x hi
theorem b_shl16 (x : Int32) {i : Nat} (hi : i < 32) : bt (x <<< ((16 : Int32) &&& 31)) i = (decide (16 ≤ i) && bt x (i - 16)) := b_shl 16 (by omega) x hi
theorem b_shl24 (x : Int32) {i : Nat} (hi : i < 32) : bt (x <<< ((24 : Int32) &&& 31)) i = (decide (24 ≤ i) && bt x (i - 24)) := b_shl 24 (by omega) x hi
theorem b_sshr8 (x : Int32) {i : Nat} (hi : i < 32) : bt (x >>> ((8 : Int32) &&& 31)) i = if 8 + i < 32 then bt x (8 + i) else bt x 31 := b_sshr 8 (by omega) x hi
/-! ===== counting of true places ===== -/
def cn (f : Nat → Bool) : Nat → Nat
  | 0 => 0
  | n + 1 => cn f n + (if f n then 1 else 0)
theorem cn_congr {f g : Nat → Bool} {n : Nat} (h : ∀ i, i < n → f i = g i) : cn f n = cn g n := by
  induction n with
  | zero => rfl
  | succ n ih =>
    show cn f n + _ = cn g n + _
    rw [ih (fun i hi => h i (by omega)), h n (by omega)]
theorem cn_le (f : Nat → Bool) (n : Nat) : cn f n ≤ n := by
  induction n with
  | zero => exact Nat.le_refl 0
  | succ n ih =>
    show cn f n + _ ≤ _
    split <;> omega
theorem cn_none {f : Nat → Bool} {n : Nat} (h : ∀ i, i < n → f i = false) : cn f n = 0 := by
  induction n with
  | zero => rfl
  | succ n ih =>
    show cn f n + _ = 0
    rw [ih (fun i hi => h i (by omega)), h n (by omega)]
    rfl
theorem cn_none' {f : Nat → Bool} {n : Nat} (h : cn f n = 0) : ∀ i, i < n → f i = false := by
  induction n with
  | zero => intro i hi; omega
  | succ n ih =>
    intro i hi
    have h1 : cn f n + (if f n then 1 else 0) = 0 := h
    rcases Nat.lt_or_ge i n with q | q
    · exact ih (by omega) i q
    · have : i = n := by omega
      subst this
      cases hf : f i with
      | false => rfl
      | true => rw [hf] at h1; simp at h1
theorem cn_up {f g : Nat → Bool} {n k : Nat} (hk : k < n) (h0 : f k = false) (h1 : g k = true) (h : ∀ i, i < n → i ≠ k → g i = f i) : cn g n = cn f n + 1 := by
  induction n with
  | zero => omega
  | succ n ih =>
    show cn g n + _ = cn f n + _ + 1
    rcases Nat.lt_or_ge k n with q | q
    · rw [ih q (fun i hi => h i (by omega)), h n (by omega) (by omega)]
      omega
    · have : k = n := by omega
      subst this
      rw [cn_congr (f := g) (g := f) (fun i hi => h i (by omega) (by omega)), h0, h1]
      simp
theorem cn_mono {f g : Nat → Bool} {n : Nat} (h : ∀ i, i < n → f i = true → g i = true) : cn f n ≤ cn g n := by
  induction n with
  | zero => exact Nat.le_refl 0
  | succ n ih =>
    have h1 := ih (fun i hi => h i (by omega))
    have h2 := h n (by omega)
    show cn f n + _ ≤ cn g n + _
    cases hf : f n with
    | false => simp; omega
    | true => rw [h2 hf]; simp; omega
theorem cn_cut {f : Nat → Bool} {n m : Nat} (hm : n ≤ m) (h : ∀ i, n ≤ i → i < m → f i = false) : cn f m = cn f n := by
  induction m with
  | zero => have : n = 0 := by omega
            subst this; rfl
  | succ m ih =>
    rcases Nat.lt_or_ge m n with q | q
    · have : n = m + 1 := by omega
      subst this; rfl
    · show cn f m + _ = _
      rw [ih q (fun i h1 h2 => h i h1 (by omega)), h m q (by omega)]
      rfl
theorem cn_all {f : Nat → Bool} {n : Nat} (h : ∀ i, i < n → f i = true) : cn f n = n := by
  induction n with
  | zero => rfl
  | succ n ih =>
    show cn f n + _ = n + 1
    rw [ih (fun i hi => h i (by omega)), h n (by omega)]
    rfl
theorem cn_one {f : Nat → Bool} {n : Nat} (h : cn f n = 1) : ∃ k, k < n ∧ f k = true ∧ ∀ i, i < n → i ≠ k → f i = false := by
  induction n with
  | zero => cases h
  | succ n ih =>
    have h1 : cn f n + (if f n then 1 else 0) = 1 := h
    cases hf : f n with
    | false =>
      rw [hf] at h1
      obtain ⟨k, a, b, c⟩ := ih (by simpa using h1)
      refine ⟨k, by omega, b, fun i hi hne => ?_⟩
      rcases Nat.lt_or_ge i n with q | q
      · exact c i q hne
      · have : i = n := by omega
        subst this; exact hf
    | true =>
      rw [hf] at h1
      have h2 : cn f n = 0 := by simpa using h1
      refine ⟨n, by omega, hf, fun i hi hne => cn_none' h2 i (by omega)⟩
/-! ===== how many bits ===== -/
def pc (x : Int32) : Nat := cn (bt x) 32
def tN (x : Int32) : Nat := x.toBitVec.toNat
theorem tN_lt (x : Int32) : tN x < 4294967296 := x.toBitVec.isLt
theorem tN_inj {x y : Int32} (h : tN x = tN y) : x = y := Int32.toBitVec_inj.mp (BitVec.eq_of_toNat_eq h)
theorem tN_nI {n : Nat} (h : n < 4294967296) : tN (nI n) = n := pk_tn h
theorem nI_tN (x : Int32) : nI (tN x) = x := tN_inj (tN_nI (tN_lt x))
theorem tN_and (x y : Int32) : tN (x &&& y) = tN x &&& tN y := by
  unfold tN
  rw [Int32.toBitVec_and, BitVec.toNat_and]
theorem tN_add (x y : Int32) : tN (x + y) = (tN x + tN y) % 4294967296 := by
  unfold tN
  rw [Int32.toBitVec_add, BitVec.toNat_add]
theorem tN_mul (x y : Int32) : tN (x * y) = (tN x * tN y) % 4294967296 := by
  unfold tN
  rw [Int32.toBitVec_mul, BitVec.toNat_mul]
theorem tN_sub {x y : Int32} (h : tN y ≤ tN x) : tN (x - y) = tN x - tN y := by
  have h1 := tN_lt x
  unfold tN at *
  rw [Int32.toBitVec_sub, BitVec.toNat_sub]
  omega
theorem bt_nat (x : Int32) (i : Nat) : (if bt x i then 1 else 0) = tN x / 2 ^ i % 2 := by
  unfold bt tN
  rw [BitVec.getLsbD, Nat.testBit_eq_decide_div_mod_eq]
  have h : x.toBitVec.toNat / 2 ^ i % 2 < 2 := Nat.mod_lt _ (by omega)
  by_cases q : x.toBitVec.toNat / 2 ^ i % 2 = 1
  · simp [q]
  · simp [q]; omega
theorem and1 {a0 m0 : Nat} (A M : Nat) (ha : a0 < 256) (hm : m0 < 256) : (256 * A + a0) &&& (256 * M + m0) = 256 * (A &&& M) + (a0 &&& m0) := by
  have h1 : a0 &&& m0 < 2 ^ 8 := Nat.and_lt_two_pow _ hm
  apply Nat.eq_of_testBit_eq
  intro i
  rw [Nat.testBit_and, show (256 : Nat) = 2 ^ 8 from rfl, Nat.testBit_two_pow_mul_add _ ha, Nat.testBit_two_pow_mul_add _ hm, Nat.testBit_two_pow_mul_add _ h1]
  split
  · rw [Nat.testBit_and]
  · rw [Nat.testBit_and]
theorem and4 {a0 a1 a2 a3 m0 m1 m2 m3 : Nat} (h0 : a0 < 256) (h1 : a1 < 256) (h2 : a2 < 256) (k0 : m0 < 256) (k1 : m1 < 256) (k2 : m2 < 256) :
    (256 * (256 * (256 * a3 + a2) + a1) + a0) &&& (256 * (256 * (256 * m3 + m2) + m1) + m0) = 256 * (256 * (256 * (a3 &&& m3) + (a2 &&& m2)) + (a1 &&& m1)) + (a0 &&& m0) := by
  rw [and1 _ _ h0 k0, and1 _ _ h1 k1, and1 _ _ h2 k2]
def sw_p (b : Nat) : Nat := b % 2 + b / 2 % 2 + b / 4 % 2 + b / 8 % 2 + b / 16 % 2 + b / 32 % 2 + b / 64 % 2 + b / 128 % 2
def sw_1 (b : Nat) : Nat := b - ((b / 2) &&& 85)
def sw_2 (y : Nat) : Nat := (y &&& 51) + ((y / 4) &&& 51)
set_option maxRecDepth 100000 in
theorem sw_k1 : ∀ b, b < 256 → ∀ c, c < 2 → (b / 2 + 128 * c) &&& 85 = (b / 2) &&& 85 := by decide +kernel
set_option maxRecDepth 100000 in
theorem sw_k1' : ∀ b, b < 256 → (b / 2) &&& 85 ≤ b := by decide +kernel
set_option maxRecDepth 100000 in
theorem sw_k2 : ∀ b, b < 256 → ∀ c, c < 4 → (b / 4 + 64 * c) &&& 51 = (b / 4) &&& 51 := by decide +kernel
set_option maxRecDepth 100000 in
theorem sw_k2' : ∀ b, b < 256 → sw_2 (sw_1 b) % 16 ≤ 4 ∧ sw_2 (sw_1 b) / 16 ≤ 4 := by decide +kernel
set_option maxRecDepth 100000 in
theorem sw_k3 : ∀ b, b < 256 → ∀ c, c < 5 → (sw_2 (sw_1 b) + sw_2 (sw_1 b) / 16 + 16 * c) &&& 15 = sw_p b := by decide +kernel
theorem sw_p8 (b : Nat) : sw_p b ≤ 8 := by
  unfold sw_p
  omega
/-- one bit -/
def tw (i : Nat) : Int32 := (1 : Int32) <<< (nI i &&& 31)
theorem b_1 (i : Nat) : bt 1 i = decide (i = 0) := by
  rcases Nat.lt_or_ge i 32 with h | h
  · exact (by decide +kernel : ∀ i, i < 32 → bt 1 i = decide (i = 0)) i h
  · rw [b_big h, decide_eq_false (by omega)]
theorem bt_tw {k : Nat} (hk : k < 32) (i : Nat) : bt (tw k) i = decide (i = k) := by
  rcases Nat.lt_or_ge i 32 with h | h
  · unfold tw
    rw [b_shl k hk _ h, b_1]
    by_cases q : i = k
    · subst q; simp
    · rcases Nat.lt_or_ge i k with a | a
      · simp [q, Nat.not_le.mpr a]
      · simp [q, a]; omega
  · rw [b_big h, decide_eq_false (by omega)]
theorem bt_or_tw {k : Nat} (hk : k < 32) (b : Int32) (i : Nat) : bt (b ||| tw k) i = (bt b i || decide (i = k)) := by rw [b_or, bt_tw hk]
theorem pc_or_tw {k : Nat} (hk : k < 32) (b : Int32) : pc (b ||| tw k) = pc b + (if bt b k then 0 else 1) := by
  unfold pc
  cases hb : bt b k with
  | true =>
    have h : cn (bt (b ||| tw k)) 32 = cn (bt b) 32 := cn_congr (fun i _ => by
      rw [bt_or_tw hk]
      by_cases q : i = k
      · subst q; rw [hb]; rfl
      · simp [q])
    rw [h, if_pos rfl, Nat.add_zero]
  | false =>
    have h : cn (bt (b ||| tw k)) 32 = cn (bt b) 32 + 1 := cn_up (f := bt b) (g := bt (b ||| tw k)) hk hb (by rw [bt_or_tw hk]; simp) (fun i _ hne => by
      rw [bt_or_tw hk]; simp [hne])
    rw [h, if_neg Bool.false_ne_true]
theorem pc_0 : pc 0 = 0 := cn_none (fun i _ => b_0 i)
theorem pc_le (x : Int32) : pc x ≤ 32 := cn_le _ _
/-- the bit test of the class: (bits >>> i & 1) != 0 -/
theorem hb_bit (x : Int32) {i : Nat} (hi : i < 32) : ((x.toUInt32 >>> ((nI i).toUInt32 &&& Int32.toUInt32 31)).toInt32 &&& 1) = 0 ↔ bt x i = false := by
  constructor
  · intro h
    have h1 : bt ((x.toUInt32 >>> ((nI i).toUInt32 &&& Int32.toUInt32 31)).toInt32 &&& 1) 0 = false := by rw [h]; exact b_0 0
    rw [b_and, b_ushr i hi, b_1] at h1
    simpa using h1
  · intro h
    refine b_ext (fun j hj => ?_)
    rw [b_and, b_ushr i hi, b_1, b_0]
    by_cases q : j = 0
    · subst q; simp [h]
    · simp [q]
theorem b_not (x : Int32) {i : Nat} (hi : i < 32) : bt (x ^^^ (-1)) i = !bt x i := by rw [b_xor, b_m1 i hi]; simp
end
section
theorem sw_sum (a0 a1 a2 a3 a4 a5 a6 a7 b0 b1 b2 b3 b4 b5 b6 b7 c0 c1 c2 c3 c4 c5 c6 c7 d0 d1 d2 d3 d4 d5 d6 d7 : Nat) : 0 + a0 + a1 + a2 + a3 + a4 + a5 + a6 + a7 + b0 + b1 + b2 + b3 + b4 + b5 + b6 + b7 + c0 + c1 + c2 + c3 + c4 + c5 + c6 + c7 + d0 + d1 + d2 + d3 + d4 + d5 + d6 + d7 = (d0 + d1 + d2 + d3 + d4 + d5 + d6 + d7) + (c0 + c1 + c2 + c3 + c4 + c5 + c6 + c7) + (b0 + b1 + b2 + b3 + b4 + b5 + b6 + b7) + (a0 + a1 + a2 + a3 + a4 + a5 + a6 + a7) := by omega
theorem sw_or {a b c d e f g h : Nat} (h1 : a = b) (h2 : c = d) (h3 : e = f) (h4 : g = h) : 256 * (256 * (256 * a + c) + e) + g = 256 * (256 * (256 * b + d) + f) + h := by rw [h1, h2, h3, h4]
theorem sw_u (x : Int32) (k : Nat) (hk : k < 32) : tN (x.toUInt32 >>> ((nI k).toUInt32 &&& Int32.toUInt32 31)).toInt32 = tN x / 2 ^ k := pk_ushr x (nI k) k (s_u k hk)
theorem sw_lt1 : ∀ b, b < 256 → sw_1 b < 256 := fun b h => by unfold sw_1; omega
set_option maxRecDepth 100000 in
theorem sw_lt2 : ∀ b, b < 256 → sw_2 (sw_1 b) ≤ 68 := fun b h => by have := sw_k2' b h; omega
set_option maxHeartbeats 4000000 in
theorem sw_pc {x : Int32} {b0 b1 b2 b3 : Nat} (hb0 : b0 = tN x % 256) (hb1 : b1 = tN x / 256 % 256) (hb2 : b2 = tN x / 65536 % 256) (hb3 : b3 = tN x / 16777216 % 256) : pc x = sw_p b3 + sw_p b2 + sw_p b1 + sw_p b0 := by
  have c0 : ∀ i, i < 8 → tN x / 2 ^ i % 2 = b0 / 2 ^ i % 2 := by
    intro i hi
    rcases (show i = 0 ∨ i = 1 ∨ i = 2 ∨ i = 3 ∨ i = 4 ∨ i = 5 ∨ i = 6 ∨ i = 7 by omega) with rfl | rfl | rfl | rfl | rfl | rfl | rfl | rfl <;> omega
  have c1 : ∀ i, i < 8 → tN x / 2 ^ (8 + i) % 2 = b1 / 2 ^ i % 2 := by
    intro i hi
    rcases (show i = 0 ∨ i = 1 ∨ i = 2 ∨ i = 3 ∨ i = 4 ∨ i = 5 ∨ i = 6 ∨ i = 7 by omega) with rfl | rfl | rfl | rfl | rfl | rfl | rfl | rfl <;> omega
  have c2 : ∀ i, i < 8 → tN x / 2 ^ (16 + i) % 2 = b2 / 2 ^ i % 2 := by
    intro i hi
    rcases (show i = 0 ∨ i = 1 ∨ i = 2 ∨ i = 3 ∨ i = 4 ∨ i = 5 ∨ i = 6 ∨ i = 7 by omega) with rfl | rfl | rfl | rfl | rfl | rfl | rfl | rfl <;> omega
  have c3 : ∀ i, i < 8 → tN x / 2 ^ (24 + i) % 2 = b3 / 2 ^ i % 2 := by
    intro i hi
    rcases (show i = 0 ∨ i = 1 ∨ i = 2 ∨ i = 3 ∨ i = 4 ∨ i = 5 ∨ i = 6 ∨ i = 7 by omega) with rfl | rfl | rfl | rfl | rfl | rfl | rfl | rfl <;> omega
  have k0 : ∀ b, sw_p b = b / 2 ^ 0 % 2 + b / 2 ^ 1 % 2 + b / 2 ^ 2 % 2 + b / 2 ^ 3 % 2 + b / 2 ^ 4 % 2 + b / 2 ^ 5 % 2 + b / 2 ^ 6 % 2 + b / 2 ^ 7 % 2 := fun b => by unfold sw_p; omega
  have hc : pc x = 0 + tN x / 2 ^ 0 % 2 + tN x / 2 ^ 1 % 2 + tN x / 2 ^ 2 % 2 + tN x / 2 ^ 3 % 2 + tN x / 2 ^ 4 % 2 + tN x / 2 ^ 5 % 2 + tN x / 2 ^ 6 % 2 + tN x / 2 ^ 7 % 2
      + tN x / 2 ^ (8 + 0) % 2 + tN x / 2 ^ (8 + 1) % 2 + tN x / 2 ^ (8 + 2) % 2 + tN x / 2 ^ (8 + 3) % 2 + tN x / 2 ^ (8 + 4) % 2 + tN x / 2 ^ (8 + 5) % 2 + tN x / 2 ^ (8 + 6) % 2 + tN x / 2 ^ (8 + 7) % 2
      + tN x / 2 ^ (16 + 0) % 2 + tN x / 2 ^ (16 + 1) % 2 + tN x / 2 ^ (16 + 2) % 2 + tN x / 2 ^ (16 + 3) % 2 + tN x / 2 ^ (16 + 4) % 2 + tN x / 2 ^ (16 + 5) % 2 + tN x / 2 ^ (16 + 6) % 2 + tN x / 2 ^ (16 + 7) % 2
      + tN x / 2 ^ (24 + 0) % 2 + tN x / 2 ^ (24 + 1) % 2 + tN x / 2 ^ (24 + 2) % 2 + tN x / 2 ^ (24 + 3) % 2 + tN x / 2 ^ (24 + 4) % 2 + tN x / 2 ^ (24 + 5) % 2 + tN x / 2 ^ (24 + 6) % 2 + tN x / 2 ^ (24 + 7) % 2 := by
    rw [← bt_nat x 0, ← bt_nat x 1, ← bt_nat x 2, ← bt_nat x 3, ← bt_nat x 4, ← bt_nat x 5, ← bt_nat x 6, ← bt_nat x 7, ← bt_nat x (8 + 0), ← bt_nat x (8 + 1), ← bt_nat x (8 + 2), ← bt_nat x (8 + 3), ← bt_nat x (8 + 4), ← bt_nat x (8 + 5), ← bt_nat x (8 + 6), ← bt_nat x (8 + 7), ← bt_nat x (16 + 0), ← bt_nat x (16 + 1), ← bt_nat x (16 + 2), ← bt_nat x (16 + 3), ← bt_nat x (16 + 4), ← bt_nat x (16 + 5), ← bt_nat x (16 + 6), ← bt_nat x (16 + 7), ← bt_nat x (24 + 0), ← bt_nat x (24 + 1), ← bt_nat x (24 + 2), ← bt_nat x (24 + 3), ← bt_nat x (24 + 4), ← bt_nat x (24 + 5), ← bt_nat x (24 + 6), ← bt_nat x (24 + 7)]
    unfold pc
    simp only [cn]
  rw [hc, c0 0 (by omega), c0 1 (by omega), c0 2 (by omega), c0 3 (by omega), c0 4 (by omega), c0 5 (by omega), c0 6 (by omega), c0 7 (by omega), c1 0 (by omega), c1 1 (by omega), c1 2 (by omega), c1 3 (by omega), c1 4 (by omega), c1 5 (by omega), c1 6 (by omega), c1 7 (by omega), c2 0 (by omega), c2 1 (by omega), c2 2 (by omega), c2 3 (by omega), c2 4 (by omega), c2 5 (by omega), c2 6 (by omega), c2 7 (by omega), c3 0 (by omega), c3 1 (by omega), c3 2 (by omega), c3 3 (by omega), c3 4 (by omega), c3 5 (by omega), c3 6 (by omega), c3 7 (by omega), k0 b0, k0 b1, k0 b2, k0 b3]
  exact sw_sum _ _ _ _ _ _ _ _ _ _ _ _ _ _ _ _ _ _ _ _ _ _ _ _ _ _ _ _ _ _ _ _
end
section
theorem sw_f1 {w0 w1 w2 w3 : Nat} (p0 : w0 ≤ 8) (p1 : w1 ≤ 8) (p2 : w2 ≤ 8) (p3 : w3 ≤ 8) : (256 * (256 * (256 * w3 + (w2 + w3)) + (w1 + w2)) + (w0 + w1)) / 2 ^ 16 = 256 * w3 + (w2 + w3) := by omega
theorem sw_f2 {w0 w1 w2 w3 : Nat} (p0 : w0 ≤ 8) (p1 : w1 ≤ 8) (p2 : w2 ≤ 8) (p3 : w3 ≤ 8) : (256 * (256 * (256 * w3 + (w2 + w3)) + (w1 + w2)) + (w0 + w1) + (256 * w3 + (w2 + w3))) % 4294967296 % 64 = w3 + w2 + w1 + w0 := by
  have hs : 256 * (256 * (256 * w3 + (w2 + w3)) + (w1 + w2)) + (w0 + w1) + (256 * w3 + (w2 + w3)) = 64 * (4 * (256 * (256 * w3 + (w2 + w3)) + (w1 + w2)) + 4 * w3) + (w3 + w2 + w1 + w0) := by omega
  rw [hs, Nat.mod_eq_of_lt (by omega : _ < 4294967296)]
  omega
set_option maxHeartbeats 4000000 in
theorem swar {x x1 x2 x3 x4 x5 : Int32} (e1 : x1 = x - ((x.toUInt32 >>> ((nI 1).toUInt32 &&& Int32.toUInt32 31)).toInt32 &&& 1431655765))
    (e2 : x2 = (x1 &&& 858993459) + ((x1.toUInt32 >>> ((nI 2).toUInt32 &&& Int32.toUInt32 31)).toInt32 &&& 858993459))
    (e3 : x3 = (x2 + (x2.toUInt32 >>> ((nI 4).toUInt32 &&& Int32.toUInt32 31)).toInt32) &&& 252645135)
    (e4 : x4 = x3 + (x3.toUInt32 >>> ((nI 8).toUInt32 &&& Int32.toUInt32 31)).toInt32)
    (e5 : x5 = x4 + (x4.toUInt32 >>> ((nI 16).toUInt32 &&& Int32.toUInt32 31)).toInt32) : x5 &&& 63 = nI (pc x) := by
  have hX := tN_lt x
  obtain ⟨b0, hb0⟩ : ∃ b, b = tN x % 256 := ⟨_, rfl⟩
  obtain ⟨b1, hb1⟩ : ∃ b, b = tN x / 256 % 256 := ⟨_, rfl⟩
  obtain ⟨b2, hb2⟩ : ∃ b, b = tN x / 65536 % 256 := ⟨_, rfl⟩
  obtain ⟨b3, hb3⟩ : ∃ b, b = tN x / 16777216 := ⟨_, rfl⟩
  have l0 : b0 < 256 := by omega
  have l1 : b1 < 256 := by omega
  have l2 : b2 < 256 := by omega
  have l3 : b3 < 256 := by omega
  have hx : tN x = 256 * (256 * (256 * b3 + b2) + b1) + b0 := by omega
  -- step 1
  have s1 : tN ((x.toUInt32 >>> ((nI 1).toUInt32 &&& Int32.toUInt32 31)).toInt32 &&& 1431655765) = 256 * (256 * (256 * (b3 / 2 &&& 85) + (b2 / 2 &&& 85)) + (b1 / 2 &&& 85)) + (b0 / 2 &&& 85) := by
    rw [tN_and, sw_u x 1 (by omega), show tN (1431655765 : Int32) = 256 * (256 * (256 * 85 + 85) + 85) + 85 from by decide +kernel,
      show tN x / 2 ^ 1 = 256 * (256 * (256 * (b3 / 2) + (b2 / 2 + 128 * (b3 % 2))) + (b1 / 2 + 128 * (b2 % 2))) + (b0 / 2 + 128 * (b1 % 2)) from by omega,
      and4 (by omega) (by omega) (by omega) (by omega) (by omega) (by omega)]
    exact sw_or rfl (sw_k1 b2 l2 _ (by omega)) (sw_k1 b1 l1 _ (by omega)) (sw_k1 b0 l0 _ (by omega))
  have q0 := sw_k1' b0 l0
  have q1 := sw_k1' b1 l1
  have q2 := sw_k1' b2 l2
  have q3 := sw_k1' b3 l3
  have hx1 : tN x1 = 256 * (256 * (256 * sw_1 b3 + sw_1 b2) + sw_1 b1) + sw_1 b0 := by
    rw [e1, tN_sub (by rw [s1, hx]; omega), s1, hx]
    unfold sw_1
    omega
  have m0 := sw_lt1 b0 l0
  have m1 := sw_lt1 b1 l1
  have m2 := sw_lt1 b2 l2
  have m3 := sw_lt1 b3 l3
  -- step 2
  have s2 : tN (x1 &&& 858993459) = 256 * (256 * (256 * (sw_1 b3 &&& 51) + (sw_1 b2 &&& 51)) + (sw_1 b1 &&& 51)) + (sw_1 b0 &&& 51) := by
    rw [tN_and, show tN (858993459 : Int32) = 256 * (256 * (256 * 51 + 51) + 51) + 51 from by decide +kernel, hx1, and4 m0 m1 m2 (by omega) (by omega) (by omega)]
  have s2' : tN ((x1.toUInt32 >>> ((nI 2).toUInt32 &&& Int32.toUInt32 31)).toInt32 &&& 858993459) = 256 * (256 * (256 * (sw_1 b3 / 4 &&& 51) + (sw_1 b2 / 4 &&& 51)) + (sw_1 b1 / 4 &&& 51)) + (sw_1 b0 / 4 &&& 51) := by
    rw [tN_and, sw_u x1 2 (by omega), show tN (858993459 : Int32) = 256 * (256 * (256 * 51 + 51) + 51) + 51 from by decide +kernel,
      show tN x1 / 2 ^ 2 = 256 * (256 * (256 * (sw_1 b3 / 4) + (sw_1 b2 / 4 + 64 * (sw_1 b3 % 4))) + (sw_1 b1 / 4 + 64 * (sw_1 b2 % 4))) + (sw_1 b0 / 4 + 64 * (sw_1 b1 % 4)) from by omega,
      and4 (by omega) (by omega) (by omega) (by omega) (by omega) (by omega)]
    exact sw_or rfl (sw_k2 _ m2 _ (by omega)) (sw_k2 _ m1 _ (by omega)) (sw_k2 _ m0 _ (by omega))
  have n0 := sw_lt2 b0 l0
  have n1 := sw_lt2 b1 l1
  have n2 := sw_lt2 b2 l2
  have n3 := sw_lt2 b3 l3
  have hx2 : tN x2 = 256 * (256 * (256 * sw_2 (sw_1 b3) + sw_2 (sw_1 b2)) + sw_2 (sw_1 b1)) + sw_2 (sw_1 b0) := by
    have g : ∀ y, sw_2 y = (y &&& 51) + (y / 4 &&& 51) := fun _ => rfl
    have g0 := g (sw_1 b0)
    have g1 := g (sw_1 b1)
    have g2 := g (sw_1 b2)
    have g3 := g (sw_1 b3)
    rw [e2, tN_add, s2, s2']
    omega
  have v0 := sw_k2' b0 l0
  have v1 := sw_k2' b1 l1
  have v2 := sw_k2' b2 l2
  have v3 := sw_k2' b3 l3
  have t0 := sw_k3 b0 l0
  have t1 := sw_k3 b1 l1
  have t2 := sw_k3 b2 l2
  have t3 := sw_k3 b3 l3
  revert hx2 n0 n1 n2 n3 v0 v1 v2 v3 t0 t1 t2 t3
  generalize sw_2 (sw_1 b0) = z0
  generalize sw_2 (sw_1 b1) = z1
  generalize sw_2 (sw_1 b2) = z2
  generalize sw_2 (sw_1 b3) = z3
  intro n0 n1 n2 n3 hx2 v0 v1 v2 v3 t0 t1 t2 t3
  -- step 3
  have hx3 : tN x3 = 256 * (256 * (256 * sw_p b3 + sw_p b2) + sw_p b1) + sw_p b0 := by
    have s3 : tN (x2 + (x2.toUInt32 >>> ((nI 4).toUInt32 &&& Int32.toUInt32 31)).toInt32) = 256 * (256 * (256 * (z3 + z3 / 16 + 16 * 0) + (z2 + z2 / 16 + 16 * (z3 % 16))) + (z1 + z1 / 16 + 16 * (z2 % 16))) + (z0 + z0 / 16 + 16 * (z1 % 16)) := by
      rw [tN_add, sw_u x2 4 (by omega), hx2]
      omega
    rw [e3, tN_and, s3, show tN (252645135 : Int32) = 256 * (256 * (256 * 15 + 15) + 15) + 15 from by decide +kernel, and4 (by omega) (by omega) (by omega) (by omega) (by omega) (by omega)]
    exact sw_or (t3 _ (by omega)) (t2 _ (by omega)) (t1 _ (by omega)) (t0 _ (by omega))
  have p0 := sw_p8 b0
  have p1 := sw_p8 b1
  have p2 := sw_p8 b2
  have p3 := sw_p8 b3
  have hpc : pc x = sw_p b3 + sw_p b2 + sw_p b1 + sw_p b0 := sw_pc hb0 hb1 hb2 (by omega)
  rw [hpc]
  generalize sw_p b0 = w0 at *
  generalize sw_p b1 = w1 at *
  generalize sw_p b2 = w2 at *
  generalize sw_p b3 = w3 at *
  have hx4 : tN x4 = 256 * (256 * (256 * w3 + (w2 + w3)) + (w1 + w2)) + (w0 + w1) := by
    rw [e4, tN_add, sw_u x3 8 (by omega), hx3]
    omega
  have hx5 : tN x5 % 64 = w3 + w2 + w1 + w0 := by
    have hd : tN x4 / 2 ^ 16 = 256 * w3 + (w2 + w3) := by rw [hx4]; exact sw_f1 p0 p1 p2 p3
    rw [e5, tN_add, sw_u x4 16 (by omega), hd, hx4]
    exact sw_f2 p0 p1 p2 p3
  apply tN_inj
  rw [tN_and, show tN (63 : Int32) = 2 ^ 6 - 1 from by decide +kernel, Nat.and_two_pow_sub_one_eq_mod, tN_nI (by omega)]
  exact hx5
end
section
/-! ===== the worlds of the two objects, and the shapes of contracts ===== -/
/-- the class's object and its six arrays -/
abbrev xW (ad : Nat → Nat) (cI : ClassId) (K : Nat) (row S V : Nat → Int32) (dc : Int32) (kw ko : Nat → Int32) (kb : Int32) (qu : Nat → Int32) (qe cl : Int32) : va_W :=
  [(ad 0, .inr (0, [.int (nI K), .ref (ad 1), .ref (ad 2), .ref (ad 3), .int dc, .ref (ad 4), .ref (ad 5), .int kb, .ref (ad 6), .int qe, .int cl])),
   (ad 1, .inl (cI, K, .inl row)), (ad 2, .inl (cI, 60, .inl S)), (ad 3, .inl (cI, 60, .inl V)), (ad 4, .inl (cI, K, .inl kw)), (ad 5, .inl (cI, K, .inl ko)), (ad 6, .inl (cI, 60, .inl qu))]
/-- the reference's object and its eight arrays -/
abbrev rW (ad : Nat → Nat) (cI cZ : ClassId) (K : Nat) (row : Nat → Int32) (cm : Int32) (sd vl wt : Nat → Int32) (tn : Int32) (kn tl od : Nat → Int32) (fd cl : Int32) (inn : Nat → Int32) (stt : Int32) : va_W :=
  [(ad 0, .inr (1, [.int (nI K), .ref (ad 1), .int cm, .ref (ad 2), .ref (ad 3), .ref (ad 4), .int tn, .ref (ad 5), .ref (ad 6), .ref (ad 7), .int fd, .int cl, .ref (ad 8), .int stt])),
   (ad 1, .inl (cI, 32, .inl row)), (ad 2, .inl (cI, 60, .inl sd)), (ad 3, .inl (cI, 60, .inl vl)), (ad 4, .inl (cI, 60, .inl wt)), (ad 5, .inl (cZ, 32, .inl kn)), (ad 6, .inl (cI, 32, .inl tl)), (ad 7, .inl (cI, 32, .inl od)), (ad 8, .inl (cZ, 32, .inl inn))]
/-- what a method that only reads asks of the heap -/
abbrev rB (dC : Nat → ClassId) (dI : Nat → Nat → Nat) (tys : List (ClassId × FieldType)) (ws : va_W) (U : State) : Prop := va_P (dC, dI) vwCl ws U.heap ∧ va_K (dC, dI) vwCl tys U
/-- what a method that writes asks of the heap -/
abbrev wB (dC : Nat → ClassId) (dI : Nat → Nat → Nat) (tys : List (ClassId × FieldType)) (sz : Nat) (ws : va_W) (U : State) : Prop := U.heap.size = sz ∧ va_P (dC, dI) vwCl ws U.heap ∧ va_K (dC, dI) vwCl tys U ∧ va_D (fun _ => True) ws
/-- what a method that writes leaves -/
abbrev oB (dC : Nat → ClassId) (dI : Nat → Nat → Nat) (tys : List (ClassId × FieldType)) (A : Nat → Prop) (ws : va_W) (t : State) : Prop := va_P (dC, dI) vwCl ws t.heap ∧ va_K (dC, dI) vwCl tys t ∧ va_D A ws
theorem pFb {av : List Value} : FrameBlind (va_Pc av (fun _ => True)) := fun _ _ _ _ q => q
theorem rFb {av : List Value} {dC : Nat → ClassId} {dI : Nat → Nat → Nat} {tys : List (ClassId × FieldType)} {ws : va_W} : FrameBlind (va_Pc av (rB dC dI tys ws)) :=
  fun a U g mk q => ⟨q.1, q.2.1, va_K.moved (u := U) (U := U.calling g mk a) (Vm.Alike.refl U.vm) q.2.2⟩
theorem wFb {av : List Value} {dC : Nat → ClassId} {dI : Nat → Nat → Nat} {tys : List (ClassId × FieldType)} {sz : Nat} {ws : va_W} : FrameBlind (va_Pc av (wB dC dI tys sz ws)) :=
  fun a U g mk q => ⟨q.1, q.2.1, q.2.2.1, va_K.moved (u := U) (U := U.calling g mk a) (Vm.Alike.refl U.vm) q.2.2.2.1, q.2.2.2.2⟩
/-- a contract out of a walk, for a method that isn't a native's name (Math) -/
theorem ofWF {l : Launch} {y : MethodName} {ws ws' : List Cond} {rm : Room} {Pc : Array Value → State → Prop} {Qc : Array Value → State → Outcome → State → Prop} {mc ms : Nat} {free : Addr → Prop} {cc : ByteArray} {maxL : Nat} {ret : Option FieldType}
    (hy : plainFor y = true) (hw : ws = Cond.code y cc maxL ret :: ws')
    (body : ∀ p e s m args below meth c s₁, BodyLoose p l y (headSpec ws rm) cc maxL ret e s m args below meth c s₁ → c.maxLocals = maxL → Pc args s →
      W p l e (headSpec ws rm).room s m args below meth c s.heap [] 0 0 (MQ below Qc args s mc ms free) (entryFrame m args maxL)) : Met l y ws rm Pc Qc mc ms free := by
  refine MetFree.of_bodySF (code := cc) (maxLocals := maxL) (ret := ret) hy ?_ ?_
  · intro args s m h hn
    obtain ⟨meth, c, h1, h2, h3, h4, h5, h6, -, -⟩ := Cond.code_spec hn (atoms_spec (ws := ws) h _ (by rw [hw]; exact List.mem_cons_self))
    exact ⟨meth, c, h1, h2, h3, h4, h5, h6⟩
  · intro p e s m args below meth c s₁ B hml hP _
    have hh0 : s₁.heap = s.heap := by rw [B.state]; rfl
    obtain ⟨t, a1, o, b1, b2, b3⟩ := body p e s m args below meth c s₁ B hml hP s₁ hh0 (Stand.of_body B)
    exact ⟨t, o, a1, b1, b2, ⟨b3.1, b3.2⟩⟩
end
section
theorem fm_bit (q : Int32) : q < 0 ↔ bt q 31 = true := by
  unfold bt
  rw [Int32.lt_iff_toBitVec_slt]
  show BitVec.slt q.toBitVec 0#32 = true ↔ _
  rw [BitVec.slt_zero_eq_msb, BitVec.msb_eq_getLsbD_last]
theorem fm_x (q : Int32) : q ^^^ 32 < 0 ↔ q < 0 := by
  rw [fm_bit, fm_bit, b_xor]
  have h : bt 32 31 = false := by decide +kernel
  rw [h]; simp
theorem fm_ge {q : Int32} (h : q < 0) (c : 0 ≤ q ^^^ 32) : False := Int32.not_lt.mpr c ((fm_x q).mpr h)
theorem fm_lt {q : Int32} (c : ¬ 0 ≤ q ^^^ 32) : q < 0 := (fm_x q).mp (Int32.not_le.mp c)
theorem fm_tm (q : Int32) : (q - q / 32 * 32).toInt = q.toInt.tmod 32 := by
  have h1 : (32 : Int32).toInt = 32 := by decide
  have h2 := Int32.toInt_lt q
  have h3 := Int32.le_toInt q
  have h4 := Int.tdiv_mul_add_tmod q.toInt 32
  have h5 : -32 < q.toInt.tmod 32 ∧ q.toInt.tmod 32 < 32 := by
    constructor
    · have := Int.lt_tmod_of_pos q.toInt (b := 32) (by decide); omega
    · exact Int.tmod_lt_of_pos _ (by decide)
  rw [Int32.toInt_sub, Int32.toInt_mul, Int32.toInt_div, h1]
  have h6 : (q.toInt.tdiv 32).bmod (2 ^ 32) = q.toInt.tdiv 32 := by
    apply Int.bmod_eq_of_le <;> omega
  rw [h6, Int.sub_bmod_bmod]
  have h8 : (q.toInt - q.toInt.tdiv 32 * 32) = q.toInt.tmod 32 := by omega
  rw [h8]
  apply Int.bmod_eq_of_le <;> omega
theorem fm_p {q : Int32} (h : ¬ q < 0) : ¬ q - q / 32 * 32 < 0 := by
  rw [Int32.lt_iff_toInt_lt] at h ⊢
  rw [fm_tm]
  have h0 : (0 : Int32).toInt = 0 := by decide
  rw [h0] at h ⊢
  have := Int.tmod_nonneg (a := q.toInt) 32 (by omega)
  omega
theorem fm_n {q : Int32} (h : q < 0) (hne : ¬ q - q / 32 * 32 = 0) : q - q / 32 * 32 < 0 := by
  have h0 : (0 : Int32).toInt = 0 := by decide
  have h1 : ¬ (q - q / 32 * 32).toInt = 0 := fun e => hne (Int32.toInt_inj.mp (by rw [e, h0]))
  rw [Int32.lt_iff_toInt_lt] at h ⊢
  rw [fm_tm] at h1 ⊢
  rw [h0] at h ⊢
  have h2 : (-q.toInt).tmod 32 = - q.toInt.tmod 32 := Int.neg_tmod ..
  have h3 := Int.tmod_nonneg (a := -q.toInt) 32 (by omega)
  omega
def ntE (x n : Int32) : Int32 := n + (x.toUInt32 >>> ((1 : Int32).toUInt32 &&& Int32.toUInt32 31)).toInt32
def ntD (x n : Int32) : Int32 := if x ≤ 4 then ntE x n else ntE ((x.toUInt32 >>> ((2 : Int32).toUInt32 &&& Int32.toUInt32 31)).toInt32) (n + 2)
def ntC (x n : Int32) : Int32 := if x ≤ 16 then ntD x n else ntD ((x.toUInt32 >>> ((4 : Int32).toUInt32 &&& Int32.toUInt32 31)).toInt32) (n + 4)
def ntB (x n : Int32) : Int32 := if x ≤ 256 then ntC x n else ntC ((x.toUInt32 >>> ((8 : Int32).toUInt32 &&& Int32.toUInt32 31)).toInt32) (n + 8)
def ntA (x n : Int32) : Int32 := if x ≤ 65536 then ntB x n else ntB ((x.toUInt32 >>> ((16 : Int32).toUInt32 &&& Int32.toUInt32 31)).toInt32) (n + 16)
theorem nt_a : ∀ i, i < 32 → (tw i ^^^ (-1)) &&& (tw i - 1) = nI (2 ^ i - 1) := by decide +kernel
theorem nt_b : ∀ i, i < 32 → ¬ i = 0 → ntA (nI (2 ^ i - 1)) 1 = nI i := by decide +kernel
theorem nt_c : ∀ i, i < 32 → ¬ i = 0 → 0 < nI (2 ^ i - 1) := by decide +kernel
set_option maxHeartbeats 4000000 in
set_option maxRecDepth 100000 in
/-- Integer.bitCount: how many bits -/
theorem c_J6_bitCount_0f7a4 (l : Launch) (x : Int32) : Met l yJ6_bitCount_0f7a4 wsJ6_bitCount_0f7a4 ({ frames := 0, cells := 0, slots := 0, locals := 0 }) (va_Pc [.int x] (fun _ => True)) (vp_Si (fun r => r = nI (pc x))) 0 0 (fun _ => False) := by
  refine Met.ofW (cc := cJ6_bitCount_0f7a4) (maxL := 1) (ret := (some .int)) (by decide) rfl ?_
  intro p e s m args below meth c s₁ B hml hv
  obtain ⟨rfl, -⟩ := hv
  have hx := B.exec
  have hb := B.bytes
  have hr := B.returns
  have hts := atoms_spec (ws := wsJ6_bitCount_0f7a4) B.pre
  have hown : s.vm.findClass RJ6 = some m.cls := findClass_of_methodNamed B.named
  have hlocks := B.notSynchronized
  have hl := lv_entry ([.int x]) (n := 1) (Nat.le_of_ble_eq_true rfl)
  rw [lg_entry_eq]
  generalize (lg_sl ([.int x]) ++ List.replicate (1 - (lg_sl ([.int x])).length) Slot.unset).toArray = ls at hl ⊢
  have hl : lv_has ls 1 [(0, .int x)] := hl
  refine lv_iload_n hx hb dJ6_bitCount_0f7a4_0 rfl (lv_at hl 0 rfl) ?_
  refine lv_iload_n hx hb dJ6_bitCount_0f7a4_1 rfl (lv_at hl 0 rfl) ?_
  refine lv_iconst (v := 1) hx hb dJ6_bitCount_0f7a4_2 (by decide) ?_
  refine lv_iushr (v := (x.toUInt32 >>> ((1 : Int32).toUInt32 &&& Int32.toUInt32 31)).toInt32) hx hb dJ6_bitCount_0f7a4_3 rfl ?_
  refine lv_ldcw hx hb hown (hts (.constant RJ6 265 (1431655765)) (by decide +kernel)) dJ6_bitCount_0f7a4_4 ?_
  refine lv_iand hx hb dJ6_bitCount_0f7a4_7 ?_
  refine lv_isub hx hb dJ6_bitCount_0f7a4_8 ?_
  refine lv_topi (fun x1 e1 => ?_)
  refine lv_istore_n (lv' := [(0, .int x1)]) hx hb dJ6_bitCount_0f7a4_9 rfl hl (by decide) rfl (fun ls hl => ?_)
  refine lv_iload_n hx hb dJ6_bitCount_0f7a4_10 rfl (lv_at hl 0 rfl) ?_
  refine lv_ldcw hx hb hown (hts (.constant RJ6 266 (858993459)) (by decide +kernel)) dJ6_bitCount_0f7a4_11 ?_
  refine lv_iand hx hb dJ6_bitCount_0f7a4_14 ?_
  refine lv_iload_n hx hb dJ6_bitCount_0f7a4_15 rfl (lv_at hl 0 rfl) ?_
  refine lv_iconst (v := 2) hx hb dJ6_bitCount_0f7a4_16 (by decide) ?_
  refine lv_iushr (v := (x1.toUInt32 >>> ((2 : Int32).toUInt32 &&& Int32.toUInt32 31)).toInt32) hx hb dJ6_bitCount_0f7a4_17 rfl ?_
  refine lv_ldcw hx hb hown (hts (.constant RJ6 266 (858993459)) (by decide +kernel)) dJ6_bitCount_0f7a4_18 ?_
  refine lv_iand hx hb dJ6_bitCount_0f7a4_21 ?_
  refine lv_iadd hx hb dJ6_bitCount_0f7a4_22 ?_
  refine lv_topi (fun x2 e2 => ?_)
  refine lv_istore_n (lv' := [(0, .int x2)]) hx hb dJ6_bitCount_0f7a4_23 rfl hl (by decide) rfl (fun ls hl => ?_)
  refine lv_iload_n hx hb dJ6_bitCount_0f7a4_24 rfl (lv_at hl 0 rfl) ?_
  refine lv_iload_n hx hb dJ6_bitCount_0f7a4_25 rfl (lv_at hl 0 rfl) ?_
  refine lv_iconst (v := 4) hx hb dJ6_bitCount_0f7a4_26 (by decide) ?_
  refine lv_iushr (v := (x2.toUInt32 >>> ((4 : Int32).toUInt32 &&& Int32.toUInt32 31)).toInt32) hx hb dJ6_bitCount_0f7a4_27 rfl ?_
  refine lv_iadd hx hb dJ6_bitCount_0f7a4_28 ?_
  refine lv_ldcw hx hb hown (hts (.constant RJ6 267 (252645135)) (by decide +kernel)) dJ6_bitCount_0f7a4_29 ?_
  refine lv_iand hx hb dJ6_bitCount_0f7a4_32 ?_
  refine lv_topi (fun x3 e3 => ?_)
  refine lv_istore_n (lv' := [(0, .int x3)]) hx hb dJ6_bitCount_0f7a4_33 rfl hl (by decide) rfl (fun ls hl => ?_)
  refine lv_iload_n hx hb dJ6_bitCount_0f7a4_34 rfl (lv_at hl 0 rfl) ?_
  refine lv_iload_n hx hb dJ6_bitCount_0f7a4_35 rfl (lv_at hl 0 rfl) ?_
  refine lv_bipush (v := 8) hx hb dJ6_bitCount_0f7a4_36 (by decide) ?_
  refine lv_iushr (v := (x3.toUInt32 >>> ((8 : Int32).toUInt32 &&& Int32.toUInt32 31)).toInt32) hx hb dJ6_bitCount_0f7a4_38 rfl ?_
  refine lv_iadd hx hb dJ6_bitCount_0f7a4_39 ?_
  refine lv_topi (fun x4 e4 => ?_)
  refine lv_istore_n (lv' := [(0, .int x4)]) hx hb dJ6_bitCount_0f7a4_40 rfl hl (by decide) rfl (fun ls hl => ?_)
  refine lv_iload_n hx hb dJ6_bitCount_0f7a4_41 rfl (lv_at hl 0 rfl) ?_
  refine lv_iload_n hx hb dJ6_bitCount_0f7a4_42 rfl (lv_at hl 0 rfl) ?_
  refine lv_bipush (v := 16) hx hb dJ6_bitCount_0f7a4_43 (by decide) ?_
  refine lv_iushr (v := (x4.toUInt32 >>> ((16 : Int32).toUInt32 &&& Int32.toUInt32 31)).toInt32) hx hb dJ6_bitCount_0f7a4_45 rfl ?_
  refine lv_iadd hx hb dJ6_bitCount_0f7a4_46 ?_
  refine lv_topi (fun x5 e5 => ?_)
  refine lv_istore_n (lv' := [(0, .int x5)]) hx hb dJ6_bitCount_0f7a4_47 rfl hl (by decide) rfl (fun ls hl => ?_)
  refine lv_iload_n hx hb dJ6_bitCount_0f7a4_48 rfl (lv_at hl 0 rfl) ?_
  refine lv_bipush (v := 63) hx hb dJ6_bitCount_0f7a4_49 (by decide) ?_
  refine lv_iand hx hb dJ6_bitCount_0f7a4_51 ?_
  exact W.iret (v := x5 &&& 63) hx hb hr (fun t ht hW => ⟨x5 &&& 63, rfl, swar e1 e2 e3 e4 e5, ht⟩) (fun _ h9 => by cases h9) dJ6_bitCount_0f7a4_52
/-- the row's size less one -/
def fmF (k : Int32) : Int32 := if k - k / 32 * 32 < 0 then k - k / 32 * 32 + 32 else k - k / 32 * 32
set_option maxHeartbeats 4000000 in
set_option maxRecDepth 100000 in
/-- Math.floorMod by 32 -/
theorem c_J9_floorMod_7cf53 (l : Launch) (x : Int32) : Met l yJ9_floorMod_7cf53 wsJ9_floorMod_7cf53 ({ frames := 0, cells := 0, slots := 0, locals := 0 }) (va_Pc [.int x, .int 32] (fun _ => True)) (vp_Si (fun r => r = fmF x)) 0 0 (fun _ => False) := by
  refine ofWF (cc := cJ9_floorMod_7cf53) (maxL := 3) (ret := (some .int)) (by decide +kernel) rfl ?_
  intro p e s m args below meth c s₁ B hml hv
  obtain ⟨rfl, -⟩ := hv
  have hx := B.exec
  have hb := B.bytes
  have hr := B.returns
  have hts := atoms_spec (ws := wsJ9_floorMod_7cf53) B.pre
  have hown : s.vm.findClass RJ9 = some m.cls := findClass_of_methodNamed B.named
  have hlocks := B.notSynchronized
  have hl := lv_entry ([.int x, .int 32]) (n := 3) (Nat.le_of_ble_eq_true rfl)
  rw [lg_entry_eq]
  generalize (lg_sl ([.int x, .int 32]) ++ List.replicate (3 - (lg_sl ([.int x, .int 32])).length) Slot.unset).toArray = ls at hl ⊢
  have hl : lv_has ls 3 [(0, .int x), (1, .int 32)] := hl
  refine lv_iload_n hx hb dJ9_floorMod_7cf53_0 rfl (lv_at hl 0 rfl) ?_
  refine lv_iload_n hx hb dJ9_floorMod_7cf53_1 rfl (lv_at hl 1 rfl) ?_
  refine lv_irem hx hb dJ9_floorMod_7cf53_2 (by decide) ?_
  refine lv_topi (fun q eq => ?_)
  refine lv_istore_n (lv' := [(2, .int q), (0, .int x), (1, .int 32)]) hx hb dJ9_floorMod_7cf53_3 rfl hl (by decide) rfl (fun ls hl => ?_)
  refine lv_iload_n hx hb dJ9_floorMod_7cf53_4 rfl (lv_at hl 1 rfl) ?_
  refine lv_iload_n hx hb dJ9_floorMod_7cf53_5 rfl (lv_at hl 2 rfl) ?_
  refine lv_ixor hx hb dJ9_floorMod_7cf53_6 ?_
  refine lv_if_ge (tgt := 18) hx hb dJ9_floorMod_7cf53_7 (by decide) (fun c1 => ?_) (fun c1 => ?_)
  · skip
    refine lv_iload_n hx hb dJ9_floorMod_7cf53_18 rfl (lv_at hl 0 rfl) ?_
    exact W.iret (v := q) hx hb hr (fun t ht hW => ⟨q, rfl, by show q = fmF x; unfold fmF; rw [← eq, if_neg (by rw [eq]; exact fm_p (fun h => fm_ge h c1))], ht⟩) (fun _ h9 => by cases h9) dJ9_floorMod_7cf53_19
  · skip
    refine lv_iload_n hx hb dJ9_floorMod_7cf53_10 rfl (lv_at hl 0 rfl) ?_
    refine lv_if_eq (tgt := 18) hx hb dJ9_floorMod_7cf53_11 (by decide) (fun c2 => ?_) (fun c2 => ?_)
    · skip
      refine lv_iload_n hx hb dJ9_floorMod_7cf53_18 rfl (lv_at hl 0 rfl) ?_
      exact W.iret (v := q) hx hb hr (fun t ht hW => ⟨q, rfl, by show q = fmF x; unfold fmF; rw [← eq, if_neg (by rw [c2]; decide)], ht⟩) (fun _ h9 => by cases h9) dJ9_floorMod_7cf53_19
    · skip
      refine lv_iload_n hx hb dJ9_floorMod_7cf53_14 rfl (lv_at hl 0 rfl) ?_
      refine lv_iload_n hx hb dJ9_floorMod_7cf53_15 rfl (lv_at hl 2 rfl) ?_
      refine lv_iadd hx hb dJ9_floorMod_7cf53_16 ?_
      exact W.iret (v := q + 32) hx hb hr (fun t ht hW => ⟨q + 32, rfl, by show q + 32 = fmF x; unfold fmF; rw [← eq, if_pos (by rw [eq] at c2 ⊢; exact fm_n (fm_lt c1) c2)], ht⟩) (fun _ h9 => by cases h9) dJ9_floorMod_7cf53_17
set_option maxHeartbeats 4000000 in
set_option maxRecDepth 100000 in
/-- Integer.numberOfTrailingZeros of one bit -/
theorem c_J6_numberOfTrailingZeros_0f7a4 (l : Launch) (i : Nat) (hi : i < 32) : Met l yJ6_numberOfTrailingZeros_0f7a4 wsJ6_numberOfTrailingZeros_0f7a4 ({ frames := 0, cells := 0, slots := 0, locals := 0 }) (va_Pc [.int (tw i)] (fun _ => True)) (vp_Si (fun r => r = nI i)) 0 0 (fun _ => False) := by
  refine Met.ofW (cc := cJ6_numberOfTrailingZeros_0f7a4) (maxL := 2) (ret := (some .int)) (by decide) rfl ?_
  intro p e s m args below meth c s₁ B hml hv
  obtain ⟨rfl, -⟩ := hv
  have hx := B.exec
  have hb := B.bytes
  have hr := B.returns
  have hts := atoms_spec (ws := wsJ6_numberOfTrailingZeros_0f7a4) B.pre
  have hown : s.vm.findClass RJ6 = some m.cls := findClass_of_methodNamed B.named
  have hlocks := B.notSynchronized
  have hl := lv_entry ([.int (tw i)]) (n := 2) (Nat.le_of_ble_eq_true rfl)
  rw [lg_entry_eq]
  generalize (lg_sl ([.int (tw i)]) ++ List.replicate (2 - (lg_sl ([.int (tw i)])).length) Slot.unset).toArray = ls at hl ⊢
  have hl : lv_has ls 2 [(0, .int (tw i))] := hl
  refine lv_iload_n hx hb dJ6_numberOfTrailingZeros_0f7a4_0 rfl (lv_at hl 0 rfl) ?_
  refine lv_iconst (v := (-1)) hx hb dJ6_numberOfTrailingZeros_0f7a4_1 (by decide) ?_
  refine lv_ixor hx hb dJ6_numberOfTrailingZeros_0f7a4_2 ?_
  refine lv_iload_n hx hb dJ6_numberOfTrailingZeros_0f7a4_3 rfl (lv_at hl 0 rfl) ?_
  refine lv_iconst (v := 1) hx hb dJ6_numberOfTrailingZeros_0f7a4_4 (by decide) ?_
  refine lv_isub hx hb dJ6_numberOfTrailingZeros_0f7a4_5 ?_
  refine lv_iand hx hb dJ6_numberOfTrailingZeros_0f7a4_6 ?_
  refine lv_topi (fun y ey => ?_)
  refine lv_istore_n (lv' := [(0, .int y)]) hx hb dJ6_numberOfTrailingZeros_0f7a4_7 rfl hl (by decide) rfl (fun ls hl => ?_)
  have hy : y = nI (2 ^ i - 1) := ey.trans (nt_a i hi)
  by_cases h0 : i = 0
  · skip
    subst h0
    have hy : y = 0 := hy
    subst hy
    refine lv_iload_n hx hb dJ6_numberOfTrailingZeros_0f7a4_8 rfl (lv_at hl 0 rfl) ?_
    refine lv_if_gt (tgt := 17) hx hb dJ6_numberOfTrailingZeros_0f7a4_9 (by decide) (fun c0 => ?_) (fun c0 => ?_)
    · skip
      exact absurd c0 (by decide)
    · skip
      refine lv_iload_n hx hb dJ6_numberOfTrailingZeros_0f7a4_12 rfl (lv_at hl 0 rfl) ?_
      refine lv_bipush (v := 32) hx hb dJ6_numberOfTrailingZeros_0f7a4_13 (by decide) ?_
      refine lv_iand hx hb dJ6_numberOfTrailingZeros_0f7a4_15 ?_
      exact W.iret (v := 0 &&& 32) hx hb hr (fun t ht hW => ⟨0 &&& 32, rfl, by decide, ht⟩) (fun _ h9 => by cases h9) dJ6_numberOfTrailingZeros_0f7a4_16
  · skip
    refine lv_iload_n hx hb dJ6_numberOfTrailingZeros_0f7a4_8 rfl (lv_at hl 0 rfl) ?_
    refine lv_if_gt (tgt := 17) hx hb dJ6_numberOfTrailingZeros_0f7a4_9 (by decide) (fun c0 => ?_) (fun c0 => ?_)
    · skip
      refine lv_iconst (v := 1) hx hb dJ6_numberOfTrailingZeros_0f7a4_17 (by decide) ?_
      refine lv_istore_n (lv' := [(1, .int 1), (0, .int y)]) hx hb dJ6_numberOfTrailingZeros_0f7a4_18 rfl hl (by decide) rfl (fun ls hl => ?_)
      have k74 : ∀ (x n : Int32) (ls : Array Slot), ntE x n = nI i → lv_has ls 2 [(1, .int n), (0, .int x)] → W p l e (headSpec wsJ6_numberOfTrailingZeros_0f7a4 ({ frames := 0, cells := 0, slots := 0, locals := 0 })).room s m ([.int (tw i)] : List Value).toArray below meth c s.heap [] 0 0 (MQ below (vp_Si (fun r => r = nI i)) ([.int (tw i)] : List Value).toArray s 0 0 (fun _ => False)) (F0 m 74 ls []) := by
        intro x n ls hE hl
        refine lv_iload_n hx hb dJ6_numberOfTrailingZeros_0f7a4_74 rfl (lv_at hl 0 rfl) ?_
        refine lv_iload_n hx hb dJ6_numberOfTrailingZeros_0f7a4_75 rfl (lv_at hl 1 rfl) ?_
        refine lv_iconst (v := 1) hx hb dJ6_numberOfTrailingZeros_0f7a4_76 (by decide) ?_
        refine lv_iushr (v := (x.toUInt32 >>> ((1 : Int32).toUInt32 &&& Int32.toUInt32 31)).toInt32) hx hb dJ6_numberOfTrailingZeros_0f7a4_77 rfl ?_
        refine lv_iadd hx hb dJ6_numberOfTrailingZeros_0f7a4_78 ?_
        exact W.iret (v := n + ((x.toUInt32 >>> ((1 : Int32).toUInt32 &&& Int32.toUInt32 31)).toInt32)) hx hb hr (fun t ht hW => ⟨n + ((x.toUInt32 >>> ((1 : Int32).toUInt32 &&& Int32.toUInt32 31)).toInt32), rfl, hE, ht⟩) (fun _ h9 => by cases h9) dJ6_numberOfTrailingZeros_0f7a4_79
      have k62 : ∀ (x n : Int32) (ls : Array Slot), ntD x n = nI i → lv_has ls 2 [(1, .int n), (0, .int x)] → W p l e (headSpec wsJ6_numberOfTrailingZeros_0f7a4 ({ frames := 0, cells := 0, slots := 0, locals := 0 })).room s m ([.int (tw i)] : List Value).toArray below meth c s.heap [] 0 0 (MQ below (vp_Si (fun r => r = nI i)) ([.int (tw i)] : List Value).toArray s 0 0 (fun _ => False)) (F0 m 62 ls []) := by
        intro x n ls hE hl
        unfold ntD at hE
        refine lv_iload_n hx hb dJ6_numberOfTrailingZeros_0f7a4_62 rfl (lv_at hl 1 rfl) ?_
        refine lv_iconst (v := 4) hx hb dJ6_numberOfTrailingZeros_0f7a4_63 (by decide) ?_
        refine lv_icmp_le (tgt := 74) hx hb dJ6_numberOfTrailingZeros_0f7a4_64 (by decide) (fun c9 => ?_) (fun c9 => ?_)
        · skip
          rw [if_pos c9] at hE
          exact k74 x n ls hE (lv_sub hl [0, 1] rfl)
        · skip
          rw [if_neg c9] at hE
          refine lv_iinc (v := n + 2) (lv' := [(1, .int (n + 2)), (0, .int x)]) hx hb dJ6_numberOfTrailingZeros_0f7a4_67 hl (k := 0) rfl (rfl) (by decide) rfl (fun ls hl => ?_)
          refine lv_iload_n hx hb dJ6_numberOfTrailingZeros_0f7a4_70 rfl (lv_at hl 1 rfl) ?_
          refine lv_iconst (v := 2) hx hb dJ6_numberOfTrailingZeros_0f7a4_71 (by decide) ?_
          refine lv_iushr (v := (x.toUInt32 >>> ((2 : Int32).toUInt32 &&& Int32.toUInt32 31)).toInt32) hx hb dJ6_numberOfTrailingZeros_0f7a4_72 rfl ?_
          refine lv_istore_n (lv' := [(0, .int ((x.toUInt32 >>> ((2 : Int32).toUInt32 &&& Int32.toUInt32 31)).toInt32)), (1, .int (n + 2))]) hx hb dJ6_numberOfTrailingZeros_0f7a4_73 rfl hl (by decide) rfl (fun ls hl => ?_)
          exact k74 _ _ ls hE (lv_sub hl [1, 0] rfl)
      have k49 : ∀ (x n : Int32) (ls : Array Slot), ntC x n = nI i → lv_has ls 2 [(1, .int n), (0, .int x)] → W p l e (headSpec wsJ6_numberOfTrailingZeros_0f7a4 ({ frames := 0, cells := 0, slots := 0, locals := 0 })).room s m ([.int (tw i)] : List Value).toArray below meth c s.heap [] 0 0 (MQ below (vp_Si (fun r => r = nI i)) ([.int (tw i)] : List Value).toArray s 0 0 (fun _ => False)) (F0 m 49 ls []) := by
        intro x n ls hE hl
        unfold ntC at hE
        refine lv_iload_n hx hb dJ6_numberOfTrailingZeros_0f7a4_49 rfl (lv_at hl 1 rfl) ?_
        refine lv_bipush (v := 16) hx hb dJ6_numberOfTrailingZeros_0f7a4_50 (by decide) ?_
        refine lv_icmp_le (tgt := 62) hx hb dJ6_numberOfTrailingZeros_0f7a4_52 (by decide) (fun c9 => ?_) (fun c9 => ?_)
        · skip
          rw [if_pos c9] at hE
          exact k62 x n ls hE (lv_sub hl [0, 1] rfl)
        · skip
          rw [if_neg c9] at hE
          refine lv_iinc (v := n + 4) (lv' := [(1, .int (n + 4)), (0, .int x)]) hx hb dJ6_numberOfTrailingZeros_0f7a4_55 hl (k := 0) rfl (rfl) (by decide) rfl (fun ls hl => ?_)
          refine lv_iload_n hx hb dJ6_numberOfTrailingZeros_0f7a4_58 rfl (lv_at hl 1 rfl) ?_
          refine lv_iconst (v := 4) hx hb dJ6_numberOfTrailingZeros_0f7a4_59 (by decide) ?_
          refine lv_iushr (v := (x.toUInt32 >>> ((4 : Int32).toUInt32 &&& Int32.toUInt32 31)).toInt32) hx hb dJ6_numberOfTrailingZeros_0f7a4_60 rfl ?_
          refine lv_istore_n (lv' := [(0, .int ((x.toUInt32 >>> ((4 : Int32).toUInt32 &&& Int32.toUInt32 31)).toInt32)), (1, .int (n + 4))]) hx hb dJ6_numberOfTrailingZeros_0f7a4_61 rfl hl (by decide) rfl (fun ls hl => ?_)
          exact k62 _ _ ls hE (lv_sub hl [1, 0] rfl)
      have k34 : ∀ (x n : Int32) (ls : Array Slot), ntB x n = nI i → lv_has ls 2 [(1, .int n), (0, .int x)] → W p l e (headSpec wsJ6_numberOfTrailingZeros_0f7a4 ({ frames := 0, cells := 0, slots := 0, locals := 0 })).room s m ([.int (tw i)] : List Value).toArray below meth c s.heap [] 0 0 (MQ below (vp_Si (fun r => r = nI i)) ([.int (tw i)] : List Value).toArray s 0 0 (fun _ => False)) (F0 m 34 ls []) := by
        intro x n ls hE hl
        unfold ntB at hE
        refine lv_iload_n hx hb dJ6_numberOfTrailingZeros_0f7a4_34 rfl (lv_at hl 1 rfl) ?_
        refine lv_sipush (v := 256) hx hb dJ6_numberOfTrailingZeros_0f7a4_35 (by decide) ?_
        refine lv_icmp_le (tgt := 49) hx hb dJ6_numberOfTrailingZeros_0f7a4_38 (by decide) (fun c9 => ?_) (fun c9 => ?_)
        · skip
          rw [if_pos c9] at hE
          exact k49 x n ls hE (lv_sub hl [0, 1] rfl)
        · skip
          rw [if_neg c9] at hE
          refine lv_iinc (v := n + 8) (lv' := [(1, .int (n + 8)), (0, .int x)]) hx hb dJ6_numberOfTrailingZeros_0f7a4_41 hl (k := 0) rfl (rfl) (by decide) rfl (fun ls hl => ?_)
          refine lv_iload_n hx hb dJ6_numberOfTrailingZeros_0f7a4_44 rfl (lv_at hl 1 rfl) ?_
          refine lv_bipush (v := 8) hx hb dJ6_numberOfTrailingZeros_0f7a4_45 (by decide) ?_
          refine lv_iushr (v := (x.toUInt32 >>> ((8 : Int32).toUInt32 &&& Int32.toUInt32 31)).toInt32) hx hb dJ6_numberOfTrailingZeros_0f7a4_47 rfl ?_
          refine lv_istore_n (lv' := [(0, .int ((x.toUInt32 >>> ((8 : Int32).toUInt32 &&& Int32.toUInt32 31)).toInt32)), (1, .int (n + 8))]) hx hb dJ6_numberOfTrailingZeros_0f7a4_48 rfl hl (by decide) rfl (fun ls hl => ?_)
          exact k49 _ _ ls hE (lv_sub hl [1, 0] rfl)
      have k19 : ∀ (x n : Int32) (ls : Array Slot), ntA x n = nI i → lv_has ls 2 [(1, .int n), (0, .int x)] → W p l e (headSpec wsJ6_numberOfTrailingZeros_0f7a4 ({ frames := 0, cells := 0, slots := 0, locals := 0 })).room s m ([.int (tw i)] : List Value).toArray below meth c s.heap [] 0 0 (MQ below (vp_Si (fun r => r = nI i)) ([.int (tw i)] : List Value).toArray s 0 0 (fun _ => False)) (F0 m 19 ls []) := by
        intro x n ls hE hl
        unfold ntA at hE
        refine lv_iload_n hx hb dJ6_numberOfTrailingZeros_0f7a4_19 rfl (lv_at hl 1 rfl) ?_
        refine lv_ldcw hx hb hown (hts (.constant RJ6 264 (65536)) (by decide +kernel)) dJ6_numberOfTrailingZeros_0f7a4_20 ?_
        refine lv_icmp_le (tgt := 34) hx hb dJ6_numberOfTrailingZeros_0f7a4_23 (by decide) (fun c9 => ?_) (fun c9 => ?_)
        · skip
          rw [if_pos c9] at hE
          exact k34 x n ls hE (lv_sub hl [0, 1] rfl)
        · skip
          rw [if_neg c9] at hE
          refine lv_iinc (v := n + 16) (lv' := [(1, .int (n + 16)), (0, .int x)]) hx hb dJ6_numberOfTrailingZeros_0f7a4_26 hl (k := 0) rfl (rfl) (by decide) rfl (fun ls hl => ?_)
          refine lv_iload_n hx hb dJ6_numberOfTrailingZeros_0f7a4_29 rfl (lv_at hl 1 rfl) ?_
          refine lv_bipush (v := 16) hx hb dJ6_numberOfTrailingZeros_0f7a4_30 (by decide) ?_
          refine lv_iushr (v := (x.toUInt32 >>> ((16 : Int32).toUInt32 &&& Int32.toUInt32 31)).toInt32) hx hb dJ6_numberOfTrailingZeros_0f7a4_32 rfl ?_
          refine lv_istore_n (lv' := [(0, .int ((x.toUInt32 >>> ((16 : Int32).toUInt32 &&& Int32.toUInt32 31)).toInt32)), (1, .int (n + 16))]) hx hb dJ6_numberOfTrailingZeros_0f7a4_33 rfl hl (by decide) rfl (fun ls hl => ?_)
          exact k34 _ _ ls hE (lv_sub hl [1, 0] rfl)
      exact k19 y 1 ls (by rw [hy]; exact nt_b i hi h0) (lv_sub hl [0, 1] rfl)
    · skip
      exact absurd (by rw [hy]; exact nt_c i hi h0) c0
theorem fmF_K (k : Int32) : ∃ K : Nat, 1 ≤ K ∧ K ≤ 32 ∧ fmF k + 1 = nI K := by
  have h0 : (0 : Int32).toInt = 0 := by decide
  have h1 : (32 : Int32).toInt = 32 := by decide
  have ht := fm_tm k
  have h5 : -32 < k.toInt.tmod 32 ∧ k.toInt.tmod 32 < 32 := by
    constructor
    · have := Int.lt_tmod_of_pos k.toInt (b := 32) (by decide); omega
    · exact Int.tmod_lt_of_pos _ (by decide)
  have hb : 0 ≤ (fmF k).toInt ∧ (fmF k).toInt < 32 := by
    unfold fmF
    split
    · rename_i h
      rw [Int32.lt_iff_toInt_lt, ht, h0] at h
      rw [Int32.toInt_add, ht, h1, Int.bmod_eq_of_le (by omega) (by omega)]
      omega
    · rename_i h
      rw [Int32.lt_iff_toInt_lt, ht, h0] at h
      rw [ht]
      omega
  obtain ⟨j, hj, e⟩ := nI_of (x := fmF k) (by rw [Int32.lt_iff_toInt_lt, h0]; omega)
  have hj2 : j < 32 := by
    rw [e, nI_toInt hj] at hb
    omega
  exact ⟨j + 1, by omega, by omega, by rw [e, nI_succ]⟩
end
section
/-! ===== the draws, the degree, the set of a seed ===== -/
def ns (s : Int32) : Int32 := s * 1664525 + 1013904223
def dr (s : Int32) : Nat := tN s / 65536
theorem dr_lt (s : Int32) : dr s < 65536 := by
  have := tN_lt s
  unfold dr
  omega
theorem dr_sh (s : Int32) : (s.toUInt32 >>> ((16 : Int32).toUInt32 &&& Int32.toUInt32 31)).toInt32 = nI (dr s) := by
  apply tN_inj
  have h := dr_lt s
  rw [tN_nI (by omega)]
  exact sw_u s 16 (by omega)
def st (s : Int32) : Nat → Int32
  | 0 => s
  | n + 1 => ns (st s n)
theorem st_add (s : Int32) (a b : Nat) : st s (a + b) = st (st s a) b := by
  induction b with
  | zero => rfl
  | succ b ih => show ns (st s (a + b)) = ns (st (st s a) b); rw [ih]
def fl (K : Nat) (s : Int32) : Nat → Int32
  | 0 => 0
  | n + 1 => fl K s n ||| tw (dr (st s (n + 1)) % K)
theorem fl_lt {K : Nat} (h1 : 1 ≤ K) (h2 : K ≤ 32) (s : Int32) (n i : Nat) (h : bt (fl K s n) i = true) : i < K := by
  induction n with
  | zero => rw [show fl K s 0 = 0 from rfl, b_0] at h; cases h
  | succ n ih =>
    have hm : dr (st s (n + 1)) % K < K := Nat.mod_lt _ h1
    rw [show fl K s (n + 1) = fl K s n ||| tw (dr (st s (n + 1)) % K) from rfl, bt_or_tw (by omega)] at h
    cases hb : bt (fl K s n) i with
    | true => exact ih hb
    | false =>
      rw [hb] at h
      have h3 : i = dr (st s (n + 1)) % K := by simpa using h
      omega
theorem fl_has {K : Nat} (h1 : 1 ≤ K) (h2 : K ≤ 32) (s : Int32) {n j : Nat} (hj1 : 1 ≤ j) (hj : j ≤ n) : bt (fl K s n) (dr (st s j) % K) = true := by
  induction n with
  | zero => omega
  | succ n ih =>
    have hm : dr (st s (n + 1)) % K < K := Nat.mod_lt _ h1
    rw [show fl K s (n + 1) = fl K s n ||| tw (dr (st s (n + 1)) % K) from rfl, bt_or_tw (by omega)]
    rcases Nat.lt_or_ge j (n + 1) with q | q
    · rw [ih (by omega)]; rfl
    · have : j = n + 1 := by omega
      subst this
      simp
def dgF (K r : Nat) : Nat → Nat → Nat → Nat
  | 0, d, _ => d
  | f + 1, d, sum => if d < K ∧ sum ≤ r then dgF K r f (d + 1) (sum + 65536 / ((d + 1) * d)) else d
def dg (K r : Nat) : Nat := dgF K r K 1 (65536 / K)
theorem dgF_le {K r : Nat} : ∀ f d sum, 1 ≤ d → d ≤ K → 1 ≤ dgF K r f d sum ∧ dgF K r f d sum ≤ K := by
  intro f
  induction f with
  | zero => intro d sum h1 h2; exact ⟨h1, h2⟩
  | succ f ih =>
    intro d sum h1 h2
    unfold dgF
    split
    · rename_i h; exact ih _ _ (by omega) (by omega)
    · exact ⟨h1, h2⟩
theorem dg_le {K : Nat} (r : Nat) (h : 1 ≤ K) : 1 ≤ dg K r ∧ dg K r ≤ K := dgF_le _ _ _ (Nat.le_refl 1) h
theorem dgF_in {K r f d sum : Nat} (h1 : d < K) (h2 : sum ≤ r) : dgF K r (f + 1) d sum = dgF K r f (d + 1) (sum + 65536 / ((d + 1) * d)) := by
  rw [dgF, if_pos ⟨h1, h2⟩]
theorem dgF_out {K r f d sum : Nat} (h : ¬ (d < K ∧ sum ≤ r)) : dgF K r f d sum = d := by
  cases f with
  | zero => rfl
  | succ f => rw [dgF, if_neg h]
/-- b is the set of drawn numbers behind the state s -/
def isSet (K : Nat) (s b : Int32) : Prop := ∃ N, N ≤ 999999 ∧ b = fl K s N ∧ dg K (dr s) ≤ pc b ∧ ∀ j, j < N → pc (fl K s j) < dg K (dr s)
noncomputable def setA (K : Nat) (seed : Int32) : Int32 := @Classical.epsilon Int32 ⟨0⟩ (fun b => isSet K (ns seed) b)
/-! ===== every number comes again within a million draws ===== -/
def jA : Nat → Nat
  | 0 => 1664525
  | m + 1 => jA m * jA m % 4294967296
def jC : Nat → Nat
  | 0 => 1013904223
  | m + 1 => (jA m * jC m + jC m) % 4294967296
theorem jmod (a b : Nat) : (a * (b % 4294967296)) % 4294967296 = (a * b) % 4294967296 := Nat.mul_mod_mod ..
theorem jump (m : Nat) : ∀ s, tN (st s (2 ^ m)) = (jA m * tN s + jC m) % 4294967296 := by
  induction m with
  | zero =>
    intro s
    show tN (s * 1664525 + 1013904223) = _
    rw [tN_add, tN_mul, show tN (1664525 : Int32) = 1664525 from by decide +kernel, show tN (1013904223 : Int32) = 1013904223 from by decide +kernel]
    show _ = (1664525 * tN s + 1013904223) % 4294967296
    omega
  | succ m ih =>
    intro s
    rw [Nat.pow_succ, Nat.mul_two, st_add, ih, ih]
    show _ = (jA m * jA m % 4294967296 * tN s + (jA m * jC m + jC m) % 4294967296) % 4294967296
    rw [← Nat.add_mod_mod, Nat.add_comm (jA m * _), ← Nat.add_mod_mod (jC m % 4294967296), jmod, Nat.mul_add, Nat.add_mod_mod]
    rw [Nat.add_mod_mod, Nat.mod_add_mod, Nat.add_mod (jA m * jA m % 4294967296 * tN s), Nat.mod_mul_mod, ← Nat.add_mod, ← Nat.mul_assoc]
    congr 1
    omega
theorem jodd : ∀ m, m < 16 → jA m % 2 ^ (m + 1) = 1 ∧ jC m % 2 ^ (m + 1) = 2 ^ m ∧ 4294967296 % 2 ^ (m + 1) = 0 := by decide +kernel
theorem half {p x l : Nat} (hp : 0 < p) (h : x % p = l % p) : x % (p * 2) = l % (p * 2) ∨ (x + p) % (p * 2) = l % (p * 2) := by
  rw [Nat.mod_mul, Nat.mod_mul (x := l), Nat.mod_mul (x := x + p), Nat.add_mod_right, Nat.add_div_right _ hp, h]
  rcases Nat.mod_two_eq_zero_or_one (x / p) with a | a <;> rcases Nat.mod_two_eq_zero_or_one (l / p) with b | b
  · left; rw [a, b]
  · right; rw [b, show (x / p).succ % 2 = 1 by omega]
  · right; rw [b, show (x / p).succ % 2 = 0 by omega]
  · left; rw [a, b]
theorem reach (m : Nat) (hm : m ≤ 16) : ∀ s, ∃ j, j < 2 ^ m ∧ tN (st s j) % 2 ^ m = 1 % 2 ^ m := by
  induction m with
  | zero => intro s; exact ⟨0, by decide, by omega⟩
  | succ m ih =>
    intro s
    obtain ⟨j, h1, h2⟩ := ih (by omega) s
    have hp : 0 < 2 ^ m := Nat.two_pow_pos m
    obtain ⟨o1, o2, o3⟩ := jodd m (by omega)
    rw [Nat.pow_succ] at *
    rcases half hp h2 with h | h
    · exact ⟨j, by omega, h⟩
    · refine ⟨j + 2 ^ m, by omega, ?_⟩
      rw [st_add, jump, Nat.mod_mod_of_dvd _ (Nat.dvd_of_mod_eq_zero o3), Nat.add_mod, Nat.mul_mod, o1, o2, Nat.one_mul, Nat.mod_mod, Nat.mod_add_mod, h]
def cvS (z : Nat) : Nat := (z * 2088640513 + 1506093056) % 4294967296
def cvI (g : Nat → Nat) (z : Nat) : Nat → Nat
  | 0 => z
  | n + 1 => cvI g (g z) n
def cvL (g : Nat → Nat) (K : Nat) : Nat → Nat → Nat → Nat
  | 0, _, m => m
  | f + 1, z, m => cvL g K f (g z) (if g z / 65536 < 32768 then m ||| 2 ^ (g z / 65536 % K) else m)
def cvH (g : Nat → Nat) (K : Nat) : Nat → Nat → Nat → Nat
  | 0, _, m => m
  | f + 1, z, m => cvH g K f (g z) (if g z / 65536 < 32768 then m else m ||| 2 ^ ((g z / 65536 - 32768) % K))
theorem cvI_succ (g : Nat → Nat) (z n : Nat) : cvI g z (n + 1) = cvI g (g z) n := rfl
theorem cvI_0 (g : Nat → Nat) (z : Nat) : cvI g z 0 = z := rfl
theorem tb_or {m i r : Nat} (h : (m ||| 2 ^ i).testBit r = true) : m.testBit r = true ∨ r = i := by
  rw [Nat.testBit_or, Nat.testBit_two_pow] at h
  cases hm : m.testBit r with
  | true => exact Or.inl rfl
  | false => rw [hm] at h; right; have h3 : i = r := by simpa using h
             exact h3.symm
theorem cvL_s {g : Nat → Nat} {K r : Nat} : ∀ f z m, (cvL g K f z m).testBit r = true → m.testBit r = true ∨ ∃ t, 1 ≤ t ∧ t ≤ f ∧ cvI g z t / 65536 < 32768 ∧ cvI g z t / 65536 % K = r := by
  intro f
  induction f with
  | zero => intro z m h; exact Or.inl h
  | succ f ih =>
    intro z m h
    rcases ih _ _ h with h1 | ⟨t, h1, h2, h3, h4⟩
    · split at h1
      · rename_i hz
        rcases tb_or h1 with h2 | h2
        · exact Or.inl h2
        · exact Or.inr ⟨1, by omega, by omega, hz, h2.symm⟩
      · exact Or.inl h1
    · exact Or.inr ⟨t + 1, by omega, by omega, h3, h4⟩
theorem cvH_s {g : Nat → Nat} {K r : Nat} : ∀ f z m, (cvH g K f z m).testBit r = true → m.testBit r = true ∨ ∃ t, 1 ≤ t ∧ t ≤ f ∧ 32768 ≤ cvI g z t / 65536 ∧ (cvI g z t / 65536 - 32768) % K = r := by
  intro f
  induction f with
  | zero => intro z m h; exact Or.inl h
  | succ f ih =>
    intro z m h
    rcases ih _ _ h with h1 | ⟨t, h1, h2, h3, h4⟩
    · split at h1
      · exact Or.inl h1
      · rename_i hz
        rcases tb_or h1 with h2 | h2
        · exact Or.inl h2
        · exact Or.inr ⟨1, by omega, by omega, Nat.le_of_not_lt hz, h2.symm⟩
    · exact Or.inr ⟨t + 1, by omega, by omega, h3, h4⟩
set_option maxRecDepth 1000000 in
set_option maxHeartbeats 4000000 in
theorem cv_lo : ∀ k, k < 8 → ∀ K, K < 33 → cvL cvS K 455 (k * 65536 + 1) 0 = if K = 0 then cvL cvS 0 455 (k * 65536 + 1) 0 else 2 ^ K - 1 := by decide +kernel
set_option maxRecDepth 1000000 in
set_option maxHeartbeats 4000000 in
theorem cv_hi : ∀ k, k < 8 → ∀ K, K < 33 → cvH cvS K 455 (k * 65536 + 1) 0 = if K = 0 then cvH cvS 0 455 (k * 65536 + 1) 0 else 2 ^ K - 1 := by decide +kernel
end
section
theorem cvS_lt (z : Nat) : cvS z < 4294967296 := by
  unfold cvS
  exact Nat.mod_lt _ (by omega)
theorem cv_j : jA 11 = 2088640513 ∧ jC 11 = 1506093056 := by decide +kernel
theorem cv_st (y : Nat) : ∀ t (s : Int32) z, z < 4294967296 → tN s = (z + 524288 * y) % 4294967296 → tN (st s (2048 * t)) = (cvI cvS z t + 524288 * y) % 4294967296 := by
  intro t
  induction t with
  | zero => intro s z _ h; rw [cvI_0]; exact h
  | succ t ih =>
    intro s z hz h
    rw [show 2048 * (t + 1) = 2048 + 2048 * t by omega, st_add, cvI_succ]
    refine ih (st s 2048) (cvS z) (cvS_lt z) ?_
    have hj : tN (st s 2048) = _ := jump 11 s
    rw [hj, cv_j.1, cv_j.2, h]
    unfold cvS
    omega
theorem cv_lt (z : Nat) (h : z < 4294967296) : ∀ t, cvI cvS z t < 4294967296 := by
  intro t
  induction t generalizing z with
  | zero => rw [cvI_0]; exact h
  | succ t ih => rw [cvI_succ]; exact ih (cvS z) (cvS_lt z)
theorem cv_r {a c K r : Nat} (hK : 1 ≤ K) (hr : r < K) (h : a % K = (r + K * c - c) % K) : (a + c) % K = r := by
  have h1 : c ≤ K * c := Nat.le_mul_of_pos_left c hK
  rw [Nat.add_mod, h, ← Nat.add_mod, show r + K * c - c + c = r + K * c by omega, Nat.add_mul_mod_self_left, Nat.mod_eq_of_lt hr]
/-- from every state each number below K is drawn (modulo K) within 999999 draws -/
theorem cover {K : Nat} (h1 : 1 ≤ K) (h2 : K ≤ 32) (s : Int32) : ∀ r, r < K → ∃ j, 1 ≤ j ∧ j ≤ 999999 ∧ dr (st s j) % K = r := by
  intro r hr
  obtain ⟨j0, hj0, he⟩ := reach 16 (Nat.le_refl 16) s
  obtain ⟨x, hx⟩ : ∃ x, x = tN (st s j0) := ⟨_, rfl⟩
  have hxl := tN_lt (st s j0)
  rw [← hx] at he hxl
  obtain ⟨y, hy⟩ : ∃ y, y = x / 524288 := ⟨_, rfl⟩
  obtain ⟨k, hk⟩ : ∃ k, k = x / 65536 % 8 := ⟨_, rfl⟩
  have hz : tN (st s j0) = (k * 65536 + 1 + 524288 * y) % 4294967296 := by rw [← hx]; omega
  have hkl : k < 8 := by omega
  have hyl : y < 8192 := by omega
  have hst := fun t => cv_st y t (st s j0) (k * 65536 + 1) (by omega) hz
  have hclt := cv_lt (k * 65536 + 1) (by omega)
  have fin : ∀ t, t ≤ 455 → 1 ≤ t → dr (st (st s j0) (2048 * t)) % K = r → ∃ j, 1 ≤ j ∧ j ≤ 999999 ∧ dr (st s j) % K = r := by
    intro t ht ht1 h
    exact ⟨j0 + 2048 * t, by omega, by omega, by rw [st_add]; exact h⟩
  rcases Nat.lt_or_ge y 4096 with hy4 | hy4
  · have hc := cv_lo k hkl K (by omega)
    rw [if_neg (by omega)] at hc
    have hb : (cvL cvS K 455 (k * 65536 + 1) 0).testBit ((r + K * (8 * y) - 8 * y) % K) = true := by
      rw [hc, Nat.testBit_two_pow_sub_one]
      exact decide_eq_true (Nat.mod_lt _ h1)
    rcases cvL_s _ _ _ hb with h | ⟨t, a1, a2, a3, a4⟩
    · rw [Nat.zero_testBit] at h; cases h
    · refine fin t a2 a1 ?_
      have hl := hclt t
      have hd : dr (st (st s j0) (2048 * t)) = cvI cvS (k * 65536 + 1) t / 65536 + 8 * y := by
        unfold dr
        rw [hst t]
        omega
      rw [hd]
      exact cv_r h1 hr a4
  · have hc := cv_hi k hkl K (by omega)
    rw [if_neg (by omega)] at hc
    have hb : (cvH cvS K 455 (k * 65536 + 1) 0).testBit ((r + K * (8 * y - 32768) - (8 * y - 32768)) % K) = true := by
      rw [hc, Nat.testBit_two_pow_sub_one]
      exact decide_eq_true (Nat.mod_lt _ h1)
    rcases cvH_s _ _ _ hb with h | ⟨t, a1, a2, a3, a4⟩
    · rw [Nat.zero_testBit] at h; cases h
    · refine fin t a2 a1 ?_
      have hl := hclt t
      have hd : dr (st (st s j0) (2048 * t)) = cvI cvS (k * 65536 + 1) t / 65536 - 32768 + (8 * y - 32768) := by
        unfold dr
        rw [hst t]
        omega
      rw [hd]
      exact cv_r h1 hr a4
theorem fl_full {K : Nat} (h1 : 1 ≤ K) (h2 : K ≤ 32) (s : Int32) : pc (fl K s 999999) = K := by
  have hall : ∀ i, i < K → bt (fl K s 999999) i = true := by
    intro i hi
    obtain ⟨j, a, b, c⟩ := cover h1 h2 s i hi
    rw [← c]
    exact fl_has h1 h2 s a b
  have hno : ∀ i, K ≤ i → i < 32 → bt (fl K s 999999) i = false := by
    intro i hi _
    cases h : bt (fl K s 999999) i with
    | false => rfl
    | true => have := fl_lt h1 h2 s _ i h; omega
  generalize fl K s 999999 = b at hall hno
  have e1 : cn (bt b) 32 = cn (bt b) K := cn_cut h2 hno
  have e2 : cn (bt b) K = K := cn_all hall
  unfold pc
  rw [e1, e2]
theorem isSet_ex {K : Nat} (h1 : 1 ≤ K) (h2 : K ≤ 32) (s : Int32) : ∃ b, isSet K s b := by
  have hd := dg_le (dr s) h1
  have hf := fl_full h1 h2 s
  obtain ⟨M, hM⟩ : ∃ M, M = 999999 := ⟨_, rfl⟩
  rw [← hM] at hf
  obtain ⟨N, hN, hl⟩ := pk_least (fun n => dg K (dr s) ≤ pc (fl K s n)) ⟨M, by show _ ≤ _; rw [hf]; exact hd.2⟩
  refine ⟨fl K s N, N, ?_, rfl, hN, fun j hj => Nat.not_le.mp (hl j hj)⟩
  rcases Nat.lt_or_ge M N with q | q
  · exact absurd (show dg K (dr s) ≤ pc (fl K s M) by rw [hf]; exact hd.2) (hl M q)
  · omega
theorem setA_ok {K : Nat} (h1 : 1 ≤ K) (h2 : K ≤ 32) (seed : Int32) : isSet K (ns seed) (setA K seed) := @Classical.epsilon_spec Int32 (fun b => isSet K (ns seed) b) (isSet_ex h1 h2 (ns seed))
theorem setA_lt {K : Nat} (h1 : 1 ≤ K) (h2 : K ≤ 32) (seed : Int32) {i : Nat} (h : bt (setA K seed) i = true) : i < K := by
  obtain ⟨N, -, hb, -⟩ := setA_ok h1 h2 seed
  rw [hb] at h
  exact fl_lt h1 h2 _ _ _ h
end
section
/-! ===== the receiver's own words ===== -/
def xf (w : Nat → Int32) (b : Int32) : Nat → Int32
  | 0 => 0
  | n + 1 => if bt b n then xf w b n ^^^ w n else xf w b n
theorem xf_congr {w w' : Nat → Int32} {b : Int32} {n : Nat} (h : ∀ i, i < n → bt b i = true → w i = w' i) : xf w b n = xf w' b n := by
  induction n with
  | zero => rfl
  | succ n ih =>
    rw [xf, xf, ih (fun i hi => h i (by omega))]
    split
    · rename_i hb; rw [h n (by omega) hb]
    · rfl
def unk (S kb : Int32) : Int32 := S &&& (kb ^^^ (-1))
theorem bt_unk (S kb : Int32) (i : Nat) : bt (unk S kb) i = (bt S i && !bt kb i) := by
  unfold unk
  rw [b_and]
  rcases Nat.lt_or_ge i 32 with h | h
  · rw [b_not _ h]
  · rw [b_big h, Bool.false_and, Bool.false_and]
/-- by how many words a drop is open -/
def opn (S kb : Int32) : Nat := pc (unk S kb)
theorem opn_learn {S kb : Int32} {i : Nat} (hi : i < 32) (hk : bt kb i = false) : opn S kb = opn S (kb ||| tw i) + (if bt S i then 1 else 0) := by
  have hu : ∀ j, bt (unk S (kb ||| tw i)) j = (bt (unk S kb) j && !decide (j = i)) := by
    intro j
    rw [bt_unk, bt_unk, bt_or_tw hi]
    cases bt S j <;> cases bt kb j <;> simp
  unfold opn pc
  cases hS : bt S i with
  | true =>
    rw [if_pos rfl]
    refine cn_up (f := bt (unk S (kb ||| tw i))) (g := bt (unk S kb)) hi ?_ ?_ ?_
    · rw [hu]; simp
    · rw [bt_unk, hS, hk]; rfl
    · intro j _ hne; rw [hu]; simp [hne]
  | false =>
    rw [if_neg Bool.false_ne_true, Nat.add_zero]
    refine cn_congr (fun j _ => ?_)
    rw [hu]
    by_cases q : j = i
    · subst q; rw [bt_unk, hS]; rfl
    · simp [q]
theorem opn_0 {S kb : Int32} (h : unk S kb = 0) : opn S kb = 0 := by unfold opn; rw [h]; exact pc_0
theorem opn_0' {S kb : Int32} (h : opn S kb = 0) : unk S kb = 0 := by
  refine b_ext (fun i hi => ?_)
  rw [b_0]
  exact cn_none' h i hi
theorem opn_1 {S kb : Int32} (h : opn S kb = 1) : ∃ i, i < 32 ∧ unk S kb = tw i ∧ bt S i = true ∧ bt kb i = false := by
  obtain ⟨k, hk, h1, h2⟩ := cn_one h
  refine ⟨k, hk, b_ext (fun i hi => ?_), ?_, ?_⟩
  · rw [bt_tw hk]
    by_cases q : i = k
    · subst q; rw [h1]; simp
    · rw [h2 i hi q]; simp [q]
  · rw [bt_unk] at h1
    cases hS : bt S k with
    | true => rfl
    | false => rw [hS] at h1; simp at h1
  · rw [bt_unk] at h1
    cases hS : bt kb k with
    | false => rfl
    | true => rw [hS] at h1; simp at h1
/-- the one bit -/
def loF (u : Int32) : Nat → Nat
  | 0 => 0
  | n + 1 => if bt u n then n else loF u n
def lo (u : Int32) : Nat := loF u 32
theorem lo_tw : ∀ i, i < 32 → lo (tw i) = i := by decide +kernel
theorem tw_ne0 : ∀ i, i < 32 → ¬ tw i = 0 := by decide +kernel
/-- kb has a place left -/
theorem pc_room {K : Nat} (h2 : K ≤ 32) {kb : Int32} (hk : ∀ i, bt kb i = true → i < K) {i : Nat} (hi : i < K) (h : bt kb i = false) : pc kb < K := by
  have h1 := pc_or_tw (k := i) (by omega) kb
  rw [h, if_neg Bool.false_ne_true] at h1
  have h3 : pc (kb ||| tw i) ≤ K := by
    unfold pc
    rw [cn_cut (n := K) h2]
    · exact cn_le _ _
    · intro j hj _
      rw [bt_or_tw (by omega)]
      cases hb : bt kb j with
      | true => have := hk j hb; omega
      | false => simp; omega
  omega
/-- the xor of the known words of a set -/
def xk (K : Nat) (kw : Nat → Int32) (S kb : Int32) : Int32 := xf kw (S &&& kb) K
/-- the clashes behind a look at a drop -/
def clA (K : Nat) (kw : Nat → Int32) (S kb V cl : Int32) : Int32 := if xk K kw S kb = V then cl else cl + 1
/-- a drop that a word i that has just become known puts in the queue -/
def eqP (i : Nat) (S : Nat → Int32) (kb : Int32) (k : Nat) : Bool := bt (S k) i && decide (opn (S k) kb = 1)
def eqA (i : Nat) (S : Nat → Int32) (kb : Int32) (qu : Nat → Int32) (q : Nat) : Nat → (Nat → Int32)
  | 0 => qu
  | n + 1 => if eqP i S kb n then upd (eqA i S kb qu q n) (q + cn (eqP i S kb) n) (nI n) else eqA i S kb qu q n
theorem eqA_old {i : Nat} {S : Nat → Int32} {kb : Int32} {qu : Nat → Int32} {q n x : Nat} (h : x < q) : eqA i S kb qu q n x = qu x := by
  induction n with
  | zero => rfl
  | succ n ih =>
    rw [eqA]
    split
    · rw [pk_un (by omega), ih]
    · exact ih
theorem eqA_new {i : Nat} {S : Nat → Int32} {kb : Int32} {qu : Nat → Int32} {q : Nat} : ∀ {n k : Nat}, k < n → eqP i S kb k = true → eqA i S kb qu q n (q + cn (eqP i S kb) k) = nI k := by
  intro n
  induction n with
  | zero => intro k hk; omega
  | succ n ih =>
    intro k hk hp
    rw [eqA]
    rcases Nat.lt_or_ge k n with a | a
    · have h1 : cn (eqP i S kb) k < cn (eqP i S kb) n := by
        have h2 : cn (eqP i S kb) (k + 1) ≤ cn (eqP i S kb) n := by
          clear ih hk
          induction n with
          | zero => omega
          | succ n ih2 =>
            rcases Nat.lt_or_ge k n with b | b
            · have := ih2 b
              show _ ≤ cn (eqP i S kb) n + _
              omega
            · have : k = n := by omega
              subst this
              exact Nat.le_refl _
        have h3 : cn (eqP i S kb) (k + 1) = cn (eqP i S kb) k + 1 := by rw [cn, hp, if_pos rfl]
        omega
      split
      · rw [pk_un (by omega)]; exact ih a hp
      · exact ih a hp
    · have : k = n := by omega
      subst this
      rw [hp, if_pos rfl, pk_us]
theorem eqA_all {i : Nat} {S : Nat → Int32} {kb : Int32} {q : Nat} : ∀ {n x : Nat}, q ≤ x → x < q + cn (eqP i S kb) n → ∃ k, k < n ∧ eqP i S kb k = true ∧ x = q + cn (eqP i S kb) k := by
  intro n
  induction n with
  | zero => intro x h1 h2; rw [cn] at h2; omega
  | succ n ih =>
    intro x h1 h2
    rw [cn] at h2
    cases hp : eqP i S kb n with
    | false =>
      rw [hp, if_neg Bool.false_ne_true, Nat.add_zero] at h2
      obtain ⟨k, a, b, c⟩ := ih h1 h2
      exact ⟨k, by omega, b, c⟩
    | true =>
      rw [hp, if_pos rfl] at h2
      rcases Nat.lt_or_ge x (q + cn (eqP i S kb) n) with g | g
      · obtain ⟨k, a, b, c⟩ := ih h1 g
        exact ⟨k, by omega, b, c⟩
      · exact ⟨n, by omega, hp, by omega⟩
/-- the receiver while the queue runs: known words, their order, known bits, the queue, its end, clashes -/
abbrev QS : Type := (Nat → Int32) × (Nat → Int32) × Int32 × (Nat → Int32) × Nat × Int32
/-- drop j goes out of the queue -/
def tkF (K n : Nat) (S V : Nat → Int32) (j : Nat) (z : QS) : QS := match z with
  | (kw, ko, kb, qu, q, cl) =>
    if unk (S j) kb = 0 then (kw, ko, kb, qu, q, clA K kw (S j) kb (V j) cl)
    else (upd kw (lo (unk (S j) kb)) (V j ^^^ xk K kw (S j) kb), upd ko (pc kb) (nI (lo (unk (S j) kb))), kb ||| tw (lo (unk (S j) kb)),
      eqA (lo (unk (S j) kb)) S (kb ||| tw (lo (unk (S j) kb))) qu q n, q + cn (eqP (lo (unk (S j) kb)) S (kb ||| tw (lo (unk (S j) kb)))) n, cl)
/-- the queue runs from place h on -/
def rnF (K n : Nat) (S V : Nat → Int32) : Nat → Nat → QS → QS
  | 0, _, z => z
  | f + 1, h, z => if h < z.2.2.2.2.1 then rnF K n S V f (h + 1) (tkF K n S V (z.2.2.2.1 h).toNatClampNeg z) else z
/-- what holds while the queue runs, h drops having gone out -/
def qInv (K n : Nat) (S : Nat → Int32) (h : Nat) (z : QS) : Prop :=
  (∀ i, bt z.2.2.1 i = true → i < K) ∧ h ≤ z.2.2.2.2.1 ∧
  (∀ x, x < z.2.2.2.2.1 → ∃ j, j < n ∧ z.2.2.2.1 x = nI j ∧ opn (S j) z.2.2.1 ≤ 1) ∧
  (∀ j, j < n → opn (S j) z.2.2.1 = 1 → ∃ x, h ≤ x ∧ x < z.2.2.2.2.1 ∧ z.2.2.2.1 x = nI j) ∧
  z.2.2.2.2.1 ≤ cn (fun j => decide (opn (S j) z.2.2.1 ≤ 1)) n ∧
  (∀ x y, x < z.2.2.2.2.1 → y < z.2.2.2.2.1 → z.2.2.2.1 x = z.2.2.2.1 y → x = y)
theorem cn_two {f g h : Nat → Bool} {n : Nat} (hf : ∀ k, k < n → f k = true → h k = true ∧ g k = false) (hg : ∀ k, k < n → g k = true → h k = true) : cn f n + cn g n ≤ cn h n := by
  induction n with
  | zero => exact Nat.le_refl 0
  | succ n ih =>
    have h1 := ih (fun k hk => hf k (by omega)) (fun k hk => hg k (by omega))
    have a := hf n (by omega)
    have b := hg n (by omega)
    rw [cn, cn, cn]
    cases hfn : f n with
    | true => rw [(a hfn).1, (a hfn).2]; simp; omega
    | false =>
      cases hgn : g n with
      | true => rw [b hgn]; simp; omega
      | false => simp; split <;> omega
theorem qInv_le {K n : Nat} {S : Nat → Int32} {h : Nat} {z : QS} (H : qInv K n S h z) : z.2.2.2.2.1 ≤ n := Nat.le_trans H.2.2.2.2.1 (cn_le _ _)
theorem nI_nj {a b : Nat} (ha : a < 60) (hb : b < 60) (h : nI a = nI b) : a = b := (nI_eq (by omega) (by omega)).mp h
/-- one drop goes out: what holds, still holds -/
theorem qInv_tk {K n : Nat} (hK : K ≤ 32) (hn : n ≤ 60) {S V : Nat → Int32} (hS : ∀ j, j < n → ∀ i, bt (S j) i = true → i < K) {h : Nat} {z : QS} (H : qInv K n S h z) (hh : h < z.2.2.2.2.1) {j : Nat} (hj : j < n) (ej : z.2.2.2.1 h = nI j) : qInv K n S (h + 1) (tkF K n S V j z) := by
  obtain ⟨kw, ko, kb, qu, q, cl⟩ := z
  obtain ⟨a1, a2, a3, a4, a5, a6⟩ := H
  have hh : h < q := hh
  have ej : qu h = nI j := ej
  have a1 : ∀ i, bt kb i = true → i < K := a1
  have a3 : ∀ x, x < q → ∃ j, j < n ∧ qu x = nI j ∧ opn (S j) kb ≤ 1 := a3
  have a4 : ∀ j, j < n → opn (S j) kb = 1 → ∃ x, h ≤ x ∧ x < q ∧ qu x = nI j := a4
  have a5 : q ≤ cn (fun j => decide (opn (S j) kb ≤ 1)) n := a5
  have a6 : ∀ x y, x < q → y < q → qu x = qu y → x = y := a6
  have hjo : opn (S j) kb ≤ 1 := by
    obtain ⟨j', b1, b2, b3⟩ := a3 h hh
    have : j' = j := nI_nj (by omega) (by omega) (b2.symm.trans ej)
    rw [← this]; exact b3
  show qInv K n S (h + 1) (if unk (S j) kb = 0 then _ else _)
  by_cases hu : unk (S j) kb = 0
  · rw [if_pos hu]
    refine ⟨a1, hh, a3, ?_, a5, a6⟩
    intro k hk ho
    obtain ⟨x, b1, b2, b3⟩ := a4 k hk ho
    refine ⟨x, ?_, b2, b3⟩
    rcases Nat.lt_or_ge h x with g | g
    · exact g
    · have : x = h := by omega
      subst this
      have : k = j := nI_nj (by omega) (by omega) (b3.symm.trans ej)
      subst this
      rw [opn_0 hu] at ho; omega
  · rw [if_neg hu]
    have ho1 : opn (S j) kb = 1 := by
      rcases Nat.lt_or_ge (opn (S j) kb) 1 with g | g
      · exact absurd (opn_0' (by omega)) hu
      · omega
    obtain ⟨i, hi, e1, e2, e3⟩ := opn_1 ho1
    rw [e1, lo_tw i hi]
    have hiK : i < K := hS j hj i e2
    have hol : ∀ k, opn (S k) kb = opn (S k) (kb ||| tw i) + (if bt (S k) i then 1 else 0) := fun k => opn_learn hi e3
    have hP : ∀ k, eqP i S (kb ||| tw i) k = true ↔ bt (S k) i = true ∧ opn (S k) kb = 2 := by
      intro k
      unfold eqP
      rw [Bool.and_eq_true, decide_eq_true_iff, hol k]
      constructor
      · intro ⟨g1, g2⟩; rw [g1, g2]; exact ⟨rfl, rfl⟩
      · intro ⟨g1, g2⟩; rw [g1, if_pos rfl] at g2; exact ⟨g1, by omega⟩
    have hjh : ∀ x, x < q → qu x = nI j → x = h := fun x hx ex => a6 x h hx hh (ex.trans ej.symm)
    refine ⟨?_, by show h + 1 ≤ q + _; omega, ?_, ?_, ?_, ?_⟩
    · intro i' hb
      have hb : bt (kb ||| tw i) i' = true := hb
      rw [bt_or_tw hi] at hb
      cases hk : bt kb i' with
      | true => exact a1 i' hk
      | false => rw [hk] at hb; have : i' = i := by simpa using hb
                 omega
    · intro x hx
      have hx : x < q + cn (eqP i S (kb ||| tw i)) n := hx
      show ∃ j, j < n ∧ eqA i S (kb ||| tw i) qu q n x = nI j ∧ opn (S j) (kb ||| tw i) ≤ 1
      rcases Nat.lt_or_ge x q with g | g
      · obtain ⟨k, b1, b2, b3⟩ := a3 x g
        refine ⟨k, b1, by rw [eqA_old g]; exact b2, ?_⟩
        have := hol k
        omega
      · obtain ⟨k, b1, b2, b3⟩ := eqA_all g hx
        refine ⟨k, b1, by rw [b3]; exact eqA_new b1 b2, ?_⟩
        have h3 := (hP k).mp b2
        have := hol k
        rw [h3.1, if_pos rfl] at this
        omega
    · intro k hk ho
      have ho : opn (S k) (kb ||| tw i) = 1 := ho
      show ∃ x, h + 1 ≤ x ∧ x < q + cn (eqP i S (kb ||| tw i)) n ∧ eqA i S (kb ||| tw i) qu q n x = nI k
      have h9 := hol k
      cases hb : bt (S k) i with
      | true =>
        have hp : eqP i S (kb ||| tw i) k = true := (hP k).mpr ⟨hb, by rw [h9, ho, hb]; rfl⟩
        refine ⟨q + cn (eqP i S (kb ||| tw i)) k, by omega, ?_, eqA_new hk hp⟩
        have h2 : cn (eqP i S (kb ||| tw i)) (k + 1) ≤ cn (eqP i S (kb ||| tw i)) n := by
          have : ∀ m, k + 1 ≤ m → cn (eqP i S (kb ||| tw i)) (k + 1) ≤ cn (eqP i S (kb ||| tw i)) m := by
            intro m hm
            induction m with
            | zero => omega
            | succ m ih2 =>
              rcases Nat.lt_or_ge k m with b | b
              · have := ih2 (by omega)
                show _ ≤ cn (eqP i S (kb ||| tw i)) m + _
                omega
              · have : k = m := by omega
                subst this
                exact Nat.le_refl _
          exact this n (by omega)
        have h3 : cn (eqP i S (kb ||| tw i)) (k + 1) = cn (eqP i S (kb ||| tw i)) k + 1 := by rw [cn, hp, if_pos rfl]
        omega
      | false =>
        rw [hb, if_neg Bool.false_ne_true] at h9
        obtain ⟨x, b1, b2, b3⟩ := a4 k hk (by omega)
        have hne : x ≠ h := by
          intro hx
          subst hx
          have : k = j := nI_nj (by omega) (by omega) (b3.symm.trans ej)
          subst this
          rw [e2] at hb; cases hb
        exact ⟨x, by omega, by omega, by rw [eqA_old b2]; exact b3⟩
    · show q + cn (eqP i S (kb ||| tw i)) n ≤ cn (fun j => decide (opn (S j) (kb ||| tw i) ≤ 1)) n
      refine Nat.le_trans (Nat.add_le_add_right a5 _) (cn_two (fun k _ hk => ?_) (fun k _ hk => ?_))
      · have hk : opn (S k) kb ≤ 1 := decide_eq_true_iff.mp hk
        have h9 := hol k
        refine ⟨decide_eq_true (by omega), ?_⟩
        cases hp : eqP i S (kb ||| tw i) k with
        | false => rfl
        | true => have := (hP k).mp hp; omega
      · have h3 := (hP k).mp hk
        have h9 := hol k
        rw [h3.1, if_pos rfl] at h9
        exact decide_eq_true (by omega)
    · intro x y hx hy he
      have hx : x < q + cn (eqP i S (kb ||| tw i)) n := hx
      have hy : y < q + cn (eqP i S (kb ||| tw i)) n := hy
      have he : eqA i S (kb ||| tw i) qu q n x = eqA i S (kb ||| tw i) qu q n y := he
      rcases Nat.lt_or_ge x q with g | g <;> rcases Nat.lt_or_ge y q with g' | g'
      · rw [eqA_old g, eqA_old g'] at he
        exact a6 x y g g' he
      · exfalso
        obtain ⟨k, b1, b2, b3⟩ := eqA_all g' hy
        obtain ⟨k', c1, c2, c3⟩ := a3 x g
        rw [eqA_old g, c2, b3, eqA_new b1 b2] at he
        have : k' = k := nI_nj (by omega) (by omega) he
        subst this
        have := (hP k').mp b2
        omega
      · exfalso
        obtain ⟨k, b1, b2, b3⟩ := eqA_all g hx
        obtain ⟨k', c1, c2, c3⟩ := a3 y g'
        rw [eqA_old g', c2, b3, eqA_new b1 b2] at he
        have : k = k' := nI_nj (by omega) (by omega) he
        subst this
        have := (hP k).mp b2
        omega
      · obtain ⟨k, b1, b2, b3⟩ := eqA_all g hx
        obtain ⟨k', c1, c2, c3⟩ := eqA_all g' hy
        rw [b3, c3, eqA_new b1 b2, eqA_new c1 c2] at he
        have : k = k' := nI_nj (by omega) (by omega) he
        subst this
        rw [b3, c3]
/-- behind the queue: nothing is open by one -/
theorem qInv_end {K n : Nat} {S : Nat → Int32} {z : QS} (H : qInv K n S z.2.2.2.2.1 z) : ∀ j, j < n → ¬ opn (S j) z.2.2.1 = 1 := by
  intro j hj h
  obtain ⟨x, a, b, c⟩ := H.2.2.2.1 j hj h
  omega
theorem upd_same {f : Nat → Int32} {k : Nat} {x : Int32} : upd f k x k = x := pk_us
end
section
abbrev inR (K : Nat) (i : Int32) : Prop := 0 ≤ i ∧ i < nI K
theorem inR_of {K : Nat} {i : Int32} (h : ¬ i < 0) (h2 : ¬ nI K ≤ i) : inR K i := ⟨Int32.not_lt.mp h, Int32.not_le.mp h2⟩
theorem inR_neg {K : Nat} {i : Int32} (h : inR K i) (h2 : i < 0) : False := Int32.not_lt.mpr h.1 h2
theorem inR_ge {K : Nat} {i : Int32} (h : inR K i) (h2 : nI K ≤ i) : False := Int32.not_lt.mpr h2 h.2
theorem inR_ix {K : Nat} (hK : K ≤ 60) {i : Int32} (h : inR K i) : ∃ j : Nat, j < K ∧ i = nI j := by
  rcases pk_ix i (n := K) (by omega) with a | a | a
  · exact (inR_neg h a).elim
  · exact (inR_ge h a).elim
  · exact a
theorem inR_nI {K j : Nat} (hK : K ≤ 60) (h : j < K) : inR K (nI j) := ⟨nI_pos' (by omega), nI_lt h (by omega)⟩
theorem dg_pos (d : Nat) (h : 1 ≤ d) : 0 < (d + 1) * d := Nat.mul_pos (by omega) h
theorem dg_sm (d : Nat) (h : d ≤ 32) : (d + 1) * d < 2 ^ 31 := by
  have : (d + 1) * d ≤ 33 * 32 := Nat.mul_le_mul (by omega) h
  omega
theorem dg_ne (d : Nat) (h : 1 ≤ d) (h2 : d < 33) : ¬ nI ((d + 1) * d) = 0 := nI_ne0 (dg_pos d h) (dg_sm d (by omega))
theorem dg_sum (d sum : Nat) (h : 1 ≤ d) (hs : sum ≤ 65536 * d) : sum + 65536 / ((d + 1) * d) ≤ 65536 * (d + 1) := by
  have : 65536 / ((d + 1) * d) ≤ 65536 := Nat.div_le_self _ _
  omega
theorem dg_s0 (K : Nat) : 65536 / K ≤ 65536 * 1 := by
  have : 65536 / K ≤ 65536 := Nat.div_le_self _ _
  omega
theorem ts_nf {x : Bool} (h : ¬ x = false) : x = true := by cases x with
  | true => rfl
  | false => exact absurd rfl h
set_option maxHeartbeats 4000000 in
set_option maxRecDepth 100000 in
theorem c_X0_nextState (l : Launch) (x : Int32) : Met l yX0_nextState wsX0_nextState ({ frames := 0, cells := 0, slots := 0, locals := 0 }) (va_Pc [.int x] (fun _ => True)) (vp_Si (fun r => r = ns x)) 0 0 (fun _ => False) := by
  refine Met.ofW (cc := cX0_nextState) (maxL := 1) (ret := (some .int)) (by decide) rfl ?_
  intro p e s m args below meth c s₁ B hml hv
  obtain ⟨rfl, -⟩ := hv
  have hx := B.exec
  have hb := B.bytes
  have hr := B.returns
  have hts := atoms_spec (ws := wsX0_nextState) B.pre
  have hown : s.vm.findClass RX0 = some m.cls := findClass_of_methodNamed B.named
  have hlocks := B.notSynchronized
  have hl := lv_entry ([.int x]) (n := 1) (Nat.le_of_ble_eq_true rfl)
  rw [lg_entry_eq]
  generalize (lg_sl ([.int x]) ++ List.replicate (1 - (lg_sl ([.int x])).length) Slot.unset).toArray = ls at hl ⊢
  have hl : lv_has ls 1 [(0, .int x)] := hl
  refine lv_iload_n hx hb dX0_nextState_0 rfl (lv_at hl 0 rfl) ?_
  refine lv_ldc hx hb hown (hts (.constant RX0 91 (1664525)) (by decide +kernel)) dX0_nextState_1 ?_
  refine lv_imul hx hb dX0_nextState_3 ?_
  refine lv_ldc hx hb hown (hts (.constant RX0 92 (1013904223)) (by decide +kernel)) dX0_nextState_4 ?_
  refine lv_iadd hx hb dX0_nextState_6 ?_
  exact W.iret (v := (x * 1664525) + 1013904223) hx hb hr (fun t ht hW => ⟨(x * 1664525) + 1013904223, rfl, rfl, ht⟩) (fun _ h9 => by cases h9) dX0_nextState_7
set_option maxHeartbeats 4000000 in
set_option maxRecDepth 100000 in
theorem c_X0_drawn (l : Launch) (x : Int32) : Met l yX0_drawn wsX0_drawn ({ frames := 0, cells := 0, slots := 0, locals := 0 }) (va_Pc [.int x] (fun _ => True)) (vp_Si (fun r => r = nI (dr x))) 0 0 (fun _ => False) := by
  refine Met.ofW (cc := cX0_drawn) (maxL := 1) (ret := (some .int)) (by decide) rfl ?_
  intro p e s m args below meth c s₁ B hml hv
  obtain ⟨rfl, -⟩ := hv
  have hx := B.exec
  have hb := B.bytes
  have hr := B.returns
  have hts := atoms_spec (ws := wsX0_drawn) B.pre
  have hown : s.vm.findClass RX0 = some m.cls := findClass_of_methodNamed B.named
  have hlocks := B.notSynchronized
  have hl := lv_entry ([.int x]) (n := 1) (Nat.le_of_ble_eq_true rfl)
  rw [lg_entry_eq]
  generalize (lg_sl ([.int x]) ++ List.replicate (1 - (lg_sl ([.int x])).length) Slot.unset).toArray = ls at hl ⊢
  have hl : lv_has ls 1 [(0, .int x)] := hl
  refine lv_iload_n hx hb dX0_drawn_0 rfl (lv_at hl 0 rfl) ?_
  refine lv_bipush (v := 16) hx hb dX0_drawn_1 (by decide) ?_
  refine lv_iushr (v := (x.toUInt32 >>> ((16 : Int32).toUInt32 &&& Int32.toUInt32 31)).toInt32) hx hb dX0_drawn_3 rfl ?_
  exact W.iret (v := (x.toUInt32 >>> ((16 : Int32).toUInt32 &&& Int32.toUInt32 31)).toInt32) hx hb hr (fun t ht hW => ⟨(x.toUInt32 >>> ((16 : Int32).toUInt32 &&& Int32.toUInt32 31)).toInt32, rfl, dr_sh x, ht⟩) (fun _ h9 => by cases h9) dX0_drawn_4
set_option maxHeartbeats 4000000 in
set_option maxRecDepth 100000 in
theorem c_X0_hasBit (l : Launch) (x : Int32) (i : Nat) (hi : i < 32) : Met l yX0_hasBit wsX0_hasBit ({ frames := 0, cells := 0, slots := 0, locals := 0 }) (va_Pc [.int x, .int (nI i)] (fun _ => True)) (vp_Si (fun r => r = (if bt x i then 1 else 0))) 0 0 (fun _ => False) := by
  refine Met.ofW (cc := cX0_hasBit) (maxL := 2) (ret := (some .boolean)) (by decide) rfl ?_
  intro p e s m args below meth c s₁ B hml hv
  obtain ⟨rfl, -⟩ := hv
  have hx := B.exec
  have hb := B.bytes
  have hr := B.returns
  have hts := atoms_spec (ws := wsX0_hasBit) B.pre
  have hown : s.vm.findClass RX0 = some m.cls := findClass_of_methodNamed B.named
  have hlocks := B.notSynchronized
  have hl := lv_entry ([.int x, .int (nI i)]) (n := 2) (Nat.le_of_ble_eq_true rfl)
  rw [lg_entry_eq]
  generalize (lg_sl ([.int x, .int (nI i)]) ++ List.replicate (2 - (lg_sl ([.int x, .int (nI i)])).length) Slot.unset).toArray = ls at hl ⊢
  have hl : lv_has ls 2 [(0, .int x), (1, .int (nI i))] := hl
  refine lv_iload_n hx hb dX0_hasBit_0 rfl (lv_at hl 0 rfl) ?_
  refine lv_iload_n hx hb dX0_hasBit_1 rfl (lv_at hl 1 rfl) ?_
  refine lv_iushr (v := (x.toUInt32 >>> ((nI i).toUInt32 &&& Int32.toUInt32 31)).toInt32) hx hb dX0_hasBit_2 rfl ?_
  refine lv_iconst (v := 1) hx hb dX0_hasBit_3 (by decide) ?_
  refine lv_iand hx hb dX0_hasBit_4 ?_
  refine lv_if_eq (tgt := 12) hx hb dX0_hasBit_5 (by decide) (fun c1 => ?_) (fun c1 => ?_)
  · skip
    refine lv_iconst (v := 0) hx hb dX0_hasBit_12 (by decide) ?_
    exact W.zret (v := 0) hx hb hr (by rfl) (fun t ht hW => ⟨0, rfl, by show (0 : Int32) = _; rw [(hb_bit x hi).mp c1]; rfl, ht⟩) (fun _ h9 => by cases h9) dX0_hasBit_13
  · skip
    refine lv_iconst (v := 1) hx hb dX0_hasBit_8 (by decide) ?_
    refine lv_goto (tgt := 13) hx hb dX0_hasBit_9 (by decide) ?_
    exact W.zret (v := 1) hx hb hr (by rfl) (fun t ht hW => ⟨1, rfl, by show (1 : Int32) = _; rw [ts_nf (fun h => c1 ((hb_bit x hi).mpr h))]; rfl, ht⟩) (fun _ h9 => by cases h9) dX0_hasBit_13
set_option maxHeartbeats 4000000 in
set_option maxRecDepth 100000 in
theorem c_X0_isInRow (l : Launch) (dC : Nat → ClassId) (dI : Nat → Nat → Nat) (ad : Nat → Nat) (cI : ClassId) (K : Nat) (row S V : Nat → Int32) (dc : Int32) (kw ko : Nat → Int32) (kb : Int32) (qu : Nat → Int32) (qe cl : Int32) (hK1 : 1 ≤ K) (hK2 : K ≤ 32) (i : Int32) : Met l yX0_isInRow wsX0_isInRow ({ frames := 0, cells := 0, slots := 0, locals := 0 }) (va_Pc [.ref (ad 0), .int i] (rB dC dI [(cI, .int)] (xW ad cI K row S V dc kw ko kb qu qe cl))) (vp_Si (fun r => r = (if inR K i then 1 else 0))) 0 0 (fun _ => False) := by
  refine Met.ofW (cc := cX0_isInRow) (maxL := 2) (ret := (some .boolean)) (by decide) rfl ?_
  intro p e s m args below meth c s₁ B hml hv
  obtain ⟨rfl, hP, hK⟩ := hv
  have hx := B.exec
  have hb := B.bytes
  have hr := B.returns
  have hts := atoms_spec (ws := wsX0_isInRow) B.pre
  have hown : s.vm.findClass RX0 = some m.cls := findClass_of_methodNamed B.named
  have hlocks := B.notSynchronized
  have hw0 : ∀ w ∈ wsX00, w ∈ wsX0_isInRow := fun _ h => List.mem_cons_of_mem _ (List.mem_append_right _ h)
  have hl := lv_entry ([.ref (ad 0), .int i]) (n := 2) (Nat.le_of_ble_eq_true rfl)
  rw [lg_entry_eq]
  generalize (lg_sl ([.ref (ad 0), .int i]) ++ List.replicate (2 - (lg_sl ([.ref (ad 0), .int i])).length) Slot.unset).toArray = ls at hl ⊢
  have hl : lv_has ls 2 [(0, .ref (ad 0)), (1, .int i)] := hl
  refine lv_iload_n hx hb dX0_isInRow_0 rfl (lv_at hl 1 rfl) ?_
  refine lv_if_lt (tgt := 16) hx hb dX0_isInRow_1 (by decide) (fun c1 => ?_) (fun c1 => ?_)
  · skip
    refine lv_iconst (v := 0) hx hb dX0_isInRow_16 (by decide) ?_
    exact W.zret (v := 0) hx hb hr (by rfl) (fun t ht hW => ⟨0, rfl, by show (0 : Int32) = _; rw [if_neg (fun h => inR_neg h c1)], ht⟩) (fun _ h9 => by cases h9) dX0_isInRow_17
  · skip
    refine lv_iload_n hx hb dX0_isInRow_4 rfl (lv_at hl 1 rfl) ?_
    refine lv_aload_n hx hb dX0_isInRow_5 rfl (lv_at hl 0 rfl) ?_
    refine va_get (D := (dC, dI)) (ci := 0) (v := .int (nI K)) (C := RX0) (T := TX0) (N := 11) hx hb hts hw0 hown hK hP 0 rfl rfl 0 (by decide) (hts (.fieldLink RX0 38 "DropCode" "size" "I") (by decide +kernel)) (fun _ h9 => h9) rfl dX0_isInRow_6 ?_
    refine lv_icmp_ge (tgt := 16) hx hb dX0_isInRow_9 (by decide) (fun c2 => ?_) (fun c2 => ?_)
    · skip
      refine lv_iconst (v := 0) hx hb dX0_isInRow_16 (by decide) ?_
      exact W.zret (v := 0) hx hb hr (by rfl) (fun t ht hW => ⟨0, rfl, by show (0 : Int32) = _; rw [if_neg (fun h => inR_ge h c2)], ht⟩) (fun _ h9 => by cases h9) dX0_isInRow_17
    · skip
      refine lv_iconst (v := 1) hx hb dX0_isInRow_12 (by decide) ?_
      refine lv_goto (tgt := 17) hx hb dX0_isInRow_13 (by decide) ?_
      exact W.zret (v := 1) hx hb hr (by rfl) (fun t ht hW => ⟨1, rfl, by show (1 : Int32) = _; rw [if_pos (inR_of c1 c2)], ht⟩) (fun _ h9 => by cases h9) dX0_isInRow_17
set_option maxHeartbeats 4000000 in
set_option maxRecDepth 100000 in
theorem c_X0_degreeOf (l : Launch) (dC : Nat → ClassId) (dI : Nat → Nat → Nat) (ad : Nat → Nat) (cI : ClassId) (K : Nat) (row S V : Nat → Int32) (dc : Int32) (kw ko : Nat → Int32) (kb : Int32) (qu : Nat → Int32) (qe cl : Int32) (hK1 : 1 ≤ K) (hK2 : K ≤ 32) (q : Nat) (hq : q < 65536) : Met l yX0_degreeOf wsX0_degreeOf ({ frames := 0, cells := 0, slots := 0, locals := 0 }) (va_Pc [.ref (ad 0), .int (nI q)] (rB dC dI [(cI, .int)] (xW ad cI K row S V dc kw ko kb qu qe cl))) (vp_Si (fun r => r = nI (dg K q))) 0 0 (fun _ => False) := by
  refine Met.ofW (cc := cX0_degreeOf) (maxL := 4) (ret := (some .int)) (by decide) rfl ?_
  intro p e s m args below meth c s₁ B hml hv
  obtain ⟨rfl, hP, hK⟩ := hv
  have hx := B.exec
  have hb := B.bytes
  have hr := B.returns
  have hts := atoms_spec (ws := wsX0_degreeOf) B.pre
  have hown : s.vm.findClass RX0 = some m.cls := findClass_of_methodNamed B.named
  have hlocks := B.notSynchronized
  have hw0 : ∀ w ∈ wsX00, w ∈ wsX0_degreeOf := fun _ h => List.mem_cons_of_mem _ (List.mem_append_right _ h)
  have hl := lv_entry ([.ref (ad 0), .int (nI q)]) (n := 4) (Nat.le_of_ble_eq_true rfl)
  rw [lg_entry_eq]
  generalize (lg_sl ([.ref (ad 0), .int (nI q)]) ++ List.replicate (4 - (lg_sl ([.ref (ad 0), .int (nI q)])).length) Slot.unset).toArray = ls at hl ⊢
  have hl : lv_has ls 4 [(0, .ref (ad 0)), (1, .int (nI q))] := hl
  refine lv_ldc hx hb hown (hts (.constant RX0 93 (65536)) (by decide +kernel)) dX0_degreeOf_0 ?_
  refine lv_aload_n hx hb dX0_degreeOf_2 rfl (lv_at hl 0 rfl) ?_
  refine va_get (D := (dC, dI)) (ci := 0) (v := .int (nI K)) (C := RX0) (T := TX0) (N := 11) hx hb hts hw0 hown hK hP 0 rfl rfl 0 (by decide) (hts (.fieldLink RX0 38 "DropCode" "size" "I") (by decide +kernel)) (fun _ h9 => h9) rfl dX0_degreeOf_3 ?_
  refine lv_idiv hx hb dX0_degreeOf_6 (nI_ne0 hK1 (by omega)) ?_
  refine lv_topi (fun z_1 ez_1 => ?_)
  have ez_1 : z_1 = nI (65536 / K) := ez_1.trans (pk_div (a := 65536) (by omega) hK1 (by omega))
  subst ez_1
  refine lv_istore_n (lv' := [(2, .int (nI (65536 / K))), (0, .ref (ad 0)), (1, .int (nI q))]) hx hb dX0_degreeOf_7 rfl hl (by decide) rfl (fun ls hl => ?_)
  refine lv_iconst (v := 1) hx hb dX0_degreeOf_8 (by decide) ?_
  refine lv_istore_n (lv' := [(3, .int 1), (2, .int (nI (65536 / K))), (0, .ref (ad 0)), (1, .int (nI q))]) hx hb dX0_degreeOf_9 rfl hl (by decide) rfl (fun ls hl => ?_)
  have key : ∀ (n d sum : Nat) (ls : Array Slot), 1 ≤ d → d ≤ K → K ≤ d + n → sum ≤ 65536 * d → dgF K q n d sum = dg K q → lv_has ls 4 [(3, .int (nI d)), (2, .int (nI sum)), (0, .ref (ad 0)), (1, .int (nI q))] → W p l e (headSpec wsX0_degreeOf ({ frames := 0, cells := 0, slots := 0, locals := 0 })).room s m ([.ref (ad 0), .int (nI q)] : List Value).toArray below meth c s.heap [] 0 0 (MQ below (vp_Si (fun r => r = nI (dg K q))) ([.ref (ad 0), .int (nI q)] : List Value).toArray s 0 0 (fun _ => False)) (F0 m 10 ls []) := by
    intro n
    induction n with
    | zero =>
      intro d sum ls hd1 hd2 hn hsum hv hl
      have hdK : d = K := by omega
      refine lv_iload_n hx hb dX0_degreeOf_10 rfl (lv_at hl 0 rfl) ?_
      refine lv_aload_n hx hb dX0_degreeOf_11 rfl (lv_at hl 2 rfl) ?_
      refine va_get (D := (dC, dI)) (ci := 0) (v := .int (nI K)) (C := RX0) (T := TX0) (N := 11) hx hb hts hw0 hown hK hP 0 rfl rfl 0 (by decide) (hts (.fieldLink RX0 38 "DropCode" "size" "I") (by decide +kernel)) (fun _ h9 => h9) rfl dX0_degreeOf_12 ?_
      refine lv_icmp_ge (tgt := 42) hx hb dX0_degreeOf_15 (by decide) (fun c1 => ?_) (fun c1 => ?_)
      · skip
        refine lv_aload_n hx hb dX0_degreeOf_42 rfl (lv_at hl 2 rfl) ?_
        refine va_get (D := (dC, dI)) (ci := 0) (v := .int (nI K)) (C := RX0) (T := TX0) (N := 11) hx hb hts hw0 hown hK hP 0 rfl rfl 0 (by decide) (hts (.fieldLink RX0 38 "DropCode" "size" "I") (by decide +kernel)) (fun _ h9 => h9) rfl dX0_degreeOf_43 ?_
        exact W.iret (v := nI K) hx hb hr (fun t ht hW => ⟨nI K, rfl, by show nI K = _; rw [← hv, ← hdK]; rfl, ht⟩) (fun _ h9 => by cases h9) dX0_degreeOf_46
      · skip
        exact absurd (nI_le (by omega) (by omega)) c1
    | succ n ih =>
      intro d sum ls hd1 hd2 hn hsum hv hl
      refine lv_iload_n hx hb dX0_degreeOf_10 rfl (lv_at hl 0 rfl) ?_
      refine lv_aload_n hx hb dX0_degreeOf_11 rfl (lv_at hl 2 rfl) ?_
      refine va_get (D := (dC, dI)) (ci := 0) (v := .int (nI K)) (C := RX0) (T := TX0) (N := 11) hx hb hts hw0 hown hK hP 0 rfl rfl 0 (by decide) (hts (.fieldLink RX0 38 "DropCode" "size" "I") (by decide +kernel)) (fun _ h9 => h9) rfl dX0_degreeOf_12 ?_
      refine lv_icmp_ge (tgt := 42) hx hb dX0_degreeOf_15 (by decide) (fun c1 => ?_) (fun c1 => ?_)
      · skip
        have hdK : d = K := by rcases Nat.lt_or_ge d K with a | a; exact absurd c1 (nI_ge a (by omega)); omega
        refine lv_aload_n hx hb dX0_degreeOf_42 rfl (lv_at hl 2 rfl) ?_
        refine va_get (D := (dC, dI)) (ci := 0) (v := .int (nI K)) (C := RX0) (T := TX0) (N := 11) hx hb hts hw0 hown hK hP 0 rfl rfl 0 (by decide) (hts (.fieldLink RX0 38 "DropCode" "size" "I") (by decide +kernel)) (fun _ h9 => h9) rfl dX0_degreeOf_43 ?_
        exact W.iret (v := nI K) hx hb hr (fun t ht hW => ⟨nI K, rfl, by rw [← hv, dgF_out (by omega), hdK], ht⟩) (fun _ h9 => by cases h9) dX0_degreeOf_46
      · skip
        have hdK : d < K := by rcases Nat.lt_or_ge d K with a | a; exact a; exact absurd (nI_le a (by omega)) c1
        refine lv_iload_n hx hb dX0_degreeOf_18 rfl (lv_at hl 3 rfl) ?_
        refine lv_iload_n hx hb dX0_degreeOf_19 rfl (lv_at hl 1 rfl) ?_
        refine lv_icmp_ge (tgt := 25) hx hb dX0_degreeOf_20 (by decide) (fun c2 => ?_) (fun c2 => ?_)
        · skip
          have hsq : sum ≤ q := by rcases Nat.lt_or_ge q sum with a | a; exact absurd c2 (nI_ge a (by omega)); exact a
          refine lv_iload_n hx hb dX0_degreeOf_25 rfl (lv_at hl 1 rfl) ?_
          refine lv_ldc hx hb hown (hts (.constant RX0 93 (65536)) (by decide +kernel)) dX0_degreeOf_26 ?_
          refine lv_iload_n hx hb dX0_degreeOf_28 rfl (lv_at hl 0 rfl) ?_
          refine lv_iconst (v := 1) hx hb dX0_degreeOf_29 (by decide) ?_
          refine lv_iadd hx hb dX0_degreeOf_30 ?_
          refine lv_topi (fun z_2 ez_2 => ?_)
          have ez_2 : z_2 = nI (d + 1) := ez_2.trans (nI_1 d)
          subst ez_2
          refine lv_iload_n hx hb dX0_degreeOf_31 rfl (lv_at hl 0 rfl) ?_
          refine lv_imul hx hb dX0_degreeOf_32 ?_
          refine lv_topi (fun z_3 ez_3 => ?_)
          have ez_3 : z_3 = nI ((d + 1) * d) := ez_3.trans (pk_mul _ _)
          subst ez_3
          refine lv_idiv hx hb dX0_degreeOf_33 (dg_ne d hd1 (by omega)) ?_
          refine lv_topi (fun z_4 ez_4 => ?_)
          have ez_4 : z_4 = nI (65536 / ((d + 1) * d)) := ez_4.trans (pk_div (a := 65536) (by omega) (dg_pos d hd1) (dg_sm d (by omega)))
          subst ez_4
          refine lv_iadd hx hb dX0_degreeOf_34 ?_
          refine lv_topi (fun z_5 ez_5 => ?_)
          have ez_5 : z_5 = nI (sum + 65536 / ((d + 1) * d)) := ez_5.trans (nI_add _ _)
          subst ez_5
          refine lv_istore_n (lv' := [(2, .int (nI (sum + 65536 / ((d + 1) * d)))), (3, .int (nI d)), (0, .ref (ad 0)), (1, .int (nI q))]) hx hb dX0_degreeOf_35 rfl hl (by decide) rfl (fun ls hl => ?_)
          refine lv_iinc (v := nI (d + 1)) (lv' := [(3, .int (nI (d + 1))), (2, .int (nI (sum + 65536 / ((d + 1) * d)))), (0, .ref (ad 0)), (1, .int (nI q))]) hx hb dX0_degreeOf_36 hl (k := 1) rfl ((nI_1 d)) (by decide) rfl (fun ls hl => ?_)
          refine lv_goto (tgt := 10) hx hb dX0_degreeOf_39 (by decide) ?_
          exact ih (d + 1) (sum + 65536 / ((d + 1) * d)) ls (by omega) hdK (by omega) (dg_sum d sum hd1 hsum) (by rw [← hv, dgF_in hdK hsq]) (lv_sub hl [0, 1, 2, 3] rfl)
        · skip
          refine lv_iload_n hx hb dX0_degreeOf_23 rfl (lv_at hl 0 rfl) ?_
          exact W.iret (v := nI d) hx hb hr (fun t ht hW => ⟨nI d, rfl, by rw [← hv, dgF_out (fun h => c2 (nI_le h.2 (by omega)))], ht⟩) (fun _ h9 => by cases h9) dX0_degreeOf_24
  exact key K 1 (65536 / K) ls (Nat.le_refl 1) hK1 (by omega) (dg_s0 K) rfl (lv_sub hl [0, 1, 2, 3] rfl)
set_option maxHeartbeats 4000000 in
set_option maxRecDepth 100000 in
theorem c_X0_setOf (l : Launch) (dC : Nat → ClassId) (dI : Nat → Nat → Nat) (ad : Nat → Nat) (cI : ClassId) (K : Nat) (row S V : Nat → Int32) (dc : Int32) (kw ko : Nat → Int32) (kb : Int32) (qu : Nat → Int32) (qe cl : Int32) (hK1 : 1 ≤ K) (hK2 : K ≤ 32) (seed : Int32) : Met l yX0_setOf wsX0_setOf ({ frames := 1, cells := 0, slots := 0, locals := 23 }) (va_Pc [.ref (ad 0), .int seed] (rB dC dI [(cI, .int)] (xW ad cI K row S V dc kw ko kb qu qe cl))) (vp_Si (fun r => r = setA K seed)) 0 0 (fun _ => False) := by
  refine Met.ofW (cc := cX0_setOf) (maxL := 6) (ret := (some .int)) (by decide) rfl ?_
  intro p e s m args below meth c s₁ B hml hv
  obtain ⟨rfl, hP, hK⟩ := hv
  have hx := B.exec
  have hb := B.bytes
  have hr := B.returns
  have hts := atoms_spec (ws := wsX0_setOf) B.pre
  have hown : s.vm.findClass RX0 = some m.cls := findClass_of_methodNamed B.named
  have hlocks := B.notSynchronized
  have hw0 : ∀ w ∈ wsX00, w ∈ wsX0_setOf := fun _ h => List.mem_cons_of_mem _ (List.mem_append_right _ h)
  have hl := lv_entry ([.ref (ad 0), .int seed]) (n := 6) (Nat.le_of_ble_eq_true rfl)
  rw [lg_entry_eq]
  generalize (lg_sl ([.ref (ad 0), .int seed]) ++ List.replicate (6 - (lg_sl ([.ref (ad 0), .int seed])).length) Slot.unset).toArray = ls at hl ⊢
  have hl : lv_has ls 6 [(0, .ref (ad 0)), (1, .int seed)] := hl
  obtain ⟨N, hN, hset, hd, hlt⟩ := setA_ok hK1 hK2 seed
  rw [hset]
  rw [hset] at hd
  refine lv_iload_n hx hb dX0_setOf_0 rfl (lv_at hl 1 rfl) ?_
  refine vp_callSi (W.runS (As := [.int seed]) (rest := []) ⟨hx, hb, hml, hown, hts⟩ (c_X0_nextState l seed) (va_cwS 1 hts gX0_setOf_X0_nextState rfl rfl rfl (by decide +kernel) ⟨Nat.le_of_ble_eq_true rfl, Nat.le_of_ble_eq_true rfl⟩) ⟨pFb, fun U hU hW => ⟨rfl, trivial⟩⟩ rfl rfl hl.1 rfl (lv_room (Nat.le_of_ble_eq_true rfl)) dX0_setOf_1 ⟨Nat.zero_le _, Nat.zero_le _⟩) (fun r_1 er_1 => ?_)
  subst er_1
  refine lv_istore_n (lv' := [(2, .int (ns seed)), (0, .ref (ad 0)), (1, .int seed)]) hx hb dX0_setOf_4 rfl hl (by decide) rfl (fun ls hl => ?_)
  refine lv_aload_n hx hb dX0_setOf_5 rfl (lv_at hl 1 rfl) ?_
  refine lv_iload_n hx hb dX0_setOf_6 rfl (lv_at hl 0 rfl) ?_
  refine vp_callSi (W.runS (As := [.int (ns seed)]) (rest := [.ref (ad 0)]) ⟨hx, hb, hml, hown, hts⟩ (c_X0_drawn l (ns seed)) (va_cwS 1 hts gX0_setOf_X0_drawn rfl rfl rfl (by decide +kernel) ⟨Nat.le_of_ble_eq_true rfl, Nat.le_of_ble_eq_true rfl⟩) ⟨pFb, fun U hU hW => ⟨rfl, trivial⟩⟩ rfl rfl hl.1 rfl (lv_room (Nat.le_of_ble_eq_true rfl)) dX0_setOf_7 ⟨Nat.zero_le _, Nat.zero_le _⟩) (fun r_2 er_2 => ?_)
  subst er_2
  refine vp_callSi (W.runV (As := [.int (nI (dr (ns seed)))]) (rest := []) ⟨hx, hb, hml, hown, hts⟩ (c_X0_degreeOf l dC dI ad cI K row S V dc kw ko kb qu qe cl hK1 hK2 _ (dr_lt _)) (cwV 1 hts gX0_setOf_X0_degreeOf rfl rfl rfl (by decide +kernel) ⟨Nat.le_of_ble_eq_true rfl, Nat.le_of_ble_eq_true rfl⟩) ⟨rFb, va_recv hK hP (ci := 0) (q0 := 0) rfl rfl, fun U hU hW => ⟨rfl, by rw [hU]; exact hP, va_K.moved hW.alike hK⟩⟩ rfl rfl hl.1 rfl (lv_room (Nat.le_of_ble_eq_true rfl)) dX0_setOf_10 ⟨Nat.zero_le _, Nat.zero_le _⟩) (fun r_3 er_3 => ?_)
  subst er_3
  refine lv_istore_n (lv' := [(3, .int (nI (dg K (dr (ns seed))))), (2, .int (ns seed)), (0, .ref (ad 0)), (1, .int seed)]) hx hb dX0_setOf_13 rfl hl (by decide) rfl (fun ls hl => ?_)
  refine lv_iconst (v := 0) hx hb dX0_setOf_14 (by decide) ?_
  refine lv_istore (lv' := [(4, .int 0), (3, .int (nI (dg K (dr (ns seed))))), (2, .int (ns seed)), (0, .ref (ad 0)), (1, .int seed)]) hx hb dX0_setOf_15 hl (by decide) rfl (fun ls hl => ?_)
  refine lv_iconst (v := 0) hx hb dX0_setOf_17 (by decide) ?_
  refine lv_istore (lv' := [(5, .int 0), (4, .int 0), (3, .int (nI (dg K (dr (ns seed))))), (2, .int (ns seed)), (0, .ref (ad 0)), (1, .int seed)]) hx hb dX0_setOf_18 hl (by decide) rfl (fun ls hl => ?_)
  have key : ∀ (n i : Nat) (ls : Array Slot), N = i + n → lv_has ls 6 [(5, .int (nI i)), (4, .int (fl K (ns seed) i)), (2, .int (st (ns seed) i)), (3, .int (nI (dg K (dr (ns seed))))), (0, .ref (ad 0)), (1, .int seed)] → W p l e (headSpec wsX0_setOf ({ frames := 1, cells := 0, slots := 0, locals := 23 })).room s m ([.ref (ad 0), .int seed] : List Value).toArray below meth c s.heap [] 0 0 (MQ below (vp_Si (fun r => r = fl K (ns seed) N)) ([.ref (ad 0), .int seed] : List Value).toArray s 0 0 (fun _ => False)) (F0 m 20 ls []) := by
    intro n
    induction n with
    | zero =>
      intro i ls hi hl
      refine lv_iload hx hb dX0_setOf_20 (lv_at hl 0 rfl) ?_
      refine lv_ldc hx hb hown (hts (.constant RX0 94 (1000000)) (by decide +kernel)) dX0_setOf_22 ?_
      refine lv_icmp_ge (tgt := 63) hx hb dX0_setOf_24 (by decide) (fun c1 => ?_) (fun c1 => ?_)
      · skip
        exact absurd c1 (nI_ge (a := i) (b := 1000000) (by omega) (by omega))
      · skip
        refine lv_iload hx hb dX0_setOf_27 (lv_at hl 1 rfl) ?_
        refine vp_callSi (W.runS (As := [.int (fl K (ns seed) i)]) (rest := []) ⟨hx, hb, hml, hown, hts⟩ (c_J6_bitCount_0f7a4 l (fl K (ns seed) i)) (va_cwS 1 hts gX0_setOf_J6_bitCount_0f7a4 rfl rfl rfl (by decide +kernel) ⟨Nat.le_of_ble_eq_true rfl, Nat.le_of_ble_eq_true rfl⟩) ⟨pFb, fun U hU hW => ⟨rfl, trivial⟩⟩ rfl rfl hl.1 rfl (lv_room (Nat.le_of_ble_eq_true rfl)) dX0_setOf_29 ⟨Nat.zero_le _, Nat.zero_le _⟩) (fun r_4 er_4 => ?_)
        subst er_4
        refine lv_iload_n hx hb dX0_setOf_32 rfl (lv_at hl 3 rfl) ?_
        refine lv_icmp_ge (tgt := 63) hx hb dX0_setOf_33 (by decide) (fun c2 => ?_) (fun c2 => ?_)
        · skip
          have hiN : i = N := by omega
          subst hiN
          refine lv_iload hx hb dX0_setOf_63 (lv_at hl 1 rfl) ?_
          exact W.iret (v := fl K (ns seed) i) hx hb hr (fun t ht hW => ⟨fl K (ns seed) i, rfl, rfl, ht⟩) (fun _ h9 => by cases h9) dX0_setOf_65
        · skip
          have hiN : i = N := by omega
          subst hiN
          exact absurd (nI_le hd (by have := pc_le (fl K (ns seed) i); omega)) c2
    | succ n ih =>
      intro i ls hi hl
      refine lv_iload hx hb dX0_setOf_20 (lv_at hl 0 rfl) ?_
      refine lv_ldc hx hb hown (hts (.constant RX0 94 (1000000)) (by decide +kernel)) dX0_setOf_22 ?_
      refine lv_icmp_ge (tgt := 63) hx hb dX0_setOf_24 (by decide) (fun c1 => ?_) (fun c1 => ?_)
      · skip
        exact absurd c1 (nI_ge (a := i) (b := 1000000) (by omega) (by omega))
      · skip
        refine lv_iload hx hb dX0_setOf_27 (lv_at hl 1 rfl) ?_
        refine vp_callSi (W.runS (As := [.int (fl K (ns seed) i)]) (rest := []) ⟨hx, hb, hml, hown, hts⟩ (c_J6_bitCount_0f7a4 l (fl K (ns seed) i)) (va_cwS 1 hts gX0_setOf_J6_bitCount_0f7a4 rfl rfl rfl (by decide +kernel) ⟨Nat.le_of_ble_eq_true rfl, Nat.le_of_ble_eq_true rfl⟩) ⟨pFb, fun U hU hW => ⟨rfl, trivial⟩⟩ rfl rfl hl.1 rfl (lv_room (Nat.le_of_ble_eq_true rfl)) dX0_setOf_29 ⟨Nat.zero_le _, Nat.zero_le _⟩) (fun r_4 er_4 => ?_)
        subst er_4
        refine lv_iload_n hx hb dX0_setOf_32 rfl (lv_at hl 3 rfl) ?_
        refine lv_icmp_ge (tgt := 63) hx hb dX0_setOf_33 (by decide) (fun c2 => ?_) (fun c2 => ?_)
        · skip
          have h3 := hlt i (by omega)
          exact absurd c2 (nI_ge h3 (by have := pc_le (fl K (ns seed) i); have := (dg_le (dr (ns seed)) hK1).2; omega))
        · skip
          refine lv_iload_n hx hb dX0_setOf_36 rfl (lv_at hl 2 rfl) ?_
          refine vp_callSi (W.runS (As := [.int (st (ns seed) i)]) (rest := []) ⟨hx, hb, hml, hown, hts⟩ (c_X0_nextState l (st (ns seed) i)) (va_cwS 1 hts gX0_setOf_X0_nextState rfl rfl rfl (by decide +kernel) ⟨Nat.le_of_ble_eq_true rfl, Nat.le_of_ble_eq_true rfl⟩) ⟨pFb, fun U hU hW => ⟨rfl, trivial⟩⟩ rfl rfl hl.1 rfl (lv_room (Nat.le_of_ble_eq_true rfl)) dX0_setOf_37 ⟨Nat.zero_le _, Nat.zero_le _⟩) (fun r_5 er_5 => ?_)
          subst er_5
          refine lv_topi (fun z_6 ez_6 => ?_)
          have ez_6 : z_6 = st (ns seed) (i + 1) := ez_6.trans (rfl)
          subst ez_6
          refine lv_istore_n (lv' := [(2, .int (st (ns seed) (i + 1))), (5, .int (nI i)), (4, .int (fl K (ns seed) i)), (3, .int (nI (dg K (dr (ns seed))))), (0, .ref (ad 0)), (1, .int seed)]) hx hb dX0_setOf_40 rfl hl (by decide) rfl (fun ls hl => ?_)
          refine lv_iload hx hb dX0_setOf_41 (lv_at hl 2 rfl) ?_
          refine lv_iconst (v := 1) hx hb dX0_setOf_43 (by decide) ?_
          refine lv_iload_n hx hb dX0_setOf_44 rfl (lv_at hl 0 rfl) ?_
          refine vp_callSi (W.runS (As := [.int (st (ns seed) (i + 1))]) (rest := [.int 1, .int (fl K (ns seed) i)]) ⟨hx, hb, hml, hown, hts⟩ (c_X0_drawn l (st (ns seed) (i + 1))) (va_cwS 1 hts gX0_setOf_X0_drawn rfl rfl rfl (by decide +kernel) ⟨Nat.le_of_ble_eq_true rfl, Nat.le_of_ble_eq_true rfl⟩) ⟨pFb, fun U hU hW => ⟨rfl, trivial⟩⟩ rfl rfl hl.1 rfl (lv_room (Nat.le_of_ble_eq_true rfl)) dX0_setOf_45 ⟨Nat.zero_le _, Nat.zero_le _⟩) (fun r_7 er_7 => ?_)
          subst er_7
          refine lv_aload_n hx hb dX0_setOf_48 rfl (lv_at hl 4 rfl) ?_
          refine va_get (D := (dC, dI)) (ci := 0) (v := .int (nI K)) (C := RX0) (T := TX0) (N := 11) hx hb hts hw0 hown hK hP 0 rfl rfl 0 (by decide) (hts (.fieldLink RX0 38 "DropCode" "size" "I") (by decide +kernel)) (fun _ h9 => h9) rfl dX0_setOf_49 ?_
          refine lv_irem hx hb dX0_setOf_52 (nI_ne0 hK1 (by omega)) ?_
          refine lv_topi (fun z_8 ez_8 => ?_)
          have ez_8 : z_8 = nI (dr (st (ns seed) (i + 1)) % K) := ez_8.trans (pk_rem (by have := dr_lt (st (ns seed) (i + 1)); omega) hK1 (by omega))
          subst ez_8
          refine lv_ishl hx hb dX0_setOf_53 ?_
          refine lv_topi (fun z_9 ez_9 => ?_)
          have ez_9 : z_9 = tw (dr (st (ns seed) (i + 1)) % K) := ez_9.trans (rfl)
          subst ez_9
          refine lv_ior hx hb dX0_setOf_54 ?_
          refine lv_topi (fun z_10 ez_10 => ?_)
          have ez_10 : z_10 = fl K (ns seed) (i + 1) := ez_10.trans (rfl)
          subst ez_10
          refine lv_istore (lv' := [(4, .int (fl K (ns seed) (i + 1))), (2, .int (st (ns seed) (i + 1))), (5, .int (nI i)), (3, .int (nI (dg K (dr (ns seed))))), (0, .ref (ad 0)), (1, .int seed)]) hx hb dX0_setOf_55 hl (by decide) rfl (fun ls hl => ?_)
          refine lv_iinc (v := nI (i + 1)) (lv' := [(5, .int (nI (i + 1))), (4, .int (fl K (ns seed) (i + 1))), (2, .int (st (ns seed) (i + 1))), (3, .int (nI (dg K (dr (ns seed))))), (0, .ref (ad 0)), (1, .int seed)]) hx hb dX0_setOf_57 hl (k := 2) rfl (nI_1 i) (by decide) rfl (fun ls hl => ?_)
          refine lv_goto (tgt := 20) hx hb dX0_setOf_60 (by decide) ?_
          exact ih (i + 1) ls (by omega) (lv_sub hl [0, 1, 2, 3, 4, 5] rfl)
  exact key N 0 ls (by omega) (lv_sub hl [0, 1, 3, 2, 4, 5] rfl)
set_option maxHeartbeats 4000000 in
set_option maxRecDepth 100000 in
theorem c_X0_xorOf (l : Launch) (dC : Nat → ClassId) (dI : Nat → Nat → Nat) (a : Nat) (cI : ClassId) (n : Nat) (hn : n ≤ 32) (f : Nat → Int32) (b : Int32) : Met l yX0_xorOf wsX0_xorOf ({ frames := 1, cells := 0, slots := 0, locals := 21 }) (va_Pc [.ref a, .int b] (rB dC dI [(cI, .int)] [(a, .inl (cI, n, .inl f))])) (vp_Si (fun r => r = xf f b n)) 0 0 (fun _ => False) := by
  refine Met.ofW (cc := cX0_xorOf) (maxL := 4) (ret := (some .int)) (by decide) rfl ?_
  intro p e s m args below meth c s₁ B hml hv
  obtain ⟨rfl, hP, hK⟩ := hv
  have hx := B.exec
  have hb := B.bytes
  have hr := B.returns
  have hts := atoms_spec (ws := wsX0_xorOf) B.pre
  have hown : s.vm.findClass RX0 = some m.cls := findClass_of_methodNamed B.named
  have hlocks := B.notSynchronized
  have hl := lv_entry ([.ref a, .int b]) (n := 4) (Nat.le_of_ble_eq_true rfl)
  rw [lg_entry_eq]
  generalize (lg_sl ([.ref a, .int b]) ++ List.replicate (4 - (lg_sl ([.ref a, .int b])).length) Slot.unset).toArray = ls at hl ⊢
  have hl : lv_has ls 4 [(0, .ref a), (1, .int b)] := hl
  refine lv_iconst (v := 0) hx hb dX0_xorOf_0 (by decide) ?_
  refine lv_istore_n (lv' := [(2, .int 0), (0, .ref a), (1, .int b)]) hx hb dX0_xorOf_1 rfl hl (by decide) rfl (fun ls hl => ?_)
  refine lv_iconst (v := 0) hx hb dX0_xorOf_2 (by decide) ?_
  refine lv_istore_n (lv' := [(3, .int 0), (2, .int 0), (0, .ref a), (1, .int b)]) hx hb dX0_xorOf_3 rfl hl (by decide) rfl (fun ls hl => ?_)
  have key : ∀ (m9 i : Nat) (ls : Array Slot), n = i + m9 → lv_has ls 4 [(3, .int (nI i)), (2, .int (xf f b i)), (0, .ref a), (1, .int b)] → W p l e (headSpec wsX0_xorOf ({ frames := 1, cells := 0, slots := 0, locals := 21 })).room s m ([.ref a, .int b] : List Value).toArray below meth c s.heap [] 0 0 (MQ below (vp_Si (fun r => r = xf f b n)) ([.ref a, .int b] : List Value).toArray s 0 0 (fun _ => False)) (F0 m 4 ls []) := by
    intro m9
    induction m9 with
    | zero =>
      intro i ls hi hl
      have hin : i = n := by omega
      subst hin
      refine lv_iload_n hx hb dX0_xorOf_4 rfl (lv_at hl 0 rfl) ?_
      refine lv_aload_n hx hb dX0_xorOf_5 rfl (lv_at hl 2 rfl) ?_
      refine va_alen (v := nI i) hx hb hK hP 0 0 rfl rfl rfl dX0_xorOf_6 ?_
      refine lv_icmp_ge (tgt := 30) hx hb dX0_xorOf_7 (by decide) (fun c1 => ?_) (fun c1 => ?_)
      · skip
        refine lv_iload_n hx hb dX0_xorOf_30 rfl (lv_at hl 1 rfl) ?_
        exact W.iret (v := xf f b i) hx hb hr (fun t ht hW => ⟨xf f b i, rfl, rfl, ht⟩) (fun _ h9 => by cases h9) dX0_xorOf_31
      · skip
        exact absurd (Int32.le_refl _) c1
    | succ m9 ih =>
      intro i ls hi hl
      have hin : i < n := by omega
      refine lv_iload_n hx hb dX0_xorOf_4 rfl (lv_at hl 0 rfl) ?_
      refine lv_aload_n hx hb dX0_xorOf_5 rfl (lv_at hl 2 rfl) ?_
      refine va_alen (v := nI n) hx hb hK hP 0 0 rfl rfl rfl dX0_xorOf_6 ?_
      refine lv_icmp_ge (tgt := 30) hx hb dX0_xorOf_7 (by decide) (fun c1 => ?_) (fun c1 => ?_)
      · skip
        exact absurd c1 (nI_ge hin (by omega))
      · skip
        refine lv_iload_n hx hb dX0_xorOf_10 rfl (lv_at hl 3 rfl) ?_
        refine lv_iload_n hx hb dX0_xorOf_11 rfl (lv_at hl 0 rfl) ?_
        refine vp_callSi (W.runS (As := [.int b, .int (nI i)]) (rest := []) ⟨hx, hb, hml, hown, hts⟩ (c_X0_hasBit l b i (by omega)) (va_cwS 2 hts gX0_xorOf_X0_hasBit rfl rfl rfl (by decide +kernel) ⟨Nat.le_of_ble_eq_true rfl, Nat.le_of_ble_eq_true rfl⟩) ⟨pFb, fun U hU hW => ⟨rfl, trivial⟩⟩ rfl rfl hl.1 rfl (lv_room (Nat.le_of_ble_eq_true rfl)) dX0_xorOf_12 ⟨Nat.zero_le _, Nat.zero_le _⟩) (fun r_1 er_1 => ?_)
        subst er_1
        cases hbi : bt b i with
        | false =>
          rw [if_neg Bool.false_ne_true]
          refine lv_if_eq (tgt := 24) hx hb dX0_xorOf_15 (by decide) (fun c3 => ?_) (fun c3 => ?_)
          · skip
            refine lv_iinc (v := nI (i + 1)) (lv' := [(3, .int (nI (i + 1))), (2, .int (xf f b i)), (0, .ref a), (1, .int b)]) hx hb dX0_xorOf_24 hl (k := 0) rfl (nI_1 i) (by decide) rfl (fun ls hl => ?_)
            refine lv_goto (tgt := 4) hx hb dX0_xorOf_27 (by decide) ?_
            have hxf : xf f b i = xf f b (i + 1) := by rw [xf, if_neg (by rw [hbi]; exact Bool.false_ne_true)]
            rw [hxf] at hl
            exact ih (i + 1) ls (by omega) (lv_sub hl [0, 1, 2, 3] rfl)
          · skip
            exact absurd rfl c3
        | true =>
          rw [if_pos rfl]
          refine lv_if_eq (tgt := 24) hx hb dX0_xorOf_15 (by decide) (fun c3 => ?_) (fun c3 => ?_)
          · skip
            exact absurd c3 (by decide)
          · skip
            refine lv_iload_n hx hb dX0_xorOf_18 rfl (lv_at hl 1 rfl) ?_
            refine lv_aload_n hx hb dX0_xorOf_19 rfl (lv_at hl 2 rfl) ?_
            refine lv_iload_n hx hb dX0_xorOf_20 rfl (lv_at hl 0 rfl) ?_
            refine va_iald (i := nI i) hx hb hK hP 0 0 rfl rfl (vp_in_nI hin (by omega)) dX0_xorOf_21 ?_
            rw [nI_clamp (by omega)]
            refine lv_ixor hx hb dX0_xorOf_22 ?_
            refine lv_topi (fun z_2 ez_2 => ?_)
            have ez_2 : z_2 = xf f b (i + 1) := ez_2.trans (by rw [xf, if_pos hbi])
            subst ez_2
            refine lv_istore_n (lv' := [(2, .int (xf f b (i + 1))), (3, .int (nI i)), (0, .ref a), (1, .int b)]) hx hb dX0_xorOf_23 rfl hl (by decide) rfl (fun ls hl => ?_)
            refine lv_iinc (v := nI (i + 1)) (lv' := [(3, .int (nI (i + 1))), (2, .int (xf f b (i + 1))), (0, .ref a), (1, .int b)]) hx hb dX0_xorOf_24 hl (k := 1) rfl (nI_1 i) (by decide) rfl (fun ls hl => ?_)
            refine lv_goto (tgt := 4) hx hb dX0_xorOf_27 (by decide) ?_
            exact ih (i + 1) ls (by omega) (lv_sub hl [0, 1, 2, 3] rfl)
  exact key n 0 ls (by omega) (lv_sub hl [0, 1, 2, 3] rfl)
set_option maxHeartbeats 4000000 in
set_option maxRecDepth 100000 in
theorem c_X0_isKnown (l : Launch) (dC : Nat → ClassId) (dI : Nat → Nat → Nat) (ad : Nat → Nat) (cI : ClassId) (K : Nat) (row S V : Nat → Int32) (dc : Int32) (kw ko : Nat → Int32) (kb : Int32) (qu : Nat → Int32) (qe cl : Int32) (i : Nat) (hi : i < 32) : Met l yX0_isKnown wsX0_isKnown ({ frames := 1, cells := 0, slots := 0, locals := 21 }) (va_Pc [.ref (ad 0), .int (nI i)] (rB dC dI [(cI, .int)] (xW ad cI K row S V dc kw ko kb qu qe cl))) (vp_Si (fun r => r = (if bt kb i then 1 else 0))) 0 0 (fun _ => False) := by
  refine Met.ofW (cc := cX0_isKnown) (maxL := 2) (ret := (some .boolean)) (by decide) rfl ?_
  intro p e s m args below meth c s₁ B hml hv
  obtain ⟨rfl, hP, hK⟩ := hv
  have hx := B.exec
  have hb := B.bytes
  have hr := B.returns
  have hts := atoms_spec (ws := wsX0_isKnown) B.pre
  have hown : s.vm.findClass RX0 = some m.cls := findClass_of_methodNamed B.named
  have hlocks := B.notSynchronized
  have hw0 : ∀ w ∈ wsX00, w ∈ wsX0_isKnown := fun _ h => List.mem_cons_of_mem _ (List.mem_append_right _ h)
  have hl := lv_entry ([.ref (ad 0), .int (nI i)]) (n := 2) (Nat.le_of_ble_eq_true rfl)
  rw [lg_entry_eq]
  generalize (lg_sl ([.ref (ad 0), .int (nI i)]) ++ List.replicate (2 - (lg_sl ([.ref (ad 0), .int (nI i)])).length) Slot.unset).toArray = ls at hl ⊢
  have hl : lv_has ls 2 [(0, .ref (ad 0)), (1, .int (nI i))] := hl
  refine lv_aload_n hx hb dX0_isKnown_0 rfl (lv_at hl 0 rfl) ?_
  refine va_get (D := (dC, dI)) (ci := 0) (v := .int kb) (C := RX0) (T := TX0) (N := 11) hx hb hts hw0 hown hK hP 0 rfl rfl 7 (by decide) (hts (.fieldLink RX0 20 "DropCode" "knownBits" "I") (by decide +kernel)) (fun _ h9 => h9) rfl dX0_isKnown_1 ?_
  refine lv_iload_n hx hb dX0_isKnown_4 rfl (lv_at hl 1 rfl) ?_
  refine vp_callSi (W.runS (As := [.int kb, .int (nI i)]) (rest := []) ⟨hx, hb, hml, hown, hts⟩ (c_X0_hasBit l kb i hi) (va_cwS 2 hts gX0_isKnown_X0_hasBit rfl rfl rfl (by decide +kernel) ⟨Nat.le_of_ble_eq_true rfl, Nat.le_of_ble_eq_true rfl⟩) ⟨pFb, fun U hU hW => ⟨rfl, trivial⟩⟩ rfl rfl hl.1 rfl (lv_room (Nat.le_of_ble_eq_true rfl)) dX0_isKnown_5 ⟨Nat.zero_le _, Nat.zero_le _⟩) (fun r_1 er_1 => ?_)
  subst er_1
  exact W.zret (v := (if bt kb i then 1 else 0)) hx hb hr (by split <;> rfl) (fun t ht hW => ⟨(if bt kb i then 1 else 0), rfl, rfl, ht⟩) (fun _ h9 => by cases h9) dX0_isKnown_8
set_option maxHeartbeats 4000000 in
set_option maxRecDepth 100000 in
theorem c_X0_knownCount (l : Launch) (dC : Nat → ClassId) (dI : Nat → Nat → Nat) (ad : Nat → Nat) (cI : ClassId) (K : Nat) (row S V : Nat → Int32) (dc : Int32) (kw ko : Nat → Int32) (kb : Int32) (qu : Nat → Int32) (qe cl : Int32) : Met l yX0_knownCount wsX0_knownCount ({ frames := 1, cells := 0, slots := 0, locals := 20 }) (va_Pc [.ref (ad 0)] (rB dC dI [(cI, .int)] (xW ad cI K row S V dc kw ko kb qu qe cl))) (vp_Si (fun r => r = nI (pc kb))) 0 0 (fun _ => False) := by
  refine Met.ofW (cc := cX0_knownCount) (maxL := 1) (ret := (some .int)) (by decide) rfl ?_
  intro p e s m args below meth c s₁ B hml hv
  obtain ⟨rfl, hP, hK⟩ := hv
  have hx := B.exec
  have hb := B.bytes
  have hr := B.returns
  have hts := atoms_spec (ws := wsX0_knownCount) B.pre
  have hown : s.vm.findClass RX0 = some m.cls := findClass_of_methodNamed B.named
  have hlocks := B.notSynchronized
  have hw0 : ∀ w ∈ wsX00, w ∈ wsX0_knownCount := fun _ h => List.mem_cons_of_mem _ (List.mem_append_right _ h)
  have hl := lv_entry ([.ref (ad 0)]) (n := 1) (Nat.le_of_ble_eq_true rfl)
  rw [lg_entry_eq]
  generalize (lg_sl ([.ref (ad 0)]) ++ List.replicate (1 - (lg_sl ([.ref (ad 0)])).length) Slot.unset).toArray = ls at hl ⊢
  have hl : lv_has ls 1 [(0, .ref (ad 0))] := hl
  refine lv_aload_n hx hb dX0_knownCount_0 rfl (lv_at hl 0 rfl) ?_
  refine va_get (D := (dC, dI)) (ci := 0) (v := .int kb) (C := RX0) (T := TX0) (N := 11) hx hb hts hw0 hown hK hP 0 rfl rfl 7 (by decide) (hts (.fieldLink RX0 20 "DropCode" "knownBits" "I") (by decide +kernel)) (fun _ h9 => h9) rfl dX0_knownCount_1 ?_
  refine vp_callSi (W.runS (As := [.int kb]) (rest := []) ⟨hx, hb, hml, hown, hts⟩ (c_J6_bitCount_0f7a4 l kb) (va_cwS 1 hts gX0_knownCount_J6_bitCount_0f7a4 rfl rfl rfl (by decide +kernel) ⟨Nat.le_of_ble_eq_true rfl, Nat.le_of_ble_eq_true rfl⟩) ⟨pFb, fun U hU hW => ⟨rfl, trivial⟩⟩ rfl rfl hl.1 rfl (lv_room (Nat.le_of_ble_eq_true rfl)) dX0_knownCount_4 ⟨Nat.zero_le _, Nat.zero_le _⟩) (fun r_1 er_1 => ?_)
  subst er_1
  exact W.iret (v := nI (pc kb)) hx hb hr (fun t ht hW => ⟨nI (pc kb), rfl, rfl, ht⟩) (fun _ h9 => by cases h9) dX0_knownCount_7
set_option maxHeartbeats 4000000 in
set_option maxRecDepth 100000 in
theorem c_X0_unknownBits (l : Launch) (dC : Nat → ClassId) (dI : Nat → Nat → Nat) (ad : Nat → Nat) (cI : ClassId) (K : Nat) (row S V : Nat → Int32) (dc : Int32) (kw ko : Nat → Int32) (kb : Int32) (qu : Nat → Int32) (qe cl : Int32) (j : Nat) (hj : j < 60) : Met l yX0_unknownBits wsX0_unknownBits ({ frames := 0, cells := 0, slots := 0, locals := 0 }) (va_Pc [.ref (ad 0), .int (nI j)] (rB dC dI [(cI, .int)] (xW ad cI K row S V dc kw ko kb qu qe cl))) (vp_Si (fun r => r = unk (S j) kb)) 0 0 (fun _ => False) := by
  refine Met.ofW (cc := cX0_unknownBits) (maxL := 2) (ret := (some .int)) (by decide) rfl ?_
  intro p e s m args below meth c s₁ B hml hv
  obtain ⟨rfl, hP, hK⟩ := hv
  have hx := B.exec
  have hb := B.bytes
  have hr := B.returns
  have hts := atoms_spec (ws := wsX0_unknownBits) B.pre
  have hown : s.vm.findClass RX0 = some m.cls := findClass_of_methodNamed B.named
  have hlocks := B.notSynchronized
  have hw0 : ∀ w ∈ wsX00, w ∈ wsX0_unknownBits := fun _ h => List.mem_cons_of_mem _ (List.mem_append_right _ h)
  have hl := lv_entry ([.ref (ad 0), .int (nI j)]) (n := 2) (Nat.le_of_ble_eq_true rfl)
  rw [lg_entry_eq]
  generalize (lg_sl ([.ref (ad 0), .int (nI j)]) ++ List.replicate (2 - (lg_sl ([.ref (ad 0), .int (nI j)])).length) Slot.unset).toArray = ls at hl ⊢
  have hl : lv_has ls 2 [(0, .ref (ad 0)), (1, .int (nI j))] := hl
  refine lv_aload_n hx hb dX0_unknownBits_0 rfl (lv_at hl 0 rfl) ?_
  refine va_get (D := (dC, dI)) (ci := 0) (v := .ref (ad 2)) (C := RX0) (T := TX0) (N := 11) hx hb hts hw0 hown hK hP 0 rfl rfl 2 (by decide) (hts (.fieldLink RX0 9 "DropCode" "dropSets" "[I") (by decide +kernel)) (fun _ h9 => h9) rfl dX0_unknownBits_1 ?_
  refine lv_iload_n hx hb dX0_unknownBits_4 rfl (lv_at hl 1 rfl) ?_
  refine va_iald (i := nI j) hx hb hK hP 2 0 rfl rfl (vp_in_nI hj (by omega)) dX0_unknownBits_5 ?_
  rw [nI_clamp (by omega)]
  refine lv_aload_n hx hb dX0_unknownBits_6 rfl (lv_at hl 0 rfl) ?_
  refine va_get (D := (dC, dI)) (ci := 0) (v := .int kb) (C := RX0) (T := TX0) (N := 11) hx hb hts hw0 hown hK hP 0 rfl rfl 7 (by decide) (hts (.fieldLink RX0 20 "DropCode" "knownBits" "I") (by decide +kernel)) (fun _ h9 => h9) rfl dX0_unknownBits_7 ?_
  refine lv_iconst (v := (-1)) hx hb dX0_unknownBits_10 (by decide) ?_
  refine lv_ixor hx hb dX0_unknownBits_11 ?_
  refine lv_iand hx hb dX0_unknownBits_12 ?_
  exact W.iret (v := (S j) &&& (kb ^^^ (-1))) hx hb hr (fun t ht hW => ⟨(S j) &&& (kb ^^^ (-1)), rfl, rfl, ht⟩) (fun _ h9 => by cases h9) dX0_unknownBits_13
set_option maxHeartbeats 4000000 in
set_option maxRecDepth 100000 in
theorem c_X0_unknownCount (l : Launch) (dC : Nat → ClassId) (dI : Nat → Nat → Nat) (ad : Nat → Nat) (cI : ClassId) (K : Nat) (row S V : Nat → Int32) (dc : Int32) (kw ko : Nat → Int32) (kb : Int32) (qu : Nat → Int32) (qe cl : Int32) (j : Nat) (hj : j < 60) : Met l yX0_unknownCount wsX0_unknownCount ({ frames := 1, cells := 0, slots := 0, locals := 21 }) (va_Pc [.ref (ad 0), .int (nI j)] (rB dC dI [(cI, .int)] (xW ad cI K row S V dc kw ko kb qu qe cl))) (vp_Si (fun r => r = nI (pc (unk (S j) kb)))) 0 0 (fun _ => False) := by
  refine Met.ofW (cc := cX0_unknownCount) (maxL := 2) (ret := (some .int)) (by decide) rfl ?_
  intro p e s m args below meth c s₁ B hml hv
  obtain ⟨rfl, hP, hK⟩ := hv
  have hx := B.exec
  have hb := B.bytes
  have hr := B.returns
  have hts := atoms_spec (ws := wsX0_unknownCount) B.pre
  have hown : s.vm.findClass RX0 = some m.cls := findClass_of_methodNamed B.named
  have hlocks := B.notSynchronized
  have hw0 : ∀ w ∈ wsX00, w ∈ wsX0_unknownCount := fun _ h => List.mem_cons_of_mem _ (List.mem_append_right _ h)
  have hl := lv_entry ([.ref (ad 0), .int (nI j)]) (n := 2) (Nat.le_of_ble_eq_true rfl)
  rw [lg_entry_eq]
  generalize (lg_sl ([.ref (ad 0), .int (nI j)]) ++ List.replicate (2 - (lg_sl ([.ref (ad 0), .int (nI j)])).length) Slot.unset).toArray = ls at hl ⊢
  have hl : lv_has ls 2 [(0, .ref (ad 0)), (1, .int (nI j))] := hl
  refine lv_aload_n hx hb dX0_unknownCount_0 rfl (lv_at hl 0 rfl) ?_
  refine lv_iload_n hx hb dX0_unknownCount_1 rfl (lv_at hl 1 rfl) ?_
  refine vp_callSi (W.runV (As := [.int (nI j)]) (rest := []) ⟨hx, hb, hml, hown, hts⟩ (c_X0_unknownBits l dC dI ad cI K row S V dc kw ko kb qu qe cl j hj) (cwV 1 hts gX0_unknownCount_X0_unknownBits rfl rfl rfl (by decide +kernel) ⟨Nat.le_of_ble_eq_true rfl, Nat.le_of_ble_eq_true rfl⟩) ⟨rFb, va_recv hK hP (ci := 0) (q0 := 0) rfl rfl, fun U hU hW => ⟨rfl, by rw [hU]; exact hP, va_K.moved hW.alike hK⟩⟩ rfl rfl hl.1 rfl (lv_room (Nat.le_of_ble_eq_true rfl)) dX0_unknownCount_2 ⟨Nat.zero_le _, Nat.zero_le _⟩) (fun r_1 er_1 => ?_)
  subst er_1
  refine vp_callSi (W.runS (As := [.int (unk (S j) kb)]) (rest := []) ⟨hx, hb, hml, hown, hts⟩ (c_J6_bitCount_0f7a4 l (unk (S j) kb)) (va_cwS 1 hts gX0_unknownCount_J6_bitCount_0f7a4 rfl rfl rfl (by decide +kernel) ⟨Nat.le_of_ble_eq_true rfl, Nat.le_of_ble_eq_true rfl⟩) ⟨pFb, fun U hU hW => ⟨rfl, trivial⟩⟩ rfl rfl hl.1 rfl (lv_room (Nat.le_of_ble_eq_true rfl)) dX0_unknownCount_5 ⟨Nat.zero_le _, Nat.zero_le _⟩) (fun r_2 er_2 => ?_)
  subst er_2
  exact W.iret (v := nI (pc (unk (S j) kb))) hx hb hr (fun t ht hW => ⟨nI (pc (unk (S j) kb)), rfl, rfl, ht⟩) (fun _ h9 => by cases h9) dX0_unknownCount_8
set_option maxHeartbeats 4000000 in
set_option maxRecDepth 100000 in
theorem c_X0_xorOfKnown (l : Launch) (dC : Nat → ClassId) (dI : Nat → Nat → Nat) (ad : Nat → Nat) (cI : ClassId) (K : Nat) (row S V : Nat → Int32) (dc : Int32) (kw ko : Nat → Int32) (kb : Int32) (qu : Nat → Int32) (qe cl : Int32) (hK1 : 1 ≤ K) (hK2 : K ≤ 32) (j : Nat) (hj : j < 60) : Met l yX0_xorOfKnown wsX0_xorOfKnown ({ frames := 2, cells := 0, slots := 0, locals := 44 }) (va_Pc [.ref (ad 0), .int (nI j)] (rB dC dI [(cI, .int)] (xW ad cI K row S V dc kw ko kb qu qe cl))) (vp_Si (fun r => r = xf kw (S j &&& kb) K)) 0 0 (fun _ => False) := by
  refine Met.ofW (cc := cX0_xorOfKnown) (maxL := 2) (ret := (some .int)) (by decide) rfl ?_
  intro p e s m args below meth c s₁ B hml hv
  obtain ⟨rfl, hP, hK⟩ := hv
  have hx := B.exec
  have hb := B.bytes
  have hr := B.returns
  have hts := atoms_spec (ws := wsX0_xorOfKnown) B.pre
  have hown : s.vm.findClass RX0 = some m.cls := findClass_of_methodNamed B.named
  have hlocks := B.notSynchronized
  have hw0 : ∀ w ∈ wsX00, w ∈ wsX0_xorOfKnown := fun _ h => List.mem_cons_of_mem _ (List.mem_append_right _ h)
  have hl := lv_entry ([.ref (ad 0), .int (nI j)]) (n := 2) (Nat.le_of_ble_eq_true rfl)
  rw [lg_entry_eq]
  generalize (lg_sl ([.ref (ad 0), .int (nI j)]) ++ List.replicate (2 - (lg_sl ([.ref (ad 0), .int (nI j)])).length) Slot.unset).toArray = ls at hl ⊢
  have hl : lv_has ls 2 [(0, .ref (ad 0)), (1, .int (nI j))] := hl
  refine lv_aload_n hx hb dX0_xorOfKnown_0 rfl (lv_at hl 0 rfl) ?_
  refine va_get (D := (dC, dI)) (ci := 0) (v := .ref (ad 4)) (C := RX0) (T := TX0) (N := 11) hx hb hts hw0 hown hK hP 0 rfl rfl 5 (by decide) (hts (.fieldLink RX0 44 "DropCode" "knownWords" "[I") (by decide +kernel)) (fun _ h9 => h9) rfl dX0_xorOfKnown_1 ?_
  refine lv_aload_n hx hb dX0_xorOfKnown_4 rfl (lv_at hl 0 rfl) ?_
  refine va_get (D := (dC, dI)) (ci := 0) (v := .ref (ad 2)) (C := RX0) (T := TX0) (N := 11) hx hb hts hw0 hown hK hP 0 rfl rfl 2 (by decide) (hts (.fieldLink RX0 9 "DropCode" "dropSets" "[I") (by decide +kernel)) (fun _ h9 => h9) rfl dX0_xorOfKnown_5 ?_
  refine lv_iload_n hx hb dX0_xorOfKnown_8 rfl (lv_at hl 1 rfl) ?_
  refine va_iald (i := nI j) hx hb hK hP 2 0 rfl rfl (vp_in_nI hj (by omega)) dX0_xorOfKnown_9 ?_
  rw [nI_clamp (by omega)]
  refine lv_aload_n hx hb dX0_xorOfKnown_10 rfl (lv_at hl 0 rfl) ?_
  refine va_get (D := (dC, dI)) (ci := 0) (v := .int kb) (C := RX0) (T := TX0) (N := 11) hx hb hts hw0 hown hK hP 0 rfl rfl 7 (by decide) (hts (.fieldLink RX0 20 "DropCode" "knownBits" "I") (by decide +kernel)) (fun _ h9 => h9) rfl dX0_xorOfKnown_11 ?_
  refine lv_iand hx hb dX0_xorOfKnown_14 ?_
  have hPc := hP.sub (ws' := [(ad 4, .inl (cI, K, .inl kw))]) [4] rfl
  refine vp_callSi (W.runS (As := [.ref (ad 4), .int ((S j) &&& kb)]) (rest := []) ⟨hx, hb, hml, hown, hts⟩ (c_X0_xorOf l dC dI (ad 4) cI K hK2 kw ((S j) &&& kb)) (va_cwS 2 hts gX0_xorOfKnown_X0_xorOf rfl rfl rfl (by decide +kernel) ⟨Nat.le_of_ble_eq_true rfl, Nat.le_of_ble_eq_true rfl⟩) ⟨rFb, fun U hU hW => ⟨rfl, by rw [hU]; exact hPc, va_K.moved hW.alike hK⟩⟩ rfl rfl hl.1 rfl (lv_room (Nat.le_of_ble_eq_true rfl)) dX0_xorOfKnown_15 ⟨Nat.zero_le _, Nat.zero_le _⟩) (fun r_1 er_1 => ?_)
  subst er_1
  exact W.iret (v := xf kw ((S j) &&& kb) K) hx hb hr (fun t ht hW => ⟨xf kw ((S j) &&& kb) K, rfl, rfl, ht⟩) (fun _ h9 => by cases h9) dX0_xorOfKnown_18
end
section
theorem cn_no {f : Nat → Bool} {k : Nat} (h : f k = false) : cn f (k + 1) = cn f k := by rw [cn, h]; rfl
theorem cn_s {f : Nat → Bool} {k : Nat} (h : f k = true) : cn f (k + 1) = cn f k + 1 := by rw [cn, h]; rfl
theorem cn_k {f : Nat → Bool} {k n : Nat} (h : k < n) : cn f (k + 1) ≤ cn f n := by
  induction n with
  | zero => omega
  | succ n ih =>
    rcases Nat.lt_or_ge k n with b | b
    · have := ih b
      show _ ≤ cn f n + _
      omega
    · have : k = n := by omega
      subst this
      exact Nat.le_refl _
theorem eqA_no {i : Nat} {S : Nat → Int32} {kb : Int32} {qu : Nat → Int32} {q k : Nat} (h : eqP i S kb k = false) : eqA i S kb qu q (k + 1) = eqA i S kb qu q k := by rw [eqA, if_neg (by rw [h]; exact Bool.false_ne_true)]
theorem eqA_yes {i : Nat} {S : Nat → Int32} {kb : Int32} {qu : Nat → Int32} {q k : Nat} (h : eqP i S kb k = true) : eqA i S kb qu q (k + 1) = upd (eqA i S kb qu q k) (q + cn (eqP i S kb) k) (nI k) := by rw [eqA, if_pos h]
theorem nI_one {a : Nat} (ha : a ≤ 32) (h : nI a = 1) : a = 1 := (nI_eq (a := a) (b := 1) (by omega) (by omega)).mp h
set_option maxHeartbeats 4000000 in
set_option maxRecDepth 100000 in
theorem c_X0_noteIfClash (l : Launch) (dC : Nat → ClassId) (dI : Nat → Nat → Nat) (sz : Nat) (ad : Nat → Nat) (cI : ClassId) (K : Nat) (row S V : Nat → Int32) (dc : Int32) (kw ko : Nat → Int32) (kb : Int32) (qu : Nat → Int32) (qe cl : Int32) (hK1 : 1 ≤ K) (hK2 : K ≤ 32) (j : Nat) (hj : j < 60) : Met l yX0_noteIfClash wsX0_noteIfClash ({ frames := 3, cells := 0, slots := 0, locals := 65 }) (va_Pc [.ref (ad 0), .int (nI j)] (wB dC dI [(cI, .int)] sz (xW ad cI K row S V dc kw ko kb qu qe cl))) (va_Qv (fun (_ : Unit) => True) (fun _ => oB dC dI [(cI, .int)] (va_A (xW ad cI K row S V dc kw ko kb qu qe cl) sz) (xW ad cI K row S V dc kw ko kb qu qe (clA K kw (S j) kb (V j) cl))) (va_A (xW ad cI K row S V dc kw ko kb qu qe cl) sz)) 0 0 (va_A (xW ad cI K row S V dc kw ko kb qu qe cl) sz) := by
  refine Met.ofW (cc := cX0_noteIfClash) (maxL := 2) (ret := none) (by decide) rfl ?_
  intro p e s m args below meth c s₁ B hml hv
  obtain ⟨rfl, hsz, hP, hK, hD0⟩ := hv
  have hx := B.exec
  have hb := B.bytes
  have hr := B.returns
  have hts := atoms_spec (ws := wsX0_noteIfClash) B.pre
  have hown : s.vm.findClass RX0 = some m.cls := findClass_of_methodNamed B.named
  have hlocks := B.notSynchronized
  have hw0 : ∀ w ∈ wsX00, w ∈ wsX0_noteIfClash := fun _ h => List.mem_cons_of_mem _ (List.mem_append_right _ h)
  subst hsz
  have hD := hD0.self (sz := s.heap.size)
  generalize hAe : va_A (xW ad cI K row S V dc kw ko kb qu qe cl) s.heap.size = A at hD ⊢
  have hA : ∀ q : Nat, s.heap.size ≤ q → A q := fun q h => by rw [← hAe]; exact Or.inr h
  have hS : va_S A s.heap s.heap [] := va_S.rf
  have hP : va_P (dC, dI) vwCl (xW ad cI K row S V dc kw ko kb qu qe cl) s.heap := hP
  have hl := lv_entry ([.ref (ad 0), .int (nI j)]) (n := 2) (Nat.le_of_ble_eq_true rfl)
  rw [lg_entry_eq]
  generalize (lg_sl ([.ref (ad 0), .int (nI j)]) ++ List.replicate (2 - (lg_sl ([.ref (ad 0), .int (nI j)])).length) Slot.unset).toArray = ls at hl ⊢
  have hl : lv_has ls 2 [(0, .ref (ad 0)), (1, .int (nI j))] := hl
  refine lv_aload_n hx hb dX0_noteIfClash_0 rfl (lv_at hl 0 rfl) ?_
  refine lv_iload_n hx hb dX0_noteIfClash_1 rfl (lv_at hl 1 rfl) ?_
  refine vp_callSi (W.runV (As := [.int (nI j)]) (rest := []) ⟨hx, hb, hml, hown, hts⟩ (c_X0_xorOfKnown l dC dI ad cI K row S V dc kw ko kb qu qe cl hK1 hK2 j hj) (cwV 1 hts gX0_noteIfClash_X0_xorOfKnown rfl rfl rfl (by decide +kernel) ⟨Nat.le_of_ble_eq_true rfl, Nat.le_of_ble_eq_true rfl⟩) ⟨rFb, va_recv hK hP (ci := 0) (q0 := 0) rfl rfl, fun U hU hW => ⟨rfl, by rw [hU]; exact hP, va_K.moved hW.alike hK⟩⟩ rfl rfl hl.1 rfl (lv_room (Nat.le_of_ble_eq_true rfl)) dX0_noteIfClash_2 ⟨Nat.zero_le _, Nat.zero_le _⟩) (fun r_1 er_1 => ?_)
  subst er_1
  refine lv_aload_n hx hb dX0_noteIfClash_5 rfl (lv_at hl 0 rfl) ?_
  refine va_get (D := (dC, dI)) (ci := 0) (v := .ref (ad 3)) (C := RX0) (T := TX0) (N := 11) hx hb hts hw0 hown hK hP 0 rfl rfl 3 (by decide) (hts (.fieldLink RX0 13 "DropCode" "dropWords" "[I") (by decide +kernel)) (fun _ h9 => h9) rfl dX0_noteIfClash_6 ?_
  refine lv_iload_n hx hb dX0_noteIfClash_9 rfl (lv_at hl 1 rfl) ?_
  refine va_iald (i := nI j) hx hb hK hP 3 0 rfl rfl (vp_in_nI hj (by omega)) dX0_noteIfClash_10 ?_
  rw [nI_clamp (by omega)]
  refine lv_icmp_eq (tgt := 24) hx hb dX0_noteIfClash_11 (by decide) (fun c1 => ?_) (fun c1 => ?_)
  · skip
    rw [show clA K kw (S j) kb (V j) cl = cl from if_pos c1]
    exact W.vret hx hb hr (fun t ht hW => ⟨⟨(), rfl, trivial, by rw [ht]; exact hP, va_K.moved hW.alike hK, hD⟩, hS.F ht⟩) hS.2.2 dX0_noteIfClash_24
  · skip
    rw [show clA K kw (S j) kb (V j) cl = cl + 1 from if_neg c1]
    refine lv_aload_n hx hb dX0_noteIfClash_14 rfl (lv_at hl 0 rfl) ?_
    refine lv_dup hx hb dX0_noteIfClash_15 rfl ?_
    refine va_get (D := (dC, dI)) (ci := 0) (v := .int cl) (C := RX0) (T := TX0) (N := 11) hx hb hts hw0 hown hK hP 0 rfl rfl 10 (by decide) (hts (.fieldLink RX0 29 "DropCode" "clashCount" "I") (by decide +kernel)) (fun _ h9 => h9) rfl dX0_noteIfClash_16 ?_
    refine lv_iconst (v := 1) hx hb dX0_noteIfClash_19 (by decide) ?_
    refine lv_iadd hx hb dX0_noteIfClash_20 ?_
    refine va_put (D := (dC, dI)) (ci := 0) (v := .int (cl + 1)) (ty := .int) (C := RX0) (T := TX0) (N := 11) hx hb hts hw0 tyX0 tyX0_ok nmX0 hown hK hP hD hS 0 rfl rfl 10 (by decide) (hts (.fieldLink RX0 29 "DropCode" "clashCount" "I") (by decide +kernel)) (fun _ h9 => h9) rfl (by decide +kernel) rfl rfl (Nat.le_of_ble_eq_true rfl) dX0_noteIfClash_21 (fun H locs hP hD hS => ?_)
    have hP : va_P (dC, dI) vwCl (xW ad cI K row S V dc kw ko kb qu qe (cl + 1)) H := hP
    have hD : va_D A (xW ad cI K row S V dc kw ko kb qu qe (cl + 1)) := hD
    exact W.vret hx hb hr (fun t ht hW => ⟨⟨(), rfl, trivial, by rw [ht]; exact hP, va_K.moved hW.alike hK, hD⟩, hS.F ht⟩) hS.2.2 dX0_noteIfClash_24
set_option maxHeartbeats 4000000 in
set_option maxRecDepth 100000 in
theorem c_X0_enqueue (l : Launch) (dC : Nat → ClassId) (dI : Nat → Nat → Nat) (sz : Nat) (ad : Nat → Nat) (cI : ClassId) (K : Nat) (row : Nat → Int32) (S : Nat → Int32) (V : Nat → Int32) (dc : Int32) (kw : Nat → Int32) (ko : Nat → Int32) (kb : Int32) (qu : Nat → Int32) (cl : Int32) (q : Nat) (hq : q < 60) (v : Int32) : Met l yX0_enqueue wsX0_enqueue ({ frames := 0, cells := 0, slots := 0, locals := 0 }) (va_Pc [.ref (ad 0), .int v] (wB dC dI [(cI, .int)] sz (xW ad cI K row S V dc kw ko kb qu (nI q) cl))) (va_Qv (fun (_ : Unit) => True) (fun _ => oB dC dI [(cI, .int)] (va_A (xW ad cI K row S V dc kw ko kb qu (nI q) cl) sz) (xW ad cI K row S V dc kw ko kb (upd qu q v) (nI (q + 1)) cl)) (va_A (xW ad cI K row S V dc kw ko kb qu (nI q) cl) sz)) 0 0 (va_A (xW ad cI K row S V dc kw ko kb qu (nI q) cl) sz) := by
  refine Met.ofW (cc := cX0_enqueue) (maxL := 2) (ret := none) (by decide) rfl ?_
  intro p e s m args below meth c s₁ B hml hv
  obtain ⟨rfl, hsz, hP, hK, hD0⟩ := hv
  have hx := B.exec
  have hb := B.bytes
  have hr := B.returns
  have hts := atoms_spec (ws := wsX0_enqueue) B.pre
  have hown : s.vm.findClass RX0 = some m.cls := findClass_of_methodNamed B.named
  have hlocks := B.notSynchronized
  have hw0 : ∀ w ∈ wsX00, w ∈ wsX0_enqueue := fun _ h => List.mem_cons_of_mem _ (List.mem_append_right _ h)
  subst hsz
  have hD := hD0.self (sz := s.heap.size)
  generalize hAe : va_A (xW ad cI K row S V dc kw ko kb qu (nI q) cl) s.heap.size = A at hD ⊢
  have hA : ∀ q : Nat, s.heap.size ≤ q → A q := fun q h => by rw [← hAe]; exact Or.inr h
  have hS : va_S A s.heap s.heap [] := va_S.rf
  have hP : va_P (dC, dI) vwCl (xW ad cI K row S V dc kw ko kb qu (nI q) cl) s.heap := hP
  have hl := lv_entry ([.ref (ad 0), .int v]) (n := 2) (Nat.le_of_ble_eq_true rfl)
  rw [lg_entry_eq]
  generalize (lg_sl ([.ref (ad 0), .int v]) ++ List.replicate (2 - (lg_sl ([.ref (ad 0), .int v])).length) Slot.unset).toArray = ls at hl ⊢
  have hl : lv_has ls 2 [(0, .ref (ad 0)), (1, .int v)] := hl
  refine lv_aload_n hx hb dX0_enqueue_0 rfl (lv_at hl 0 rfl) ?_
  refine va_get (D := (dC, dI)) (ci := 0) (v := .int (nI q)) (C := RX0) (T := TX0) (N := 11) hx hb hts hw0 hown hK hP 0 rfl rfl 9 (by decide) (hts (.fieldLink RX0 26 "DropCode" "queueEnd" "I") (by decide +kernel)) (fun _ h9 => h9) rfl dX0_enqueue_1 ?_
  refine lv_bipush (v := 60) hx hb dX0_enqueue_4 (by decide) ?_
  refine lv_icmp_ge (tgt := 29) hx hb dX0_enqueue_6 (by decide) (fun c1 => ?_) (fun c1 => ?_)
  · skip
    exact absurd c1 (nI_ge (a := q) (b := 60) hq (by omega))
  · skip
    refine lv_aload_n hx hb dX0_enqueue_9 rfl (lv_at hl 0 rfl) ?_
    refine va_get (D := (dC, dI)) (ci := 0) (v := .ref (ad 6)) (C := RX0) (T := TX0) (N := 11) hx hb hts hw0 hown hK hP 0 rfl rfl 8 (by decide) (hts (.fieldLink RX0 23 "DropCode" "queue" "[I") (by decide +kernel)) (fun _ h9 => h9) rfl dX0_enqueue_10 ?_
    refine lv_aload_n hx hb dX0_enqueue_13 rfl (lv_at hl 0 rfl) ?_
    refine va_get (D := (dC, dI)) (ci := 0) (v := .int (nI q)) (C := RX0) (T := TX0) (N := 11) hx hb hts hw0 hown hK hP 0 rfl rfl 9 (by decide) (hts (.fieldLink RX0 26 "DropCode" "queueEnd" "I") (by decide +kernel)) (fun _ h9 => h9) rfl dX0_enqueue_14 ?_
    refine lv_iload_n hx hb dX0_enqueue_17 rfl (lv_at hl 1 rfl) ?_
    refine va_iast (i := nI q) hx hb hK hP hD hS 6 0 rfl rfl (vp_in_nI hq (by omega)) dX0_enqueue_18 (fun H locs hP hD hS => ?_)
    rw [nI_clamp (by omega)] at hP hD
    have hP : va_P (dC, dI) vwCl (xW ad cI K row S V dc kw ko kb (upd qu q v) (nI q) cl) H := hP
    have hD : va_D A (xW ad cI K row S V dc kw ko kb (upd qu q v) (nI q) cl) := hD
    refine lv_aload_n hx hb dX0_enqueue_19 rfl (lv_at hl 0 rfl) ?_
    refine lv_dup hx hb dX0_enqueue_20 rfl ?_
    refine va_get (D := (dC, dI)) (ci := 0) (v := .int (nI q)) (C := RX0) (T := TX0) (N := 11) hx hb hts hw0 hown hK hP 0 rfl rfl 9 (by decide) (hts (.fieldLink RX0 26 "DropCode" "queueEnd" "I") (by decide +kernel)) (fun _ h9 => h9) rfl dX0_enqueue_21 ?_
    refine lv_iconst (v := 1) hx hb dX0_enqueue_24 (by decide) ?_
    refine lv_iadd hx hb dX0_enqueue_25 ?_
    refine lv_topi (fun z_1 ez_1 => ?_)
    have ez_1 : z_1 = nI (q + 1) := ez_1.trans (nI_1 q)
    subst ez_1
    refine va_put (D := (dC, dI)) (ci := 0) (v := .int (nI (q + 1))) (ty := .int) (C := RX0) (T := TX0) (N := 11) hx hb hts hw0 tyX0 tyX0_ok nmX0 hown hK hP hD hS 0 rfl rfl 9 (by decide) (hts (.fieldLink RX0 26 "DropCode" "queueEnd" "I") (by decide +kernel)) (fun _ h9 => h9) rfl (by decide +kernel) rfl rfl (Nat.le_of_ble_eq_true rfl) dX0_enqueue_26 (fun H locs hP hD hS => ?_)
    have hP : va_P (dC, dI) vwCl (xW ad cI K row S V dc kw ko kb (upd qu q v) (nI (q + 1)) cl) H := hP
    have hD : va_D A (xW ad cI K row S V dc kw ko kb (upd qu q v) (nI (q + 1)) cl) := hD
    exact W.vret hx hb hr (fun t ht hW => ⟨⟨(), rfl, trivial, by rw [ht]; exact hP, va_K.moved hW.alike hK, hD⟩, hS.F ht⟩) hS.2.2 dX0_enqueue_29
set_option maxHeartbeats 4000000 in
set_option maxRecDepth 100000 in
theorem c_X0_learn (l : Launch) (dC : Nat → ClassId) (dI : Nat → Nat → Nat) (sz : Nat) (ad : Nat → Nat) (cI : ClassId) (K : Nat) (row S V : Nat → Int32) (dc : Int32) (kw ko : Nat → Int32) (kb : Int32) (qu : Nat → Int32) (qe cl : Int32) (hK1 : 1 ≤ K) (hK2 : K ≤ 32) (i : Nat) (hi : i < K) (hpc : pc kb < K) (v : Int32) : Met l yX0_learn wsX0_learn ({ frames := 2, cells := 0, slots := 0, locals := 40 }) (va_Pc [.ref (ad 0), .int (nI i), .int v] (wB dC dI [(cI, .int)] sz (xW ad cI K row S V dc kw ko kb qu qe cl))) (va_Qv (fun (_ : Unit) => True) (fun _ => oB dC dI [(cI, .int)] (va_A (xW ad cI K row S V dc kw ko kb qu qe cl) sz) (xW ad cI K row S V dc (upd kw i v) (upd ko (pc kb) (nI i)) (kb ||| tw i) qu qe cl)) (va_A (xW ad cI K row S V dc kw ko kb qu qe cl) sz)) 0 0 (va_A (xW ad cI K row S V dc kw ko kb qu qe cl) sz) := by
  refine Met.ofW (cc := cX0_learn) (maxL := 3) (ret := none) (by decide) rfl ?_
  intro p e s m args below meth c s₁ B hml hv
  obtain ⟨rfl, hsz, hP, hK, hD0⟩ := hv
  have hx := B.exec
  have hb := B.bytes
  have hr := B.returns
  have hts := atoms_spec (ws := wsX0_learn) B.pre
  have hown : s.vm.findClass RX0 = some m.cls := findClass_of_methodNamed B.named
  have hlocks := B.notSynchronized
  have hw0 : ∀ w ∈ wsX00, w ∈ wsX0_learn := fun _ h => List.mem_cons_of_mem _ (List.mem_append_right _ h)
  subst hsz
  have hD := hD0.self (sz := s.heap.size)
  generalize hAe : va_A (xW ad cI K row S V dc kw ko kb qu qe cl) s.heap.size = A at hD ⊢
  have hA : ∀ q : Nat, s.heap.size ≤ q → A q := fun q h => by rw [← hAe]; exact Or.inr h
  have hS : va_S A s.heap s.heap [] := va_S.rf
  have hP : va_P (dC, dI) vwCl (xW ad cI K row S V dc kw ko kb qu qe cl) s.heap := hP
  have hl := lv_entry ([.ref (ad 0), .int (nI i), .int v]) (n := 3) (Nat.le_of_ble_eq_true rfl)
  rw [lg_entry_eq]
  generalize (lg_sl ([.ref (ad 0), .int (nI i), .int v]) ++ List.replicate (3 - (lg_sl ([.ref (ad 0), .int (nI i), .int v])).length) Slot.unset).toArray = ls at hl ⊢
  have hl : lv_has ls 3 [(0, .ref (ad 0)), (1, .int (nI i)), (2, .int v)] := hl
  refine lv_aload_n hx hb dX0_learn_0 rfl (lv_at hl 0 rfl) ?_
  refine va_get (D := (dC, dI)) (ci := 0) (v := .ref (ad 4)) (C := RX0) (T := TX0) (N := 11) hx hb hts hw0 hown hK hP 0 rfl rfl 5 (by decide) (hts (.fieldLink RX0 44 "DropCode" "knownWords" "[I") (by decide +kernel)) (fun _ h9 => h9) rfl dX0_learn_1 ?_
  refine lv_iload_n hx hb dX0_learn_4 rfl (lv_at hl 1 rfl) ?_
  refine lv_iload_n hx hb dX0_learn_5 rfl (lv_at hl 2 rfl) ?_
  refine va_iast (i := nI i) hx hb hK hP hD hS 4 0 rfl rfl (vp_in_nI hi (by omega)) dX0_learn_6 (fun H locs hP hD hS => ?_)
  rw [nI_clamp (by omega)] at hP hD
  have hP : va_P (dC, dI) vwCl (xW ad cI K row S V dc (upd kw i v) ko kb qu qe cl) H := hP
  have hD : va_D A (xW ad cI K row S V dc (upd kw i v) ko kb qu qe cl) := hD
  refine lv_aload_n hx hb dX0_learn_7 rfl (lv_at hl 0 rfl) ?_
  refine va_get (D := (dC, dI)) (ci := 0) (v := .ref (ad 5)) (C := RX0) (T := TX0) (N := 11) hx hb hts hw0 hown hK hP 0 rfl rfl 6 (by decide) (hts (.fieldLink RX0 47 "DropCode" "knownOrder" "[I") (by decide +kernel)) (fun _ h9 => h9) rfl dX0_learn_8 ?_
  refine lv_aload_n hx hb dX0_learn_11 rfl (lv_at hl 0 rfl) ?_
  refine vp_callSi (W.runV (As := []) (rest := [.ref (ad 5)]) ⟨hx, hb, hml, hown, hts⟩ (c_X0_knownCount l dC dI ad cI K row S V dc (upd kw i v) ko kb qu qe cl) (cwV 0 hts gX0_learn_X0_knownCount rfl rfl rfl (by decide +kernel) ⟨Nat.le_of_ble_eq_true rfl, Nat.le_of_ble_eq_true rfl⟩) ⟨rFb, va_recv hK hP (ci := 0) (q0 := 0) rfl rfl, fun U hU hW => ⟨rfl, by rw [hU]; exact hP, va_K.moved hW.alike hK⟩⟩ rfl rfl hl.1 rfl (lv_room (Nat.le_of_ble_eq_true rfl)) dX0_learn_12 ⟨Nat.zero_le _, Nat.zero_le _⟩) (fun r_1 er_1 => ?_)
  subst er_1
  refine lv_iload_n hx hb dX0_learn_15 rfl (lv_at hl 1 rfl) ?_
  refine va_iast (i := nI (pc kb)) hx hb hK hP hD hS 5 0 rfl rfl (vp_in_nI hpc (by omega)) dX0_learn_16 (fun H locs hP hD hS => ?_)
  rw [nI_clamp (by omega)] at hP hD
  have hP : va_P (dC, dI) vwCl (xW ad cI K row S V dc (upd kw i v) (upd ko (pc kb) (nI i)) kb qu qe cl) H := hP
  have hD : va_D A (xW ad cI K row S V dc (upd kw i v) (upd ko (pc kb) (nI i)) kb qu qe cl) := hD
  refine lv_aload_n hx hb dX0_learn_17 rfl (lv_at hl 0 rfl) ?_
  refine lv_dup hx hb dX0_learn_18 rfl ?_
  refine va_get (D := (dC, dI)) (ci := 0) (v := .int kb) (C := RX0) (T := TX0) (N := 11) hx hb hts hw0 hown hK hP 0 rfl rfl 7 (by decide) (hts (.fieldLink RX0 20 "DropCode" "knownBits" "I") (by decide +kernel)) (fun _ h9 => h9) rfl dX0_learn_19 ?_
  refine lv_iconst (v := 1) hx hb dX0_learn_22 (by decide) ?_
  refine lv_iload_n hx hb dX0_learn_23 rfl (lv_at hl 1 rfl) ?_
  refine lv_ishl hx hb dX0_learn_24 ?_
  refine lv_topi (fun z_2 ez_2 => ?_)
  have ez_2 : z_2 = tw i := ez_2.trans (rfl)
  subst ez_2
  refine lv_ior hx hb dX0_learn_25 ?_
  refine va_put (D := (dC, dI)) (ci := 0) (v := .int (kb ||| (tw i))) (ty := .int) (C := RX0) (T := TX0) (N := 11) hx hb hts hw0 tyX0 tyX0_ok nmX0 hown hK hP hD hS 0 rfl rfl 7 (by decide) (hts (.fieldLink RX0 20 "DropCode" "knownBits" "I") (by decide +kernel)) (fun _ h9 => h9) rfl (by decide +kernel) rfl rfl (Nat.le_of_ble_eq_true rfl) dX0_learn_26 (fun H locs hP hD hS => ?_)
  have hP : va_P (dC, dI) vwCl (xW ad cI K row S V dc (upd kw i v) (upd ko (pc kb) (nI i)) (kb ||| (tw i)) qu qe cl) H := hP
  have hD : va_D A (xW ad cI K row S V dc (upd kw i v) (upd ko (pc kb) (nI i)) (kb ||| (tw i)) qu qe cl) := hD
  exact W.vret hx hb hr (fun t ht hW => ⟨⟨(), rfl, trivial, by rw [ht]; exact hP, va_K.moved hW.alike hK, hD⟩, hS.F ht⟩) hS.2.2 dX0_learn_29
set_option maxHeartbeats 4000000 in
set_option maxRecDepth 100000 in
theorem c_X0_enqueueOpenedBy (l : Launch) (dC : Nat → ClassId) (dI : Nat → Nat → Nat) (sz : Nat) (ad : Nat → Nat) (cI : ClassId) (K : Nat) (row : Nat → Int32) (S : Nat → Int32) (V : Nat → Int32) (kw : Nat → Int32) (ko : Nat → Int32) (kb : Int32) (qu : Nat → Int32) (cl : Int32) (n : Nat) (hn : n ≤ 60) (q : Nat) (i : Nat) (hi : i < 32) (hq : q + cn (eqP i S kb) n ≤ 60) : Met l yX0_enqueueOpenedBy wsX0_enqueueOpenedBy ({ frames := 2, cells := 0, slots := 0, locals := 42 }) (va_Pc [.ref (ad 0), .int (nI i)] (wB dC dI [(cI, .int)] sz (xW ad cI K row S V (nI n) kw ko kb qu (nI q) cl))) (va_Qv (fun (_ : Unit) => True) (fun _ => oB dC dI [(cI, .int)] (va_A (xW ad cI K row S V (nI n) kw ko kb qu (nI q) cl) sz) (xW ad cI K row S V (nI n) kw ko kb (eqA i S kb qu q n) (nI (q + cn (eqP i S kb) n)) cl)) (va_A (xW ad cI K row S V (nI n) kw ko kb qu (nI q) cl) sz)) 0 0 (va_A (xW ad cI K row S V (nI n) kw ko kb qu (nI q) cl) sz) := by
  refine Met.ofW (cc := cX0_enqueueOpenedBy) (maxL := 3) (ret := none) (by decide) rfl ?_
  intro p e s m args below meth c s₁ B hml hv
  obtain ⟨rfl, hsz, hP, hK, hD0⟩ := hv
  have hx := B.exec
  have hb := B.bytes
  have hr := B.returns
  have hts := atoms_spec (ws := wsX0_enqueueOpenedBy) B.pre
  have hown : s.vm.findClass RX0 = some m.cls := findClass_of_methodNamed B.named
  have hlocks := B.notSynchronized
  have hw0 : ∀ w ∈ wsX00, w ∈ wsX0_enqueueOpenedBy := fun _ h => List.mem_cons_of_mem _ (List.mem_append_right _ h)
  subst hsz
  have hD := hD0.self (sz := s.heap.size)
  generalize hAe : va_A (xW ad cI K row S V (nI n) kw ko kb qu (nI q) cl) s.heap.size = A at hD ⊢
  have hA : ∀ q : Nat, s.heap.size ≤ q → A q := fun q h => by rw [← hAe]; exact Or.inr h
  have hS : va_S A s.heap s.heap [] := va_S.rf
  have hP : va_P (dC, dI) vwCl (xW ad cI K row S V (nI n) kw ko kb qu (nI q) cl) s.heap := hP
  have hl := lv_entry ([.ref (ad 0), .int (nI i)]) (n := 3) (Nat.le_of_ble_eq_true rfl)
  rw [lg_entry_eq]
  generalize (lg_sl ([.ref (ad 0), .int (nI i)]) ++ List.replicate (3 - (lg_sl ([.ref (ad 0), .int (nI i)])).length) Slot.unset).toArray = ls at hl ⊢
  have hl : lv_has ls 3 [(0, .ref (ad 0)), (1, .int (nI i))] := hl
  refine lv_iconst (v := 0) hx hb dX0_enqueueOpenedBy_0 (by decide) ?_
  refine lv_istore_n (lv' := [(2, .int 0), (0, .ref (ad 0)), (1, .int (nI i))]) hx hb dX0_enqueueOpenedBy_1 rfl hl (by decide) rfl (fun ls hl => ?_)
  have key : ∀ (m9 k : Nat) (H : Heap) (locs : List Loc) (ls : Array Slot), n = k + m9 → va_P (dC, dI) vwCl (xW ad cI K row S V (nI n) kw ko kb (eqA i S kb qu q k) (nI (q + cn (eqP i S kb) k)) cl) H → va_D A (xW ad cI K row S V (nI n) kw ko kb (eqA i S kb qu q k) (nI (q + cn (eqP i S kb) k)) cl) → va_S A s.heap H locs → lv_has ls 3 [(2, .int (nI k)), (0, .ref (ad 0)), (1, .int (nI i))] → W p l e (headSpec wsX0_enqueueOpenedBy ({ frames := 2, cells := 0, slots := 0, locals := 42 })).room s m ([.ref (ad 0), .int (nI i)] : List Value).toArray below meth c H locs 0 0 (MQ below (va_Qv (fun (_ : Unit) => True) (fun _ => oB dC dI [(cI, .int)] A (xW ad cI K row S V (nI n) kw ko kb (eqA i S kb qu q n) (nI (q + cn (eqP i S kb) n)) cl)) A) ([.ref (ad 0), .int (nI i)] : List Value).toArray s 0 0 A) (F0 m 2 ls []) := by
    intro m9
    induction m9 with
    | zero =>
      intro k H locs ls hk hP hD hS hl
      have hkn : n = k := by omega
      refine lv_iload_n hx hb dX0_enqueueOpenedBy_2 rfl (lv_at hl 0 rfl) ?_
      refine lv_aload_n hx hb dX0_enqueueOpenedBy_3 rfl (lv_at hl 1 rfl) ?_
      refine va_get (D := (dC, dI)) (ci := 0) (v := .int (nI n)) (C := RX0) (T := TX0) (N := 11) hx hb hts hw0 hown hK hP 0 rfl rfl 4 (by decide) (hts (.fieldLink RX0 16 "DropCode" "dropCount" "I") (by decide +kernel)) (fun _ h9 => h9) rfl dX0_enqueueOpenedBy_4 ?_
      refine lv_icmp_ge (tgt := 43) hx hb dX0_enqueueOpenedBy_7 (by decide) (fun c1 => ?_) (fun c1 => ?_)
      · skip
        rw [← hkn] at hP hD
        exact W.vret hx hb hr (fun t ht hW => ⟨⟨(), rfl, trivial, by rw [ht]; exact hP, va_K.moved hW.alike hK, hD⟩, hS.F ht⟩) hS.2.2 dX0_enqueueOpenedBy_43
      · skip
        exact absurd (nI_le (by omega) (by omega)) c1
    | succ m9 ih =>
      intro k H locs ls hk hP hD hS hl
      have hkn : k < n := by omega
      have hmono := cn_k (f := eqP i S kb) hkn
      refine lv_iload_n hx hb dX0_enqueueOpenedBy_2 rfl (lv_at hl 0 rfl) ?_
      refine lv_aload_n hx hb dX0_enqueueOpenedBy_3 rfl (lv_at hl 1 rfl) ?_
      refine va_get (D := (dC, dI)) (ci := 0) (v := .int (nI n)) (C := RX0) (T := TX0) (N := 11) hx hb hts hw0 hown hK hP 0 rfl rfl 4 (by decide) (hts (.fieldLink RX0 16 "DropCode" "dropCount" "I") (by decide +kernel)) (fun _ h9 => h9) rfl dX0_enqueueOpenedBy_4 ?_
      refine lv_icmp_ge (tgt := 43) hx hb dX0_enqueueOpenedBy_7 (by decide) (fun c1 => ?_) (fun c1 => ?_)
      · skip
        exact absurd c1 (nI_ge hkn (by omega))
      · skip
        refine lv_aload_n hx hb dX0_enqueueOpenedBy_10 rfl (lv_at hl 1 rfl) ?_
        refine va_get (D := (dC, dI)) (ci := 0) (v := .ref (ad 2)) (C := RX0) (T := TX0) (N := 11) hx hb hts hw0 hown hK hP 0 rfl rfl 2 (by decide) (hts (.fieldLink RX0 9 "DropCode" "dropSets" "[I") (by decide +kernel)) (fun _ h9 => h9) rfl dX0_enqueueOpenedBy_11 ?_
        refine lv_iload_n hx hb dX0_enqueueOpenedBy_14 rfl (lv_at hl 0 rfl) ?_
        refine va_iald (i := nI k) hx hb hK hP 2 0 rfl rfl (vp_in_nI (by omega : k < 60) (by omega)) dX0_enqueueOpenedBy_15 ?_
        rw [nI_clamp (by omega)]
        refine lv_iload_n hx hb dX0_enqueueOpenedBy_16 rfl (lv_at hl 2 rfl) ?_
        refine vp_callSi (W.runS (As := [.int (S k), .int (nI i)]) (rest := []) ⟨hx, hb, hml, hown, hts⟩ (c_X0_hasBit l (S k) i hi) (va_cwS 2 hts gX0_enqueueOpenedBy_X0_hasBit rfl rfl rfl (by decide +kernel) ⟨Nat.le_of_ble_eq_true rfl, Nat.le_of_ble_eq_true rfl⟩) ⟨pFb, fun U hU hW => ⟨rfl, trivial⟩⟩ rfl rfl hl.1 rfl (lv_room (Nat.le_of_ble_eq_true rfl)) dX0_enqueueOpenedBy_17 ⟨Nat.zero_le _, Nat.zero_le _⟩) (fun r_1 er_1 => ?_)
        subst er_1
        cases hbi : bt (S k) i with
        | false =>
          rw [if_neg Bool.false_ne_true]
          refine lv_if_eq (tgt := 37) hx hb dX0_enqueueOpenedBy_20 (by decide) (fun c3 => ?_) (fun c3 => ?_)
          · skip
            have hep : eqP i S kb k = false := by unfold eqP; rw [hbi]; rfl
            refine lv_iinc (v := nI (k + 1)) (lv' := [(2, .int (nI (k + 1))), (0, .ref (ad 0)), (1, .int (nI i))]) hx hb dX0_enqueueOpenedBy_37 hl (k := 0) rfl (nI_1 k) (by decide) rfl (fun ls hl => ?_)
            refine lv_goto (tgt := 2) hx hb dX0_enqueueOpenedBy_40 (by decide) ?_
            exact ih (k + 1) _ _ ls (by omega) (by rw [eqA_no hep, cn_no hep]; exact hP) (by rw [eqA_no hep, cn_no hep]; exact hD) hS (lv_sub hl [0, 1, 2] rfl)
          · skip
            exact absurd rfl c3
        | true =>
          rw [if_pos rfl]
          refine lv_if_eq (tgt := 37) hx hb dX0_enqueueOpenedBy_20 (by decide) (fun c3 => ?_) (fun c3 => ?_)
          · skip
            exact absurd c3 (by decide)
          · skip
            refine lv_aload_n hx hb dX0_enqueueOpenedBy_23 rfl (lv_at hl 1 rfl) ?_
            refine lv_iload_n hx hb dX0_enqueueOpenedBy_24 rfl (lv_at hl 0 rfl) ?_
            refine vp_callSi (W.runV (As := [.int (nI k)]) (rest := []) ⟨hx, hb, hml, hown, hts⟩ (c_X0_unknownCount l dC dI ad cI K row S V (nI n) kw ko kb (eqA i S kb qu q k) (nI (q + cn (eqP i S kb) k)) cl k (by omega)) (cwV 1 hts gX0_enqueueOpenedBy_X0_unknownCount rfl rfl rfl (by decide +kernel) ⟨Nat.le_of_ble_eq_true rfl, Nat.le_of_ble_eq_true rfl⟩) ⟨rFb, va_recv hK hP (ci := 0) (q0 := 0) rfl rfl, fun U hU hW => ⟨rfl, by rw [hU]; exact hP, va_K.moved hW.alike hK⟩⟩ rfl rfl hl.1 rfl (lv_room (Nat.le_of_ble_eq_true rfl)) dX0_enqueueOpenedBy_25 ⟨Nat.zero_le _, Nat.zero_le _⟩) (fun r_2 er_2 => ?_)
            subst er_2
            refine lv_iconst (v := 1) hx hb dX0_enqueueOpenedBy_28 (by decide) ?_
            refine lv_icmp_ne (tgt := 37) hx hb dX0_enqueueOpenedBy_29 (by decide) (fun c4 => ?_) (fun c4 => ?_)
            · skip
              have hep : eqP i S kb k = false := by unfold eqP; rw [hbi, decide_eq_false (fun h => c4 (by rw [show pc (unk (S k) kb) = 1 from h]; rfl))]; rfl
              refine lv_iinc (v := nI (k + 1)) (lv' := [(2, .int (nI (k + 1))), (0, .ref (ad 0)), (1, .int (nI i))]) hx hb dX0_enqueueOpenedBy_37 hl (k := 0) rfl (nI_1 k) (by decide) rfl (fun ls hl => ?_)
              refine lv_goto (tgt := 2) hx hb dX0_enqueueOpenedBy_40 (by decide) ?_
              exact ih (k + 1) _ _ ls (by omega) (by rw [eqA_no hep, cn_no hep]; exact hP) (by rw [eqA_no hep, cn_no hep]; exact hD) hS (lv_sub hl [0, 1, 2] rfl)
            · skip
              have hop : opn (S k) kb = 1 := nI_one (pc_le _) c4
              have hep : eqP i S kb k = true := by unfold eqP; rw [hbi, decide_eq_true hop]; rfl
              refine lv_aload_n hx hb dX0_enqueueOpenedBy_32 rfl (lv_at hl 1 rfl) ?_
              refine lv_iload_n hx hb dX0_enqueueOpenedBy_33 rfl (lv_at hl 0 rfl) ?_
              have hFc := va_free (wc := (xW ad cI K row S V (nI n) kw ko kb (eqA i S kb qu q k) (nI (q + cn (eqP i S kb) k)) cl)) hD hS hA [0, 1, 2, 3, 4, 5, 6] rfl
              refine va_callv (va_runV (As := [.int (nI k)]) (rest := []) ⟨hx, hb, hml, hown, hts⟩ (c_X0_enqueue l dC dI H.size ad cI K row S V (nI n) kw ko kb (eqA i S kb qu q k) cl (q + cn (eqP i S kb) k) (by have := cn_s (f := eqP i S kb) hep; omega) (nI k)) (cwV 1 hts gX0_enqueueOpenedBy_X0_enqueue rfl rfl rfl (by decide +kernel) ⟨Nat.le_of_ble_eq_true rfl, Nat.le_of_ble_eq_true rfl⟩) ⟨wFb, va_recv hK hP (ci := 0) (q0 := 0) rfl rfl, fun U hU hW => ⟨rfl, by rw [hU], by rw [hU]; exact hP, va_K.moved hW.alike hK, hD.weaken (fun _ _ _ _ => trivial)⟩⟩ rfl rfl hl.1 rfl (lv_room (Nat.le_of_ble_eq_true rfl)) dX0_enqueueOpenedBy_34 ⟨Nat.le_of_ble_eq_true rfl, Nat.le_of_ble_eq_true rfl⟩) hS (fun q _ h => hFc q h) hFc (fun u t H1 locs ht hvm hw hB hz1 hk1 hS => ?_)
              obtain ⟨hP1, hK1, hD1⟩ := hB
              rw [ht] at hP1
              obtain ⟨hP, hD⟩ := va_join (wr := []) (w1 := (xW ad cI K row S V (nI n) kw ko kb (upd (eqA i S kb qu q k) (q + cn (eqP i S kb) k) (nI k)) (nI (q + cn (eqP i S kb) k + 1)) cl)) hP hD [0, 1, 2, 3, 4, 5, 6] [] rfl rfl (by decide) (by decide) hk1 hFc hP1 hD1
              clear hP1 hD1 hK1 hFc hk1 hz1
              generalize H1 = H at hP hS ⊢
              have hP : va_P (dC, dI) vwCl (xW ad cI K row S V (nI n) kw ko kb (upd (eqA i S kb qu q k) (q + cn (eqP i S kb) k) (nI k)) (nI (q + cn (eqP i S kb) k + 1)) cl) H := hP
              have hD : va_D A (xW ad cI K row S V (nI n) kw ko kb (upd (eqA i S kb qu q k) (q + cn (eqP i S kb) k) (nI k)) (nI (q + cn (eqP i S kb) k + 1)) cl) := hD
              refine lv_iinc (v := nI (k + 1)) (lv' := [(2, .int (nI (k + 1))), (0, .ref (ad 0)), (1, .int (nI i))]) hx hb dX0_enqueueOpenedBy_37 hl (k := 0) rfl (nI_1 k) (by decide) rfl (fun ls hl => ?_)
              refine lv_goto (tgt := 2) hx hb dX0_enqueueOpenedBy_40 (by decide) ?_
              exact ih (k + 1) _ _ ls (by omega) (by rw [eqA_yes hep, cn_s hep, ← Nat.add_assoc]; exact hP) (by rw [eqA_yes hep, cn_s hep, ← Nat.add_assoc]; exact hD) hS (lv_sub hl [0, 1, 2] rfl)
  exact key n 0 s.heap [] ls (by omega) hP hD hS (lv_sub hl [0, 1, 2] rfl)
set_option maxHeartbeats 4000000 in
set_option maxRecDepth 100000 in
theorem c_X0_takeOut (l : Launch) (dC : Nat → ClassId) (dI : Nat → Nat → Nat) (sz : Nat) (ad : Nat → Nat) (cI : ClassId) (K : Nat) (row : Nat → Int32) (S : Nat → Int32) (V : Nat → Int32) (kw : Nat → Int32) (ko : Nat → Int32) (kb : Int32) (qu : Nat → Int32) (cl : Int32) (hK1 : 1 ≤ K) (hK2 : K ≤ 32) (n : Nat) (hn : n ≤ 60) (q : Nat) (j : Nat) (hj : j < n) (hop : opn (S j) kb ≤ 1) (hS0 : ∀ i, bt (S j) i = true → i < K) (hkb : ∀ i, bt kb i = true → i < K) (hq : (tkF K n S V j (kw, ko, kb, qu, q, cl)).2.2.2.2.1 ≤ 60) : Met l yX0_takeOut wsX0_takeOut ({ frames := 4, cells := 0, slots := 0, locals := 86 }) (va_Pc [.ref (ad 0), .int (nI j)] (wB dC dI [(cI, .int)] sz (xW ad cI K row S V (nI n) kw ko kb qu (nI q) cl))) (va_Qv (fun (_ : Unit) => True) (fun _ => oB dC dI [(cI, .int)] (va_A (xW ad cI K row S V (nI n) kw ko kb qu (nI q) cl) sz) (xW ad cI K row S V (nI n) ((tkF K n S V j (kw, ko, kb, qu, q, cl)).1) ((tkF K n S V j (kw, ko, kb, qu, q, cl)).2.1) ((tkF K n S V j (kw, ko, kb, qu, q, cl)).2.2.1) ((tkF K n S V j (kw, ko, kb, qu, q, cl)).2.2.2.1) (nI (tkF K n S V j (kw, ko, kb, qu, q, cl)).2.2.2.2.1) ((tkF K n S V j (kw, ko, kb, qu, q, cl)).2.2.2.2.2))) (va_A (xW ad cI K row S V (nI n) kw ko kb qu (nI q) cl) sz)) 0 0 (va_A (xW ad cI K row S V (nI n) kw ko kb qu (nI q) cl) sz) := by
  refine Met.ofW (cc := cX0_takeOut) (maxL := 4) (ret := none) (by decide) rfl ?_
  intro p e s m args below meth c s₁ B hml hv
  obtain ⟨rfl, hsz, hP, hK, hD0⟩ := hv
  have hx := B.exec
  have hb := B.bytes
  have hr := B.returns
  have hts := atoms_spec (ws := wsX0_takeOut) B.pre
  have hown : s.vm.findClass RX0 = some m.cls := findClass_of_methodNamed B.named
  have hlocks := B.notSynchronized
  have hw0 : ∀ w ∈ wsX00, w ∈ wsX0_takeOut := fun _ h => List.mem_cons_of_mem _ (List.mem_append_right _ h)
  subst hsz
  have hD := hD0.self (sz := s.heap.size)
  generalize hAe : va_A (xW ad cI K row S V (nI n) kw ko kb qu (nI q) cl) s.heap.size = A at hD ⊢
  have hA : ∀ q : Nat, s.heap.size ≤ q → A q := fun q h => by rw [← hAe]; exact Or.inr h
  have hS : va_S A s.heap s.heap [] := va_S.rf
  have hP : va_P (dC, dI) vwCl (xW ad cI K row S V (nI n) kw ko kb qu (nI q) cl) s.heap := hP
  have hl := lv_entry ([.ref (ad 0), .int (nI j)]) (n := 4) (Nat.le_of_ble_eq_true rfl)
  rw [lg_entry_eq]
  generalize (lg_sl ([.ref (ad 0), .int (nI j)]) ++ List.replicate (4 - (lg_sl ([.ref (ad 0), .int (nI j)])).length) Slot.unset).toArray = ls at hl ⊢
  have hl : lv_has ls 4 [(0, .ref (ad 0)), (1, .int (nI j))] := hl
  refine lv_aload_n hx hb dX0_takeOut_0 rfl (lv_at hl 0 rfl) ?_
  refine lv_iload_n hx hb dX0_takeOut_1 rfl (lv_at hl 1 rfl) ?_
  refine vp_callSi (W.runV (As := [.int (nI j)]) (rest := []) ⟨hx, hb, hml, hown, hts⟩ (c_X0_unknownBits l dC dI ad cI K row S V (nI n) kw ko kb qu (nI q) cl j (by omega)) (cwV 1 hts gX0_takeOut_X0_unknownBits rfl rfl rfl (by decide +kernel) ⟨Nat.le_of_ble_eq_true rfl, Nat.le_of_ble_eq_true rfl⟩) ⟨rFb, va_recv hK hP (ci := 0) (q0 := 0) rfl rfl, fun U hU hW => ⟨rfl, by rw [hU]; exact hP, va_K.moved hW.alike hK⟩⟩ rfl rfl hl.1 rfl (lv_room (Nat.le_of_ble_eq_true rfl)) dX0_takeOut_2 ⟨Nat.zero_le _, Nat.zero_le _⟩) (fun r_1 er_1 => ?_)
  subst er_1
  refine lv_istore_n (lv' := [(2, .int (unk (S j) kb)), (0, .ref (ad 0)), (1, .int (nI j))]) hx hb dX0_takeOut_5 rfl hl (by decide) rfl (fun ls hl => ?_)
  refine lv_iload_n hx hb dX0_takeOut_6 rfl (lv_at hl 0 rfl) ?_
  refine lv_if_ne (tgt := 16) hx hb dX0_takeOut_7 (by decide) (fun c1 => ?_) (fun c1 => ?_)
  · skip
    have hu : ¬ unk (S j) kb = 0 := c1
    have ho1 : opn (S j) kb = 1 := by rcases Nat.lt_or_ge (opn (S j) kb) 1 with g | g; exact absurd (opn_0' (by omega)) hu; omega
    obtain ⟨i, hi, e1, e2, e3⟩ := opn_1 ho1
    have hiK : i < K := hS0 i e2
    have hpc := pc_room hK2 hkb hiK e3
    have htk : tkF K n S V j (kw, ko, kb, qu, q, cl) = (upd kw i (V j ^^^ xk K kw (S j) kb), upd ko (pc kb) (nI i), kb ||| tw i, eqA i S (kb ||| tw i) qu q n, q + cn (eqP i S (kb ||| tw i)) n, cl) := by
      show (if _ then _ else _) = _
      rw [if_neg hu, e1, lo_tw i hi]
    rw [htk] at hq
    rw [htk]
    rw [e1] at hl
    refine lv_iload_n hx hb dX0_takeOut_16 rfl (lv_at hl 0 rfl) ?_
    refine vp_callSi (W.runS (As := [.int (tw i)]) (rest := []) ⟨hx, hb, hml, hown, hts⟩ (c_J6_numberOfTrailingZeros_0f7a4 l i hi) (va_cwS 1 hts gX0_takeOut_J6_numberOfTrailingZeros_0f7a4 rfl rfl rfl (by decide +kernel) ⟨Nat.le_of_ble_eq_true rfl, Nat.le_of_ble_eq_true rfl⟩) ⟨pFb, fun U hU hW => ⟨rfl, trivial⟩⟩ rfl rfl hl.1 rfl (lv_room (Nat.le_of_ble_eq_true rfl)) dX0_takeOut_17 ⟨Nat.zero_le _, Nat.zero_le _⟩) (fun r_2 er_2 => ?_)
    subst er_2
    refine lv_istore_n (lv' := [(3, .int (nI i)), (2, .int (tw i)), (0, .ref (ad 0)), (1, .int (nI j))]) hx hb dX0_takeOut_20 rfl hl (by decide) rfl (fun ls hl => ?_)
    refine lv_aload_n hx hb dX0_takeOut_21 rfl (lv_at hl 2 rfl) ?_
    refine lv_iload_n hx hb dX0_takeOut_22 rfl (lv_at hl 0 rfl) ?_
    refine lv_aload_n hx hb dX0_takeOut_23 rfl (lv_at hl 2 rfl) ?_
    refine va_get (D := (dC, dI)) (ci := 0) (v := .ref (ad 3)) (C := RX0) (T := TX0) (N := 11) hx hb hts hw0 hown hK hP 0 rfl rfl 3 (by decide) (hts (.fieldLink RX0 13 "DropCode" "dropWords" "[I") (by decide +kernel)) (fun _ h9 => h9) rfl dX0_takeOut_24 ?_
    refine lv_iload_n hx hb dX0_takeOut_27 rfl (lv_at hl 3 rfl) ?_
    refine va_iald (i := nI j) hx hb hK hP 3 0 rfl rfl (vp_in_nI (by omega : j < 60) (by omega)) dX0_takeOut_28 ?_
    rw [nI_clamp (by omega)]
    refine lv_aload_n hx hb dX0_takeOut_29 rfl (lv_at hl 2 rfl) ?_
    refine lv_iload_n hx hb dX0_takeOut_30 rfl (lv_at hl 3 rfl) ?_
    refine vp_callSi (W.runV (As := [.int (nI j)]) (rest := [.int (V j), .int (nI i), .ref (ad 0)]) ⟨hx, hb, hml, hown, hts⟩ (c_X0_xorOfKnown l dC dI ad cI K row S V (nI n) kw ko kb qu (nI q) cl hK1 hK2 j (by omega)) (cwV 1 hts gX0_takeOut_X0_xorOfKnown rfl rfl rfl (by decide +kernel) ⟨Nat.le_of_ble_eq_true rfl, Nat.le_of_ble_eq_true rfl⟩) ⟨rFb, va_recv hK hP (ci := 0) (q0 := 0) rfl rfl, fun U hU hW => ⟨rfl, by rw [hU]; exact hP, va_K.moved hW.alike hK⟩⟩ rfl rfl hl.1 rfl (lv_room (Nat.le_of_ble_eq_true rfl)) dX0_takeOut_31 ⟨Nat.zero_le _, Nat.zero_le _⟩) (fun r_3 er_3 => ?_)
    subst er_3
    refine lv_ixor hx hb dX0_takeOut_34 ?_
    refine lv_topi (fun z_4 ez_4 => ?_)
    have ez_4 : z_4 = V j ^^^ xk K kw (S j) kb := ez_4.trans (rfl)
    subst ez_4
    have hFc := va_free (wc := (xW ad cI K row S V (nI n) kw ko kb qu (nI q) cl)) hD hS hA [0, 1, 2, 3, 4, 5, 6] rfl
    refine va_callv (va_runV (As := [.int (nI i), .int (V j ^^^ xk K kw (S j) kb)]) (rest := []) ⟨hx, hb, hml, hown, hts⟩ (c_X0_learn l dC dI s.heap.size ad cI K row S V (nI n) kw ko kb qu (nI q) cl hK1 hK2 i hiK hpc (V j ^^^ xk K kw (S j) kb)) (cwV 2 hts gX0_takeOut_X0_learn rfl rfl rfl (by decide +kernel) ⟨Nat.le_of_ble_eq_true rfl, Nat.le_of_ble_eq_true rfl⟩) ⟨wFb, va_recv hK hP (ci := 0) (q0 := 0) rfl rfl, fun U hU hW => ⟨rfl, by rw [hU], by rw [hU]; exact hP, va_K.moved hW.alike hK, hD.weaken (fun _ _ _ _ => trivial)⟩⟩ rfl rfl hl.1 rfl (lv_room (Nat.le_of_ble_eq_true rfl)) dX0_takeOut_35 ⟨Nat.le_of_ble_eq_true rfl, Nat.le_of_ble_eq_true rfl⟩) hS (fun q _ h => hFc q h) hFc (fun u t H1 locs ht hvm hw hB hz1 hk1 hS => ?_)
    obtain ⟨hP1, hK1, hD1⟩ := hB
    rw [ht] at hP1
    obtain ⟨hP, hD⟩ := va_join (wr := []) (w1 := (xW ad cI K row S V (nI n) (upd kw i (V j ^^^ xk K kw (S j) kb)) (upd ko (pc kb) (nI i)) (kb ||| tw i) qu (nI q) cl)) hP hD [0, 1, 2, 3, 4, 5, 6] [] rfl rfl (by decide) (by decide) hk1 hFc hP1 hD1
    clear hP1 hD1 hK1 hFc hk1 hz1
    generalize H1 = H at hP hS ⊢
    have hP : va_P (dC, dI) vwCl (xW ad cI K row S V (nI n) (upd kw i (V j ^^^ xk K kw (S j) kb)) (upd ko (pc kb) (nI i)) (kb ||| tw i) qu (nI q) cl) H := hP
    have hD : va_D A (xW ad cI K row S V (nI n) (upd kw i (V j ^^^ xk K kw (S j) kb)) (upd ko (pc kb) (nI i)) (kb ||| tw i) qu (nI q) cl) := hD
    refine lv_aload_n hx hb dX0_takeOut_38 rfl (lv_at hl 2 rfl) ?_
    refine lv_iload_n hx hb dX0_takeOut_39 rfl (lv_at hl 0 rfl) ?_
    have hFc := va_free (wc := (xW ad cI K row S V (nI n) (upd kw i (V j ^^^ xk K kw (S j) kb)) (upd ko (pc kb) (nI i)) (kb ||| tw i) qu (nI q) cl)) hD hS hA [0, 1, 2, 3, 4, 5, 6] rfl
    refine va_callv (va_runV (As := [.int (nI i)]) (rest := []) ⟨hx, hb, hml, hown, hts⟩ (c_X0_enqueueOpenedBy l dC dI H.size ad cI K row S V (upd kw i (V j ^^^ xk K kw (S j) kb)) (upd ko (pc kb) (nI i)) (kb ||| tw i) qu cl n hn q i hi hq) (cwV 1 hts gX0_takeOut_X0_enqueueOpenedBy rfl rfl rfl (by decide +kernel) ⟨Nat.le_of_ble_eq_true rfl, Nat.le_of_ble_eq_true rfl⟩) ⟨wFb, va_recv hK hP (ci := 0) (q0 := 0) rfl rfl, fun U hU hW => ⟨rfl, by rw [hU], by rw [hU]; exact hP, va_K.moved hW.alike hK, hD.weaken (fun _ _ _ _ => trivial)⟩⟩ rfl rfl hl.1 rfl (lv_room (Nat.le_of_ble_eq_true rfl)) dX0_takeOut_40 ⟨Nat.le_of_ble_eq_true rfl, Nat.le_of_ble_eq_true rfl⟩) hS (fun q _ h => hFc q h) hFc (fun u t H1 locs ht hvm hw hB hz1 hk1 hS => ?_)
    obtain ⟨hP1, hK1, hD1⟩ := hB
    rw [ht] at hP1
    obtain ⟨hP, hD⟩ := va_join (wr := []) (w1 := (xW ad cI K row S V (nI n) (upd kw i (V j ^^^ xk K kw (S j) kb)) (upd ko (pc kb) (nI i)) (kb ||| tw i) (eqA i S (kb ||| tw i) qu q n) (nI (q + cn (eqP i S (kb ||| tw i)) n)) cl)) hP hD [0, 1, 2, 3, 4, 5, 6] [] rfl rfl (by decide) (by decide) hk1 hFc hP1 hD1
    clear hP1 hD1 hK1 hFc hk1 hz1
    generalize H1 = H at hP hS ⊢
    have hP : va_P (dC, dI) vwCl (xW ad cI K row S V (nI n) (upd kw i (V j ^^^ xk K kw (S j) kb)) (upd ko (pc kb) (nI i)) (kb ||| tw i) (eqA i S (kb ||| tw i) qu q n) (nI (q + cn (eqP i S (kb ||| tw i)) n)) cl) H := hP
    have hD : va_D A (xW ad cI K row S V (nI n) (upd kw i (V j ^^^ xk K kw (S j) kb)) (upd ko (pc kb) (nI i)) (kb ||| tw i) (eqA i S (kb ||| tw i) qu q n) (nI (q + cn (eqP i S (kb ||| tw i)) n)) cl) := hD
    exact W.vret hx hb hr (fun t ht hW => ⟨⟨(), rfl, trivial, by rw [ht]; exact hP, va_K.moved hW.alike hK, hD⟩, hS.F ht⟩) hS.2.2 dX0_takeOut_43
  · skip
    have hu : unk (S j) kb = 0 := c1
    rw [show tkF K n S V j (kw, ko, kb, qu, q, cl) = (kw, ko, kb, qu, q, clA K kw (S j) kb (V j) cl) from if_pos hu]
    refine lv_aload_n hx hb dX0_takeOut_10 rfl (lv_at hl 1 rfl) ?_
    refine lv_iload_n hx hb dX0_takeOut_11 rfl (lv_at hl 2 rfl) ?_
    have hFc := va_free (wc := (xW ad cI K row S V (nI n) kw ko kb qu (nI q) cl)) hD hS hA [0, 1, 2, 3, 4, 5, 6] rfl
    refine va_callv (va_runV (As := [.int (nI j)]) (rest := []) ⟨hx, hb, hml, hown, hts⟩ (c_X0_noteIfClash l dC dI s.heap.size ad cI K row S V (nI n) kw ko kb qu (nI q) cl hK1 hK2 j (by omega)) (cwV 1 hts gX0_takeOut_X0_noteIfClash rfl rfl rfl (by decide +kernel) ⟨Nat.le_of_ble_eq_true rfl, Nat.le_of_ble_eq_true rfl⟩) ⟨wFb, va_recv hK hP (ci := 0) (q0 := 0) rfl rfl, fun U hU hW => ⟨rfl, by rw [hU], by rw [hU]; exact hP, va_K.moved hW.alike hK, hD.weaken (fun _ _ _ _ => trivial)⟩⟩ rfl rfl hl.1 rfl (lv_room (Nat.le_of_ble_eq_true rfl)) dX0_takeOut_12 ⟨Nat.le_of_ble_eq_true rfl, Nat.le_of_ble_eq_true rfl⟩) hS (fun q _ h => hFc q h) hFc (fun u t H1 locs ht hvm hw hB hz1 hk1 hS => ?_)
    obtain ⟨hP1, hK1, hD1⟩ := hB
    rw [ht] at hP1
    obtain ⟨hP, hD⟩ := va_join (wr := []) (w1 := (xW ad cI K row S V (nI n) kw ko kb qu (nI q) (clA K kw (S j) kb (V j) cl))) hP hD [0, 1, 2, 3, 4, 5, 6] [] rfl rfl (by decide) (by decide) hk1 hFc hP1 hD1
    clear hP1 hD1 hK1 hFc hk1 hz1
    generalize H1 = H at hP hS ⊢
    have hP : va_P (dC, dI) vwCl (xW ad cI K row S V (nI n) kw ko kb qu (nI q) (clA K kw (S j) kb (V j) cl)) H := hP
    have hD : va_D A (xW ad cI K row S V (nI n) kw ko kb qu (nI q) (clA K kw (S j) kb (V j) cl)) := hD
    exact W.vret hx hb hr (fun t ht hW => ⟨⟨(), rfl, trivial, by rw [ht]; exact hP, va_K.moved hW.alike hK, hD⟩, hS.F ht⟩) hS.2.2 dX0_takeOut_15
set_option maxHeartbeats 4000000 in
set_option maxRecDepth 100000 in
theorem c_X0_runQueue (l : Launch) (dC : Nat → ClassId) (dI : Nat → Nat → Nat) (sz : Nat) (ad : Nat → Nat) (cI : ClassId) (K : Nat) (row : Nat → Int32) (S : Nat → Int32) (V : Nat → Int32) (hK1 : 1 ≤ K) (hK2 : K ≤ 32) (n : Nat) (hn : n ≤ 60) (z : QS) (hS0 : ∀ j, j < n → ∀ i, bt (S j) i = true → i < K) (hI : qInv K n S 0 z) : Met l yX0_runQueue wsX0_runQueue ({ frames := 5, cells := 0, slots := 0, locals := 109 }) (va_Pc [.ref (ad 0)] (wB dC dI [(cI, .int)] sz (xW ad cI K row S V (nI n) z.1 z.2.1 z.2.2.1 z.2.2.2.1 (nI z.2.2.2.2.1) z.2.2.2.2.2))) (va_Qv (fun (_ : Unit) => True) (fun _ => oB dC dI [(cI, .int)] (va_A (xW ad cI K row S V (nI n) z.1 z.2.1 z.2.2.1 z.2.2.2.1 (nI z.2.2.2.2.1) z.2.2.2.2.2) sz) (xW ad cI K row S V (nI n) ((rnF K n S V 60 0 z).1) ((rnF K n S V 60 0 z).2.1) ((rnF K n S V 60 0 z).2.2.1) ((rnF K n S V 60 0 z).2.2.2.1) (nI (rnF K n S V 60 0 z).2.2.2.2.1) ((rnF K n S V 60 0 z).2.2.2.2.2))) (va_A (xW ad cI K row S V (nI n) z.1 z.2.1 z.2.2.1 z.2.2.2.1 (nI z.2.2.2.2.1) z.2.2.2.2.2) sz)) 0 0 (va_A (xW ad cI K row S V (nI n) z.1 z.2.1 z.2.2.1 z.2.2.2.1 (nI z.2.2.2.2.1) z.2.2.2.2.2) sz) := by
  refine Met.ofW (cc := cX0_runQueue) (maxL := 2) (ret := none) (by decide) rfl ?_
  intro p e s m args below meth c s₁ B hml hv
  obtain ⟨rfl, hsz, hP, hK, hD0⟩ := hv
  have hx := B.exec
  have hb := B.bytes
  have hr := B.returns
  have hts := atoms_spec (ws := wsX0_runQueue) B.pre
  have hown : s.vm.findClass RX0 = some m.cls := findClass_of_methodNamed B.named
  have hlocks := B.notSynchronized
  have hw0 : ∀ w ∈ wsX00, w ∈ wsX0_runQueue := fun _ h => List.mem_cons_of_mem _ (List.mem_append_right _ h)
  subst hsz
  have hD := hD0.self (sz := s.heap.size)
  generalize hAe : va_A (xW ad cI K row S V (nI n) z.1 z.2.1 z.2.2.1 z.2.2.2.1 (nI z.2.2.2.2.1) z.2.2.2.2.2) s.heap.size = A at hD ⊢
  have hA : ∀ q : Nat, s.heap.size ≤ q → A q := fun q h => by rw [← hAe]; exact Or.inr h
  have hS : va_S A s.heap s.heap [] := va_S.rf
  have hP : va_P (dC, dI) vwCl (xW ad cI K row S V (nI n) z.1 z.2.1 z.2.2.1 z.2.2.2.1 (nI z.2.2.2.2.1) z.2.2.2.2.2) s.heap := hP
  have hl := lv_entry ([.ref (ad 0)]) (n := 2) (Nat.le_of_ble_eq_true rfl)
  rw [lg_entry_eq]
  generalize (lg_sl ([.ref (ad 0)]) ++ List.replicate (2 - (lg_sl ([.ref (ad 0)])).length) Slot.unset).toArray = ls at hl ⊢
  have hl : lv_has ls 2 [(0, .ref (ad 0))] := hl
  refine lv_iconst (v := 0) hx hb dX0_runQueue_0 (by decide) ?_
  refine lv_istore_n (lv' := [(1, .int 0), (0, .ref (ad 0))]) hx hb dX0_runQueue_1 rfl hl (by decide) rfl (fun ls hl => ?_)
  have key : ∀ (f h : Nat) (y : QS) (H : Heap) (locs : List Loc) (ls : Array Slot), f + h = 60 → qInv K n S h y → rnF K n S V f h y = rnF K n S V 60 0 z → va_P (dC, dI) vwCl (xW ad cI K row S V (nI n) y.1 y.2.1 y.2.2.1 y.2.2.2.1 (nI y.2.2.2.2.1) y.2.2.2.2.2) H → va_D A (xW ad cI K row S V (nI n) y.1 y.2.1 y.2.2.1 y.2.2.2.1 (nI y.2.2.2.2.1) y.2.2.2.2.2) → va_S A s.heap H locs → lv_has ls 2 [(1, .int (nI h)), (0, .ref (ad 0))] → W p l e (headSpec wsX0_runQueue ({ frames := 5, cells := 0, slots := 0, locals := 109 })).room s m ([.ref (ad 0)] : List Value).toArray below meth c H locs 0 0 (MQ below (va_Qv (fun (_ : Unit) => True) (fun _ => oB dC dI [(cI, .int)] A (xW ad cI K row S V (nI n) ((rnF K n S V 60 0 z).1) ((rnF K n S V 60 0 z).2.1) ((rnF K n S V 60 0 z).2.2.1) ((rnF K n S V 60 0 z).2.2.2.1) (nI (rnF K n S V 60 0 z).2.2.2.2.1) ((rnF K n S V 60 0 z).2.2.2.2.2))) A) ([.ref (ad 0)] : List Value).toArray s 0 0 A) (F0 m 2 ls []) := by
    intro f
    induction f with
    | zero =>
      intro h y H locs ls hf hy hv hP hD hS hl
      rw [← hv]
      refine lv_iload_n hx hb dX0_runQueue_2 rfl (lv_at hl 0 rfl) ?_
      refine lv_bipush (v := 60) hx hb dX0_runQueue_3 (by decide) ?_
      refine lv_icmp_ge (tgt := 32) hx hb dX0_runQueue_5 (by decide) (fun c1 => ?_) (fun c1 => ?_)
      · skip
        exact W.vret hx hb hr (fun t ht hW => ⟨⟨(), rfl, trivial, by rw [ht]; exact hP, va_K.moved hW.alike hK, hD⟩, hS.F ht⟩) hS.2.2 dX0_runQueue_32
      · skip
        exact absurd (nI_le (a := 60) (b := h) (by omega) (by omega)) c1
    | succ f ih =>
      intro h y H locs ls hf hy hv hP hD hS hl
      have hqn := qInv_le hy
      refine lv_iload_n hx hb dX0_runQueue_2 rfl (lv_at hl 0 rfl) ?_
      refine lv_bipush (v := 60) hx hb dX0_runQueue_3 (by decide) ?_
      refine lv_icmp_ge (tgt := 32) hx hb dX0_runQueue_5 (by decide) (fun c1 => ?_) (fun c1 => ?_)
      · skip
        exact absurd c1 (nI_ge (a := h) (b := 60) (by omega) (by omega))
      · skip
        refine lv_iload_n hx hb dX0_runQueue_8 rfl (lv_at hl 0 rfl) ?_
        refine lv_aload_n hx hb dX0_runQueue_9 rfl (lv_at hl 1 rfl) ?_
        refine va_get (D := (dC, dI)) (ci := 0) (v := .int (nI y.2.2.2.2.1)) (C := RX0) (T := TX0) (N := 11) hx hb hts hw0 hown hK hP 0 rfl rfl 9 (by decide) (hts (.fieldLink RX0 26 "DropCode" "queueEnd" "I") (by decide +kernel)) (fun _ h9 => h9) rfl dX0_runQueue_10 ?_
        refine lv_icmp_ge (tgt := 32) hx hb dX0_runQueue_13 (by decide) (fun c2 => ?_) (fun c2 => ?_)
        · skip
          have hle : ¬ h < y.2.2.2.2.1 := fun a => absurd c2 (nI_ge a (by omega))
          rw [← hv, rnF, if_neg hle]
          exact W.vret hx hb hr (fun t ht hW => ⟨⟨(), rfl, trivial, by rw [ht]; exact hP, va_K.moved hW.alike hK, hD⟩, hS.F ht⟩) hS.2.2 dX0_runQueue_32
        · skip
          have hlt : h < y.2.2.2.2.1 := by rcases Nat.lt_or_ge h y.2.2.2.2.1 with a | a; exact a; exact absurd (nI_le a (by omega)) c2
          obtain ⟨j, hj, ej, hop⟩ := hy.2.2.1 h hlt
          have hy2 := qInv_tk (V := V) hK2 hn hS0 hy hlt hj ej
          have hq2 := qInv_le hy2
          refine lv_aload_n hx hb dX0_runQueue_16 rfl (lv_at hl 1 rfl) ?_
          refine lv_aload_n hx hb dX0_runQueue_17 rfl (lv_at hl 1 rfl) ?_
          refine va_get (D := (dC, dI)) (ci := 0) (v := .ref (ad 6)) (C := RX0) (T := TX0) (N := 11) hx hb hts hw0 hown hK hP 0 rfl rfl 8 (by decide) (hts (.fieldLink RX0 23 "DropCode" "queue" "[I") (by decide +kernel)) (fun _ h9 => h9) rfl dX0_runQueue_18 ?_
          refine lv_iload_n hx hb dX0_runQueue_21 rfl (lv_at hl 0 rfl) ?_
          refine va_iald (i := nI h) hx hb hK hP 6 0 rfl rfl (vp_in_nI (by omega : h < 60) (by omega)) dX0_runQueue_22 ?_
          rw [nI_clamp (by omega)]
          refine lv_topi (fun z_1 ez_1 => ?_)
          have ez_1 : z_1 = nI j := ez_1.trans (ej)
          subst ez_1
          have hFc := va_free (wc := (xW ad cI K row S V (nI n) y.1 y.2.1 y.2.2.1 y.2.2.2.1 (nI y.2.2.2.2.1) y.2.2.2.2.2)) hD hS hA [0, 1, 2, 3, 4, 5, 6] rfl
          refine va_callv (va_runV (As := [.int (nI j)]) (rest := []) ⟨hx, hb, hml, hown, hts⟩ (c_X0_takeOut l dC dI H.size ad cI K row S V y.1 y.2.1 y.2.2.1 y.2.2.2.1 y.2.2.2.2.2 hK1 hK2 n hn y.2.2.2.2.1 j hj hop (hS0 j hj) hy.1 (Nat.le_trans hq2 hn)) (cwV 1 hts gX0_runQueue_X0_takeOut rfl rfl rfl (by decide +kernel) ⟨Nat.le_of_ble_eq_true rfl, Nat.le_of_ble_eq_true rfl⟩) ⟨wFb, va_recv hK hP (ci := 0) (q0 := 0) rfl rfl, fun U hU hW => ⟨rfl, by rw [hU], by rw [hU]; exact hP, va_K.moved hW.alike hK, hD.weaken (fun _ _ _ _ => trivial)⟩⟩ rfl rfl hl.1 rfl (lv_room (Nat.le_of_ble_eq_true rfl)) dX0_runQueue_23 ⟨Nat.le_of_ble_eq_true rfl, Nat.le_of_ble_eq_true rfl⟩) hS (fun q _ h => hFc q h) hFc (fun u t H1 locs ht hvm hw hB hz1 hk1 hS => ?_)
          obtain ⟨hP1, hK1, hD1⟩ := hB
          rw [ht] at hP1
          obtain ⟨hP, hD⟩ := va_join (wr := []) (w1 := (xW ad cI K row S V (nI n) ((tkF K n S V j y).1) ((tkF K n S V j y).2.1) ((tkF K n S V j y).2.2.1) ((tkF K n S V j y).2.2.2.1) (nI (tkF K n S V j y).2.2.2.2.1) ((tkF K n S V j y).2.2.2.2.2))) hP hD [0, 1, 2, 3, 4, 5, 6] [] rfl rfl (by decide) (by decide) hk1 hFc hP1 hD1
          clear hP1 hD1 hK1 hFc hk1 hz1
          generalize H1 = H at hP hS ⊢
          have hP : va_P (dC, dI) vwCl (xW ad cI K row S V (nI n) ((tkF K n S V j y).1) ((tkF K n S V j y).2.1) ((tkF K n S V j y).2.2.1) ((tkF K n S V j y).2.2.2.1) (nI (tkF K n S V j y).2.2.2.2.1) ((tkF K n S V j y).2.2.2.2.2)) H := hP
          have hD : va_D A (xW ad cI K row S V (nI n) ((tkF K n S V j y).1) ((tkF K n S V j y).2.1) ((tkF K n S V j y).2.2.1) ((tkF K n S V j y).2.2.2.1) (nI (tkF K n S V j y).2.2.2.2.1) ((tkF K n S V j y).2.2.2.2.2)) := hD
          refine lv_iinc (v := nI (h + 1)) (lv' := [(1, .int (nI (h + 1))), (0, .ref (ad 0))]) hx hb dX0_runQueue_26 hl (k := 0) rfl (nI_1 h) (by decide) rfl (fun ls hl => ?_)
          refine lv_goto (tgt := 2) hx hb dX0_runQueue_29 (by decide) ?_
          exact ih (h + 1) (tkF K n S V j y) _ _ ls (by omega) hy2 (by rw [← hv, rnF, if_pos hlt, ej, nI_clamp (by omega)]) hP hD hS (lv_sub hl [0, 1] rfl)
  exact key 60 0 z s.heap [] ls (by omega) hI rfl hP hD hS (lv_sub hl [0, 1] rfl)
end
section
def knF (K : Nat) (kb i : Int32) : Int32 := if inR K i then (if bt kb i.toNatClampNeg then 1 else 0) else -1
def wdF (K : Nat) (kb : Int32) (kw : Nat → Int32) (i : Int32) : Int32 := if inR K i ∧ bt kb i.toNatClampNeg = true then kw i.toNatClampNeg else 0
def odF (n : Nat) (ko : Nat → Int32) (i : Int32) : Int32 := if inR n i then ko i.toNatClampNeg else -1
def opF (n : Nat) (S : Nat → Int32) (kb i : Int32) : Int32 := if inR n i then nI (opn (S i.toNatClampNeg) kb) else -1
def ptF (K : Nat) (row : Nat → Int32) (i v : Int32) : Nat → Int32 := if inR K i then upd row i.toNatClampNeg v else row
theorem nI_zero {a : Nat} (ha : a ≤ 32) (h : nI a = 0) : a = 0 := (nI_eq (a := a) (b := 0) (by omega) (by omega)).mp h
/-- a drop n has come: the receiver as its queue begins to run -/
def rcI (K n : Nat) (S V kw ko : Nat → Int32) (kb : Int32) (qu : Nat → Int32) (cl : Int32) : QS :=
  (kw, ko, kb, (if opn (S n) kb = 1 then upd qu 0 (nI n) else qu), (if opn (S n) kb = 1 then 1 else 0), (if opn (S n) kb = 0 then clA K kw (S n) kb (V n) cl else cl))
theorem rc_0 {K n : Nat} {S V kw ko : Nat → Int32} {kb : Int32} {qu : Nat → Int32} {cl : Int32} (h : opn (S n) kb = 0) : rcI K n S V kw ko kb qu cl = (kw, ko, kb, qu, 0, clA K kw (S n) kb (V n) cl) := by
  unfold rcI
  rw [if_neg (by omega), if_neg (by omega), if_pos h]
theorem rc_1 {K n : Nat} {S V kw ko : Nat → Int32} {kb : Int32} {qu : Nat → Int32} {cl : Int32} (h : opn (S n) kb = 1) : rcI K n S V kw ko kb qu cl = (kw, ko, kb, upd qu 0 (nI n), 1, cl) := by
  unfold rcI
  rw [if_pos h, if_pos h, if_neg (by omega)]
theorem rc_2 {K n : Nat} {S V kw ko : Nat → Int32} {kb : Int32} {qu : Nat → Int32} {cl : Int32} (h : ¬ opn (S n) kb = 1) (h2 : ¬ opn (S n) kb = 0) : rcI K n S V kw ko kb qu cl = (kw, ko, kb, qu, 0, cl) := by
  unfold rcI
  rw [if_neg h, if_neg h, if_neg h2]
theorem rc_S {K n : Nat} (hK1 : 1 ≤ K) (hK2 : K ≤ 32) {S : Nat → Int32} {seed : Int32} (hS0 : ∀ j, j < n → ∀ i, bt (S j) i = true → i < K) : ∀ j, j < n + 1 → ∀ i, bt (upd S n (setA K seed) j) i = true → i < K := by
  intro j hj i h
  by_cases q : j = n
  · subst q; rw [pk_us] at h; exact setA_lt hK1 hK2 _ h
  · rw [pk_un q] at h; exact hS0 j (by omega) i h
theorem rc_inv {K n : Nat} {S V kw ko : Nat → Int32} {b kb : Int32} {qu : Nat → Int32} {cl : Int32} (hkb : ∀ i, bt kb i = true → i < K) (hno : ∀ j, j < n → ¬ opn (S j) kb = 1) : qInv K (n + 1) (upd S n b) 0 (rcI K n (upd S n b) V kw ko kb qu cl) := by
  have hno' : ∀ j, j < n → ¬ opn (upd S n b j) kb = 1 := fun j hj => by rw [pk_un (by omega)]; exact hno j hj
  by_cases h : opn (upd S n b n) kb = 1
  · rw [rc_1 h]
    refine ⟨hkb, Nat.zero_le _, ?_, ?_, ?_, ?_⟩
    · intro x hx
      have hx : x < 1 := hx
      have : x = 0 := by omega
      subst this
      exact ⟨n, by omega, (pk_us : upd qu 0 (nI n) 0 = nI n), by show opn _ kb ≤ 1; omega⟩
    · intro j hj ho
      have : j = n := by
        rcases Nat.lt_or_ge j n with g | g
        · exact absurd ho (hno' j g)
        · omega
      subst this
      exact ⟨0, Nat.le_refl 0, by show 0 < 1; omega, (pk_us : upd qu 0 (nI j) 0 = nI j)⟩
    · show 1 ≤ cn _ (n + 1)
      rw [cn]
      have : decide (opn (upd S n b n) kb ≤ 1) = true := decide_eq_true (by omega)
      show 1 ≤ _ + (if decide (opn (upd S n b n) kb ≤ 1) = true then 1 else 0)
      rw [this, if_pos rfl]
      omega
    · intro x y hx hy _
      have hx : x < 1 := hx
      have hy : y < 1 := hy
      omega
  · have hz : ∃ cl', rcI K n (upd S n b) V kw ko kb qu cl = (kw, ko, kb, qu, 0, cl') := by
      by_cases h0 : opn (upd S n b n) kb = 0
      · exact ⟨_, rc_0 h0⟩
      · exact ⟨_, rc_2 h h0⟩
    obtain ⟨cl', hz⟩ := hz
    rw [hz]
    refine ⟨hkb, Nat.zero_le _, ?_, ?_, Nat.zero_le _, ?_⟩
    · intro x hx
      have hx : x < 0 := hx
      omega
    · intro j hj ho
      exfalso
      rcases Nat.lt_or_ge j n with g | g
      · exact hno' j g ho
      · have : j = n := by omega
        subst this
        exact h ho
    · intro x y hx _ _
      have hx : x < 0 := hx
      omega
set_option maxHeartbeats 4000000 in
set_option maxRecDepth 100000 in
theorem c_X0_drops (l : Launch) (dC : Nat → ClassId) (dI : Nat → Nat → Nat) (ad : Nat → Nat) (cI : ClassId) (K : Nat) (row S V : Nat → Int32) (dc : Int32) (kw ko : Nat → Int32) (kb : Int32) (qu : Nat → Int32) (qe cl : Int32) : Met l yX0_drops wsX0_drops ({ frames := 0, cells := 0, slots := 0, locals := 0 }) (va_Pc [.ref (ad 0)] (rB dC dI [(cI, .int)] (xW ad cI K row S V dc kw ko kb qu qe cl))) (vp_Si (fun r => r = dc)) 0 0 (fun _ => False) := by
  refine Met.ofW (cc := cX0_drops) (maxL := 1) (ret := (some .int)) (by decide) rfl ?_
  intro p e s m args below meth c s₁ B hml hv
  obtain ⟨rfl, hP, hK⟩ := hv
  have hx := B.exec
  have hb := B.bytes
  have hr := B.returns
  have hts := atoms_spec (ws := wsX0_drops) B.pre
  have hown : s.vm.findClass RX0 = some m.cls := findClass_of_methodNamed B.named
  have hlocks := B.notSynchronized
  have hw0 : ∀ w ∈ wsX00, w ∈ wsX0_drops := fun _ h => List.mem_cons_of_mem _ (List.mem_append_right _ h)
  have hl := lv_entry ([.ref (ad 0)]) (n := 1) (Nat.le_of_ble_eq_true rfl)
  rw [lg_entry_eq]
  generalize (lg_sl ([.ref (ad 0)]) ++ List.replicate (1 - (lg_sl ([.ref (ad 0)])).length) Slot.unset).toArray = ls at hl ⊢
  have hl : lv_has ls 1 [(0, .ref (ad 0))] := hl
  refine lv_aload_n hx hb dX0_drops_0 rfl (lv_at hl 0 rfl) ?_
  refine va_get (D := (dC, dI)) (ci := 0) (v := .int dc) (C := RX0) (T := TX0) (N := 11) hx hb hts hw0 hown hK hP 0 rfl rfl 4 (by decide) (hts (.fieldLink RX0 16 "DropCode" "dropCount" "I") (by decide +kernel)) (fun _ h9 => h9) rfl dX0_drops_1 ?_
  exact W.iret (v := dc) hx hb hr (fun t ht hW => ⟨dc, rfl, rfl, ht⟩) (fun _ h9 => by cases h9) dX0_drops_4
set_option maxHeartbeats 4000000 in
set_option maxRecDepth 100000 in
theorem c_X0_clashes (l : Launch) (dC : Nat → ClassId) (dI : Nat → Nat → Nat) (ad : Nat → Nat) (cI : ClassId) (K : Nat) (row S V : Nat → Int32) (dc : Int32) (kw ko : Nat → Int32) (kb : Int32) (qu : Nat → Int32) (qe cl : Int32) : Met l yX0_clashes wsX0_clashes ({ frames := 0, cells := 0, slots := 0, locals := 0 }) (va_Pc [.ref (ad 0)] (rB dC dI [(cI, .int)] (xW ad cI K row S V dc kw ko kb qu qe cl))) (vp_Si (fun r => r = cl)) 0 0 (fun _ => False) := by
  refine Met.ofW (cc := cX0_clashes) (maxL := 1) (ret := (some .int)) (by decide) rfl ?_
  intro p e s m args below meth c s₁ B hml hv
  obtain ⟨rfl, hP, hK⟩ := hv
  have hx := B.exec
  have hb := B.bytes
  have hr := B.returns
  have hts := atoms_spec (ws := wsX0_clashes) B.pre
  have hown : s.vm.findClass RX0 = some m.cls := findClass_of_methodNamed B.named
  have hlocks := B.notSynchronized
  have hw0 : ∀ w ∈ wsX00, w ∈ wsX0_clashes := fun _ h => List.mem_cons_of_mem _ (List.mem_append_right _ h)
  have hl := lv_entry ([.ref (ad 0)]) (n := 1) (Nat.le_of_ble_eq_true rfl)
  rw [lg_entry_eq]
  generalize (lg_sl ([.ref (ad 0)]) ++ List.replicate (1 - (lg_sl ([.ref (ad 0)])).length) Slot.unset).toArray = ls at hl ⊢
  have hl : lv_has ls 1 [(0, .ref (ad 0))] := hl
  refine lv_aload_n hx hb dX0_clashes_0 rfl (lv_at hl 0 rfl) ?_
  refine va_get (D := (dC, dI)) (ci := 0) (v := .int cl) (C := RX0) (T := TX0) (N := 11) hx hb hts hw0 hown hK hP 0 rfl rfl 10 (by decide) (hts (.fieldLink RX0 29 "DropCode" "clashCount" "I") (by decide +kernel)) (fun _ h9 => h9) rfl dX0_clashes_1 ?_
  exact W.iret (v := cl) hx hb hr (fun t ht hW => ⟨cl, rfl, rfl, ht⟩) (fun _ h9 => by cases h9) dX0_clashes_4
set_option maxHeartbeats 4000000 in
set_option maxRecDepth 100000 in
theorem c_X0_count (l : Launch) (dC : Nat → ClassId) (dI : Nat → Nat → Nat) (ad : Nat → Nat) (cI : ClassId) (K : Nat) (row S V : Nat → Int32) (dc : Int32) (kw ko : Nat → Int32) (kb : Int32) (qu : Nat → Int32) (qe cl : Int32) : Met l yX0_count wsX0_count ({ frames := 2, cells := 0, slots := 0, locals := 40 }) (va_Pc [.ref (ad 0)] (rB dC dI [(cI, .int)] (xW ad cI K row S V dc kw ko kb qu qe cl))) (vp_Si (fun r => r = nI (pc kb))) 0 0 (fun _ => False) := by
  refine Met.ofW (cc := cX0_count) (maxL := 1) (ret := (some .int)) (by decide) rfl ?_
  intro p e s m args below meth c s₁ B hml hv
  obtain ⟨rfl, hP, hK⟩ := hv
  have hx := B.exec
  have hb := B.bytes
  have hr := B.returns
  have hts := atoms_spec (ws := wsX0_count) B.pre
  have hown : s.vm.findClass RX0 = some m.cls := findClass_of_methodNamed B.named
  have hlocks := B.notSynchronized
  have hw0 : ∀ w ∈ wsX00, w ∈ wsX0_count := fun _ h => List.mem_cons_of_mem _ (List.mem_append_right _ h)
  have hl := lv_entry ([.ref (ad 0)]) (n := 1) (Nat.le_of_ble_eq_true rfl)
  rw [lg_entry_eq]
  generalize (lg_sl ([.ref (ad 0)]) ++ List.replicate (1 - (lg_sl ([.ref (ad 0)])).length) Slot.unset).toArray = ls at hl ⊢
  have hl : lv_has ls 1 [(0, .ref (ad 0))] := hl
  refine lv_aload_n hx hb dX0_count_0 rfl (lv_at hl 0 rfl) ?_
  refine vp_callSi (W.runV (As := []) (rest := []) ⟨hx, hb, hml, hown, hts⟩ (c_X0_knownCount l dC dI ad cI K row S V dc kw ko kb qu qe cl) (cwV 0 hts gX0_count_X0_knownCount rfl rfl rfl (by decide +kernel) ⟨Nat.le_of_ble_eq_true rfl, Nat.le_of_ble_eq_true rfl⟩) ⟨rFb, va_recv hK hP (ci := 0) (q0 := 0) rfl rfl, fun U hU hW => ⟨rfl, by rw [hU]; exact hP, va_K.moved hW.alike hK⟩⟩ rfl rfl hl.1 rfl (lv_room (Nat.le_of_ble_eq_true rfl)) dX0_count_1 ⟨Nat.zero_le _, Nat.zero_le _⟩) (fun r_1 er_1 => ?_)
  subst er_1
  exact W.iret (v := nI (pc kb)) hx hb hr (fun t ht hW => ⟨nI (pc kb), rfl, rfl, ht⟩) (fun _ h9 => by cases h9) dX0_count_4
set_option maxHeartbeats 4000000 in
set_option maxRecDepth 100000 in
theorem c_X0_set (l : Launch) (dC : Nat → ClassId) (dI : Nat → Nat → Nat) (ad : Nat → Nat) (cI : ClassId) (K : Nat) (row S V : Nat → Int32) (dc : Int32) (kw ko : Nat → Int32) (kb : Int32) (qu : Nat → Int32) (qe cl : Int32) (hK1 : 1 ≤ K) (hK2 : K ≤ 32) (seed : Int32) : Met l yX0_set wsX0_set ({ frames := 2, cells := 0, slots := 0, locals := 48 }) (va_Pc [.ref (ad 0), .int seed] (rB dC dI [(cI, .int)] (xW ad cI K row S V dc kw ko kb qu qe cl))) (vp_Si (fun r => r = setA K seed)) 0 0 (fun _ => False) := by
  refine Met.ofW (cc := cX0_set) (maxL := 2) (ret := (some .int)) (by decide) rfl ?_
  intro p e s m args below meth c s₁ B hml hv
  obtain ⟨rfl, hP, hK⟩ := hv
  have hx := B.exec
  have hb := B.bytes
  have hr := B.returns
  have hts := atoms_spec (ws := wsX0_set) B.pre
  have hown : s.vm.findClass RX0 = some m.cls := findClass_of_methodNamed B.named
  have hlocks := B.notSynchronized
  have hw0 : ∀ w ∈ wsX00, w ∈ wsX0_set := fun _ h => List.mem_cons_of_mem _ (List.mem_append_right _ h)
  have hl := lv_entry ([.ref (ad 0), .int seed]) (n := 2) (Nat.le_of_ble_eq_true rfl)
  rw [lg_entry_eq]
  generalize (lg_sl ([.ref (ad 0), .int seed]) ++ List.replicate (2 - (lg_sl ([.ref (ad 0), .int seed])).length) Slot.unset).toArray = ls at hl ⊢
  have hl : lv_has ls 2 [(0, .ref (ad 0)), (1, .int seed)] := hl
  refine lv_aload_n hx hb dX0_set_0 rfl (lv_at hl 0 rfl) ?_
  refine lv_iload_n hx hb dX0_set_1 rfl (lv_at hl 1 rfl) ?_
  refine vp_callSi (W.runV (As := [.int seed]) (rest := []) ⟨hx, hb, hml, hown, hts⟩ (c_X0_setOf l dC dI ad cI K row S V dc kw ko kb qu qe cl hK1 hK2 seed) (cwV 1 hts gX0_set_X0_setOf rfl rfl rfl (by decide +kernel) ⟨Nat.le_of_ble_eq_true rfl, Nat.le_of_ble_eq_true rfl⟩) ⟨rFb, va_recv hK hP (ci := 0) (q0 := 0) rfl rfl, fun U hU hW => ⟨rfl, by rw [hU]; exact hP, va_K.moved hW.alike hK⟩⟩ rfl rfl hl.1 rfl (lv_room (Nat.le_of_ble_eq_true rfl)) dX0_set_2 ⟨Nat.zero_le _, Nat.zero_le _⟩) (fun r_1 er_1 => ?_)
  subst er_1
  exact W.iret (v := setA K seed) hx hb hr (fun t ht hW => ⟨setA K seed, rfl, rfl, ht⟩) (fun _ h9 => by cases h9) dX0_set_5
set_option maxHeartbeats 4000000 in
set_option maxRecDepth 100000 in
theorem c_X0_degree (l : Launch) (dC : Nat → ClassId) (dI : Nat → Nat → Nat) (ad : Nat → Nat) (cI : ClassId) (K : Nat) (row S V : Nat → Int32) (dc : Int32) (kw ko : Nat → Int32) (kb : Int32) (qu : Nat → Int32) (qe cl : Int32) (hK1 : 1 ≤ K) (hK2 : K ≤ 32) (seed : Int32) : Met l yX0_degree wsX0_degree ({ frames := 1, cells := 0, slots := 0, locals := 23 }) (va_Pc [.ref (ad 0), .int seed] (rB dC dI [(cI, .int)] (xW ad cI K row S V dc kw ko kb qu qe cl))) (vp_Si (fun r => r = nI (dg K (dr (ns seed))))) 0 0 (fun _ => False) := by
  refine Met.ofW (cc := cX0_degree) (maxL := 2) (ret := (some .int)) (by decide) rfl ?_
  intro p e s m args below meth c s₁ B hml hv
  obtain ⟨rfl, hP, hK⟩ := hv
  have hx := B.exec
  have hb := B.bytes
  have hr := B.returns
  have hts := atoms_spec (ws := wsX0_degree) B.pre
  have hown : s.vm.findClass RX0 = some m.cls := findClass_of_methodNamed B.named
  have hlocks := B.notSynchronized
  have hw0 : ∀ w ∈ wsX00, w ∈ wsX0_degree := fun _ h => List.mem_cons_of_mem _ (List.mem_append_right _ h)
  have hl := lv_entry ([.ref (ad 0), .int seed]) (n := 2) (Nat.le_of_ble_eq_true rfl)
  rw [lg_entry_eq]
  generalize (lg_sl ([.ref (ad 0), .int seed]) ++ List.replicate (2 - (lg_sl ([.ref (ad 0), .int seed])).length) Slot.unset).toArray = ls at hl ⊢
  have hl : lv_has ls 2 [(0, .ref (ad 0)), (1, .int seed)] := hl
  refine lv_aload_n hx hb dX0_degree_0 rfl (lv_at hl 0 rfl) ?_
  refine lv_iload_n hx hb dX0_degree_1 rfl (lv_at hl 1 rfl) ?_
  refine vp_callSi (W.runS (As := [.int seed]) (rest := [.ref (ad 0)]) ⟨hx, hb, hml, hown, hts⟩ (c_X0_nextState l seed) (va_cwS 1 hts gX0_degree_X0_nextState rfl rfl rfl (by decide +kernel) ⟨Nat.le_of_ble_eq_true rfl, Nat.le_of_ble_eq_true rfl⟩) ⟨pFb, fun U hU hW => ⟨rfl, trivial⟩⟩ rfl rfl hl.1 rfl (lv_room (Nat.le_of_ble_eq_true rfl)) dX0_degree_2 ⟨Nat.zero_le _, Nat.zero_le _⟩) (fun r_1 er_1 => ?_)
  subst er_1
  refine vp_callSi (W.runS (As := [.int (ns seed)]) (rest := [.ref (ad 0)]) ⟨hx, hb, hml, hown, hts⟩ (c_X0_drawn l (ns seed)) (va_cwS 1 hts gX0_degree_X0_drawn rfl rfl rfl (by decide +kernel) ⟨Nat.le_of_ble_eq_true rfl, Nat.le_of_ble_eq_true rfl⟩) ⟨pFb, fun U hU hW => ⟨rfl, trivial⟩⟩ rfl rfl hl.1 rfl (lv_room (Nat.le_of_ble_eq_true rfl)) dX0_degree_5 ⟨Nat.zero_le _, Nat.zero_le _⟩) (fun r_2 er_2 => ?_)
  subst er_2
  refine vp_callSi (W.runV (As := [.int (nI (dr (ns seed)))]) (rest := []) ⟨hx, hb, hml, hown, hts⟩ (c_X0_degreeOf l dC dI ad cI K row S V dc kw ko kb qu qe cl hK1 hK2 _ (dr_lt _)) (cwV 1 hts gX0_degree_X0_degreeOf rfl rfl rfl (by decide +kernel) ⟨Nat.le_of_ble_eq_true rfl, Nat.le_of_ble_eq_true rfl⟩) ⟨rFb, va_recv hK hP (ci := 0) (q0 := 0) rfl rfl, fun U hU hW => ⟨rfl, by rw [hU]; exact hP, va_K.moved hW.alike hK⟩⟩ rfl rfl hl.1 rfl (lv_room (Nat.le_of_ble_eq_true rfl)) dX0_degree_8 ⟨Nat.zero_le _, Nat.zero_le _⟩) (fun r_3 er_3 => ?_)
  subst er_3
  exact W.iret (v := nI (dg K (dr (ns seed)))) hx hb hr (fun t ht hW => ⟨nI (dg K (dr (ns seed))), rfl, rfl, ht⟩) (fun _ h9 => by cases h9) dX0_degree_11
set_option maxHeartbeats 4000000 in
set_option maxRecDepth 100000 in
theorem c_X0_drop (l : Launch) (dC : Nat → ClassId) (dI : Nat → Nat → Nat) (ad : Nat → Nat) (cI : ClassId) (K : Nat) (row S V : Nat → Int32) (dc : Int32) (kw ko : Nat → Int32) (kb : Int32) (qu : Nat → Int32) (qe cl : Int32) (hK1 : 1 ≤ K) (hK2 : K ≤ 32) (seed : Int32) : Met l yX0_drop wsX0_drop ({ frames := 2, cells := 0, slots := 0, locals := 48 }) (va_Pc [.ref (ad 0), .int seed] (rB dC dI [(cI, .int)] (xW ad cI K row S V dc kw ko kb qu qe cl))) (vp_Si (fun r => r = xf row (setA K seed) K)) 0 0 (fun _ => False) := by
  refine Met.ofW (cc := cX0_drop) (maxL := 2) (ret := (some .int)) (by decide) rfl ?_
  intro p e s m args below meth c s₁ B hml hv
  obtain ⟨rfl, hP, hK⟩ := hv
  have hx := B.exec
  have hb := B.bytes
  have hr := B.returns
  have hts := atoms_spec (ws := wsX0_drop) B.pre
  have hown : s.vm.findClass RX0 = some m.cls := findClass_of_methodNamed B.named
  have hlocks := B.notSynchronized
  have hw0 : ∀ w ∈ wsX00, w ∈ wsX0_drop := fun _ h => List.mem_cons_of_mem _ (List.mem_append_right _ h)
  have hl := lv_entry ([.ref (ad 0), .int seed]) (n := 2) (Nat.le_of_ble_eq_true rfl)
  rw [lg_entry_eq]
  generalize (lg_sl ([.ref (ad 0), .int seed]) ++ List.replicate (2 - (lg_sl ([.ref (ad 0), .int seed])).length) Slot.unset).toArray = ls at hl ⊢
  have hl : lv_has ls 2 [(0, .ref (ad 0)), (1, .int seed)] := hl
  refine lv_aload_n hx hb dX0_drop_0 rfl (lv_at hl 0 rfl) ?_
  refine va_get (D := (dC, dI)) (ci := 0) (v := .ref (ad 1)) (C := RX0) (T := TX0) (N := 11) hx hb hts hw0 hown hK hP 0 rfl rfl 1 (by decide) (hts (.fieldLink RX0 41 "DropCode" "row" "[I") (by decide +kernel)) (fun _ h9 => h9) rfl dX0_drop_1 ?_
  refine lv_aload_n hx hb dX0_drop_4 rfl (lv_at hl 0 rfl) ?_
  refine lv_iload_n hx hb dX0_drop_5 rfl (lv_at hl 1 rfl) ?_
  refine vp_callSi (W.runV (As := [.int seed]) (rest := [.ref (ad 1)]) ⟨hx, hb, hml, hown, hts⟩ (c_X0_setOf l dC dI ad cI K row S V dc kw ko kb qu qe cl hK1 hK2 seed) (cwV 1 hts gX0_drop_X0_setOf rfl rfl rfl (by decide +kernel) ⟨Nat.le_of_ble_eq_true rfl, Nat.le_of_ble_eq_true rfl⟩) ⟨rFb, va_recv hK hP (ci := 0) (q0 := 0) rfl rfl, fun U hU hW => ⟨rfl, by rw [hU]; exact hP, va_K.moved hW.alike hK⟩⟩ rfl rfl hl.1 rfl (lv_room (Nat.le_of_ble_eq_true rfl)) dX0_drop_6 ⟨Nat.zero_le _, Nat.zero_le _⟩) (fun r_1 er_1 => ?_)
  subst er_1
  have hPc := hP.sub (ws' := [(ad 1, .inl (cI, K, .inl row))]) [1] rfl
  refine vp_callSi (W.runS (As := [.ref (ad 1), .int (setA K seed)]) (rest := []) ⟨hx, hb, hml, hown, hts⟩ (c_X0_xorOf l dC dI (ad 1) cI K hK2 row (setA K seed)) (va_cwS 2 hts gX0_drop_X0_xorOf rfl rfl rfl (by decide +kernel) ⟨Nat.le_of_ble_eq_true rfl, Nat.le_of_ble_eq_true rfl⟩) ⟨rFb, fun U hU hW => ⟨rfl, by rw [hU]; exact hPc, va_K.moved hW.alike hK⟩⟩ rfl rfl hl.1 rfl (lv_room (Nat.le_of_ble_eq_true rfl)) dX0_drop_9 ⟨Nat.zero_le _, Nat.zero_le _⟩) (fun r_2 er_2 => ?_)
  subst er_2
  exact W.iret (v := xf row (setA K seed) K) hx hb hr (fun t ht hW => ⟨xf row (setA K seed) K, rfl, rfl, ht⟩) (fun _ h9 => by cases h9) dX0_drop_12
set_option maxHeartbeats 4000000 in
set_option maxRecDepth 100000 in
theorem c_X0_known (l : Launch) (dC : Nat → ClassId) (dI : Nat → Nat → Nat) (ad : Nat → Nat) (cI : ClassId) (K : Nat) (row S V : Nat → Int32) (dc : Int32) (kw ko : Nat → Int32) (kb : Int32) (qu : Nat → Int32) (qe cl : Int32) (hK1 : 1 ≤ K) (hK2 : K ≤ 32) (i : Int32) : Met l yX0_known wsX0_known ({ frames := 2, cells := 0, slots := 0, locals := 42 }) (va_Pc [.ref (ad 0), .int i] (rB dC dI [(cI, .int)] (xW ad cI K row S V dc kw ko kb qu qe cl))) (vp_Si (fun r => r = knF K kb i)) 0 0 (fun _ => False) := by
  refine Met.ofW (cc := cX0_known) (maxL := 2) (ret := (some .int)) (by decide) rfl ?_
  intro p e s m args below meth c s₁ B hml hv
  obtain ⟨rfl, hP, hK⟩ := hv
  have hx := B.exec
  have hb := B.bytes
  have hr := B.returns
  have hts := atoms_spec (ws := wsX0_known) B.pre
  have hown : s.vm.findClass RX0 = some m.cls := findClass_of_methodNamed B.named
  have hlocks := B.notSynchronized
  have hw0 : ∀ w ∈ wsX00, w ∈ wsX0_known := fun _ h => List.mem_cons_of_mem _ (List.mem_append_right _ h)
  have hl := lv_entry ([.ref (ad 0), .int i]) (n := 2) (Nat.le_of_ble_eq_true rfl)
  rw [lg_entry_eq]
  generalize (lg_sl ([.ref (ad 0), .int i]) ++ List.replicate (2 - (lg_sl ([.ref (ad 0), .int i])).length) Slot.unset).toArray = ls at hl ⊢
  have hl : lv_has ls 2 [(0, .ref (ad 0)), (1, .int i)] := hl
  by_cases h : inR K i
  · skip
    obtain ⟨j, hj, rfl⟩ := inR_ix (by omega) h
    refine lv_aload_n hx hb dX0_known_0 rfl (lv_at hl 0 rfl) ?_
    refine lv_iload_n hx hb dX0_known_1 rfl (lv_at hl 1 rfl) ?_
    refine vp_callSi (W.runV (As := [.int (nI j)]) (rest := []) ⟨hx, hb, hml, hown, hts⟩ (c_X0_isInRow l dC dI ad cI K row S V dc kw ko kb qu qe cl hK1 hK2 (nI j)) (cwV 1 hts gX0_known_X0_isInRow rfl rfl rfl (by decide +kernel) ⟨Nat.le_of_ble_eq_true rfl, Nat.le_of_ble_eq_true rfl⟩) ⟨rFb, va_recv hK hP (ci := 0) (q0 := 0) rfl rfl, fun U hU hW => ⟨rfl, by rw [hU]; exact hP, va_K.moved hW.alike hK⟩⟩ rfl rfl hl.1 rfl (lv_room (Nat.le_of_ble_eq_true rfl)) dX0_known_2 ⟨Nat.zero_le _, Nat.zero_le _⟩) (fun r_1 er_1 => ?_)
    subst er_1
    refine lv_topi (fun z_2 ez_2 => ?_)
    have ez_2 : z_2 = 1 := ez_2.trans (if_pos h)
    subst ez_2
    refine lv_if_ne (tgt := 10) hx hb dX0_known_5 (by decide) (fun c1 => ?_) (fun c1 => ?_)
    · skip
      refine lv_aload_n hx hb dX0_known_10 rfl (lv_at hl 0 rfl) ?_
      refine lv_iload_n hx hb dX0_known_11 rfl (lv_at hl 1 rfl) ?_
      refine vp_callSi (W.runV (As := [.int (nI j)]) (rest := []) ⟨hx, hb, hml, hown, hts⟩ (c_X0_isKnown l dC dI ad cI K row S V dc kw ko kb qu qe cl j (by omega)) (cwV 1 hts gX0_known_X0_isKnown rfl rfl rfl (by decide +kernel) ⟨Nat.le_of_ble_eq_true rfl, Nat.le_of_ble_eq_true rfl⟩) ⟨rFb, va_recv hK hP (ci := 0) (q0 := 0) rfl rfl, fun U hU hW => ⟨rfl, by rw [hU]; exact hP, va_K.moved hW.alike hK⟩⟩ rfl rfl hl.1 rfl (lv_room (Nat.le_of_ble_eq_true rfl)) dX0_known_12 ⟨Nat.zero_le _, Nat.zero_le _⟩) (fun r_3 er_3 => ?_)
      subst er_3
      cases hb9 : bt kb j with
      | false =>
        rw [if_neg Bool.false_ne_true]
        refine lv_if_eq (tgt := 22) hx hb dX0_known_15 (by decide) (fun c3 => ?_) (fun c3 => ?_)
        · skip
          refine lv_iconst (v := 0) hx hb dX0_known_22 (by decide) ?_
          exact W.iret (v := 0) hx hb hr (fun t ht hW => ⟨0, rfl, by show (0 : Int32) = knF K kb (nI j); rw [knF, if_pos h, nI_clamp (by omega), hb9]; rfl, ht⟩) (fun _ h9 => by cases h9) dX0_known_23
        · skip
          exact absurd rfl c3
      | true =>
        rw [if_pos rfl]
        refine lv_if_eq (tgt := 22) hx hb dX0_known_15 (by decide) (fun c3 => ?_) (fun c3 => ?_)
        · skip
          exact absurd c3 (by decide)
        · skip
          refine lv_iconst (v := 1) hx hb dX0_known_18 (by decide) ?_
          refine lv_goto (tgt := 23) hx hb dX0_known_19 (by decide) ?_
          exact W.iret (v := 1) hx hb hr (fun t ht hW => ⟨1, rfl, by show (1 : Int32) = knF K kb (nI j); rw [knF, if_pos h, nI_clamp (by omega), hb9]; rfl, ht⟩) (fun _ h9 => by cases h9) dX0_known_23
    · skip
      exact absurd c1 (by decide)
  · skip
    refine lv_aload_n hx hb dX0_known_0 rfl (lv_at hl 0 rfl) ?_
    refine lv_iload_n hx hb dX0_known_1 rfl (lv_at hl 1 rfl) ?_
    refine vp_callSi (W.runV (As := [.int i]) (rest := []) ⟨hx, hb, hml, hown, hts⟩ (c_X0_isInRow l dC dI ad cI K row S V dc kw ko kb qu qe cl hK1 hK2 i) (cwV 1 hts gX0_known_X0_isInRow rfl rfl rfl (by decide +kernel) ⟨Nat.le_of_ble_eq_true rfl, Nat.le_of_ble_eq_true rfl⟩) ⟨rFb, va_recv hK hP (ci := 0) (q0 := 0) rfl rfl, fun U hU hW => ⟨rfl, by rw [hU]; exact hP, va_K.moved hW.alike hK⟩⟩ rfl rfl hl.1 rfl (lv_room (Nat.le_of_ble_eq_true rfl)) dX0_known_2 ⟨Nat.zero_le _, Nat.zero_le _⟩) (fun r_1 er_1 => ?_)
    subst er_1
    refine lv_topi (fun z_2 ez_2 => ?_)
    have ez_2 : z_2 = 0 := ez_2.trans (if_neg h)
    subst ez_2
    refine lv_if_ne (tgt := 10) hx hb dX0_known_5 (by decide) (fun c1 => ?_) (fun c1 => ?_)
    · skip
      exact absurd rfl c1
    · skip
      refine lv_iconst (v := (-1)) hx hb dX0_known_8 (by decide) ?_
      exact W.iret (v := (-1)) hx hb hr (fun t ht hW => ⟨(-1), rfl, by show (-1 : Int32) = knF K kb i; rw [knF, if_neg h], ht⟩) (fun _ h9 => by cases h9) dX0_known_9
set_option maxHeartbeats 4000000 in
set_option maxRecDepth 100000 in
theorem c_X0_word (l : Launch) (dC : Nat → ClassId) (dI : Nat → Nat → Nat) (ad : Nat → Nat) (cI : ClassId) (K : Nat) (row S V : Nat → Int32) (dc : Int32) (kw ko : Nat → Int32) (kb : Int32) (qu : Nat → Int32) (qe cl : Int32) (hK1 : 1 ≤ K) (hK2 : K ≤ 32) (i : Int32) : Met l yX0_word wsX0_word ({ frames := 2, cells := 0, slots := 0, locals := 42 }) (va_Pc [.ref (ad 0), .int i] (rB dC dI [(cI, .int)] (xW ad cI K row S V dc kw ko kb qu qe cl))) (vp_Si (fun r => r = wdF K kb kw i)) 0 0 (fun _ => False) := by
  refine Met.ofW (cc := cX0_word) (maxL := 2) (ret := (some .int)) (by decide) rfl ?_
  intro p e s m args below meth c s₁ B hml hv
  obtain ⟨rfl, hP, hK⟩ := hv
  have hx := B.exec
  have hb := B.bytes
  have hr := B.returns
  have hts := atoms_spec (ws := wsX0_word) B.pre
  have hown : s.vm.findClass RX0 = some m.cls := findClass_of_methodNamed B.named
  have hlocks := B.notSynchronized
  have hw0 : ∀ w ∈ wsX00, w ∈ wsX0_word := fun _ h => List.mem_cons_of_mem _ (List.mem_append_right _ h)
  have hl := lv_entry ([.ref (ad 0), .int i]) (n := 2) (Nat.le_of_ble_eq_true rfl)
  rw [lg_entry_eq]
  generalize (lg_sl ([.ref (ad 0), .int i]) ++ List.replicate (2 - (lg_sl ([.ref (ad 0), .int i])).length) Slot.unset).toArray = ls at hl ⊢
  have hl : lv_has ls 2 [(0, .ref (ad 0)), (1, .int i)] := hl
  by_cases h : inR K i
  · skip
    obtain ⟨j, hj, rfl⟩ := inR_ix (by omega) h
    refine lv_aload_n hx hb dX0_word_0 rfl (lv_at hl 0 rfl) ?_
    refine lv_iload_n hx hb dX0_word_1 rfl (lv_at hl 1 rfl) ?_
    refine vp_callSi (W.runV (As := [.int (nI j)]) (rest := []) ⟨hx, hb, hml, hown, hts⟩ (c_X0_isInRow l dC dI ad cI K row S V dc kw ko kb qu qe cl hK1 hK2 (nI j)) (cwV 1 hts gX0_word_X0_isInRow rfl rfl rfl (by decide +kernel) ⟨Nat.le_of_ble_eq_true rfl, Nat.le_of_ble_eq_true rfl⟩) ⟨rFb, va_recv hK hP (ci := 0) (q0 := 0) rfl rfl, fun U hU hW => ⟨rfl, by rw [hU]; exact hP, va_K.moved hW.alike hK⟩⟩ rfl rfl hl.1 rfl (lv_room (Nat.le_of_ble_eq_true rfl)) dX0_word_2 ⟨Nat.zero_le _, Nat.zero_le _⟩) (fun r_1 er_1 => ?_)
    subst er_1
    refine lv_topi (fun z_2 ez_2 => ?_)
    have ez_2 : z_2 = 1 := ez_2.trans (if_pos h)
    subst ez_2
    refine lv_if_eq (tgt := 25) hx hb dX0_word_5 (by decide) (fun c1 => ?_) (fun c1 => ?_)
    · skip
      exact absurd c1 (by decide)
    · skip
      refine lv_aload_n hx hb dX0_word_8 rfl (lv_at hl 0 rfl) ?_
      refine lv_iload_n hx hb dX0_word_9 rfl (lv_at hl 1 rfl) ?_
      refine vp_callSi (W.runV (As := [.int (nI j)]) (rest := []) ⟨hx, hb, hml, hown, hts⟩ (c_X0_isKnown l dC dI ad cI K row S V dc kw ko kb qu qe cl j (by omega)) (cwV 1 hts gX0_word_X0_isKnown rfl rfl rfl (by decide +kernel) ⟨Nat.le_of_ble_eq_true rfl, Nat.le_of_ble_eq_true rfl⟩) ⟨rFb, va_recv hK hP (ci := 0) (q0 := 0) rfl rfl, fun U hU hW => ⟨rfl, by rw [hU]; exact hP, va_K.moved hW.alike hK⟩⟩ rfl rfl hl.1 rfl (lv_room (Nat.le_of_ble_eq_true rfl)) dX0_word_10 ⟨Nat.zero_le _, Nat.zero_le _⟩) (fun r_3 er_3 => ?_)
      subst er_3
      cases hb9 : bt kb j with
      | false =>
        rw [if_neg Bool.false_ne_true]
        refine lv_if_eq (tgt := 25) hx hb dX0_word_13 (by decide) (fun c3 => ?_) (fun c3 => ?_)
        · skip
          refine lv_iconst (v := 0) hx hb dX0_word_25 (by decide) ?_
          exact W.iret (v := 0) hx hb hr (fun t ht hW => ⟨0, rfl, by show (0 : Int32) = wdF K kb kw (nI j); rw [wdF, if_neg (by rw [nI_clamp (by omega), hb9]; exact fun q => Bool.false_ne_true q.2)], ht⟩) (fun _ h9 => by cases h9) dX0_word_26
        · skip
          exact absurd rfl c3
      | true =>
        rw [if_pos rfl]
        refine lv_if_eq (tgt := 25) hx hb dX0_word_13 (by decide) (fun c3 => ?_) (fun c3 => ?_)
        · skip
          exact absurd c3 (by decide)
        · skip
          refine lv_aload_n hx hb dX0_word_16 rfl (lv_at hl 0 rfl) ?_
          refine va_get (D := (dC, dI)) (ci := 0) (v := .ref (ad 4)) (C := RX0) (T := TX0) (N := 11) hx hb hts hw0 hown hK hP 0 rfl rfl 5 (by decide) (hts (.fieldLink RX0 44 "DropCode" "knownWords" "[I") (by decide +kernel)) (fun _ h9 => h9) rfl dX0_word_17 ?_
          refine lv_iload_n hx hb dX0_word_20 rfl (lv_at hl 1 rfl) ?_
          refine va_iald (i := nI j) hx hb hK hP 4 0 rfl rfl (vp_in_nI hj (by omega)) dX0_word_21 ?_
          rw [nI_clamp (by omega)]
          refine lv_goto (tgt := 26) hx hb dX0_word_22 (by decide) ?_
          exact W.iret (v := kw j) hx hb hr (fun t ht hW => ⟨kw j, rfl, by show kw j = wdF K kb kw (nI j); rw [wdF, if_pos (by rw [nI_clamp (by omega)]; exact ⟨h, hb9⟩), nI_clamp (by omega)], ht⟩) (fun _ h9 => by cases h9) dX0_word_26
  · skip
    refine lv_aload_n hx hb dX0_word_0 rfl (lv_at hl 0 rfl) ?_
    refine lv_iload_n hx hb dX0_word_1 rfl (lv_at hl 1 rfl) ?_
    refine vp_callSi (W.runV (As := [.int i]) (rest := []) ⟨hx, hb, hml, hown, hts⟩ (c_X0_isInRow l dC dI ad cI K row S V dc kw ko kb qu qe cl hK1 hK2 i) (cwV 1 hts gX0_word_X0_isInRow rfl rfl rfl (by decide +kernel) ⟨Nat.le_of_ble_eq_true rfl, Nat.le_of_ble_eq_true rfl⟩) ⟨rFb, va_recv hK hP (ci := 0) (q0 := 0) rfl rfl, fun U hU hW => ⟨rfl, by rw [hU]; exact hP, va_K.moved hW.alike hK⟩⟩ rfl rfl hl.1 rfl (lv_room (Nat.le_of_ble_eq_true rfl)) dX0_word_2 ⟨Nat.zero_le _, Nat.zero_le _⟩) (fun r_1 er_1 => ?_)
    subst er_1
    refine lv_topi (fun z_2 ez_2 => ?_)
    have ez_2 : z_2 = 0 := ez_2.trans (if_neg h)
    subst ez_2
    refine lv_if_eq (tgt := 25) hx hb dX0_word_5 (by decide) (fun c1 => ?_) (fun c1 => ?_)
    · skip
      refine lv_iconst (v := 0) hx hb dX0_word_25 (by decide) ?_
      exact W.iret (v := 0) hx hb hr (fun t ht hW => ⟨0, rfl, by show (0 : Int32) = wdF K kb kw i; rw [wdF, if_neg (fun q => h q.1)], ht⟩) (fun _ h9 => by cases h9) dX0_word_26
    · skip
      exact absurd rfl c1
set_option maxHeartbeats 4000000 in
set_option maxRecDepth 100000 in
theorem c_X0_order (l : Launch) (dC : Nat → ClassId) (dI : Nat → Nat → Nat) (ad : Nat → Nat) (cI : ClassId) (K : Nat) (row S V : Nat → Int32) (dc : Int32) (kw ko : Nat → Int32) (kb : Int32) (qu : Nat → Int32) (qe cl : Int32) (hK1 : 1 ≤ K) (hK2 : K ≤ 32) (hkc : pc kb ≤ K) (i : Int32) : Met l yX0_order wsX0_order ({ frames := 2, cells := 0, slots := 0, locals := 40 }) (va_Pc [.ref (ad 0), .int i] (rB dC dI [(cI, .int)] (xW ad cI K row S V dc kw ko kb qu qe cl))) (vp_Si (fun r => r = odF (pc kb) ko i)) 0 0 (fun _ => False) := by
  refine Met.ofW (cc := cX0_order) (maxL := 2) (ret := (some .int)) (by decide) rfl ?_
  intro p e s m args below meth c s₁ B hml hv
  obtain ⟨rfl, hP, hK⟩ := hv
  have hx := B.exec
  have hb := B.bytes
  have hr := B.returns
  have hts := atoms_spec (ws := wsX0_order) B.pre
  have hown : s.vm.findClass RX0 = some m.cls := findClass_of_methodNamed B.named
  have hlocks := B.notSynchronized
  have hw0 : ∀ w ∈ wsX00, w ∈ wsX0_order := fun _ h => List.mem_cons_of_mem _ (List.mem_append_right _ h)
  have hl := lv_entry ([.ref (ad 0), .int i]) (n := 2) (Nat.le_of_ble_eq_true rfl)
  rw [lg_entry_eq]
  generalize (lg_sl ([.ref (ad 0), .int i]) ++ List.replicate (2 - (lg_sl ([.ref (ad 0), .int i])).length) Slot.unset).toArray = ls at hl ⊢
  have hl : lv_has ls 2 [(0, .ref (ad 0)), (1, .int i)] := hl
  refine lv_iload_n hx hb dX0_order_0 rfl (lv_at hl 1 rfl) ?_
  refine lv_if_lt (tgt := 21) hx hb dX0_order_1 (by decide) (fun c1 => ?_) (fun c1 => ?_)
  · skip
    refine lv_iconst (v := (-1)) hx hb dX0_order_21 (by decide) ?_
    exact W.iret (v := (-1)) hx hb hr (fun t ht hW => ⟨(-1), rfl, by show (-1 : Int32) = odF (pc kb) ko i; rw [odF, if_neg (fun q => inR_neg q c1)], ht⟩) (fun _ h9 => by cases h9) dX0_order_22
  · skip
    refine lv_iload_n hx hb dX0_order_4 rfl (lv_at hl 1 rfl) ?_
    refine lv_aload_n hx hb dX0_order_5 rfl (lv_at hl 0 rfl) ?_
    refine vp_callSi (W.runV (As := []) (rest := [.int i]) ⟨hx, hb, hml, hown, hts⟩ (c_X0_knownCount l dC dI ad cI K row S V dc kw ko kb qu qe cl) (cwV 0 hts gX0_order_X0_knownCount rfl rfl rfl (by decide +kernel) ⟨Nat.le_of_ble_eq_true rfl, Nat.le_of_ble_eq_true rfl⟩) ⟨rFb, va_recv hK hP (ci := 0) (q0 := 0) rfl rfl, fun U hU hW => ⟨rfl, by rw [hU]; exact hP, va_K.moved hW.alike hK⟩⟩ rfl rfl hl.1 rfl (lv_room (Nat.le_of_ble_eq_true rfl)) dX0_order_6 ⟨Nat.zero_le _, Nat.zero_le _⟩) (fun r_1 er_1 => ?_)
    subst er_1
    refine lv_icmp_ge (tgt := 21) hx hb dX0_order_9 (by decide) (fun c2 => ?_) (fun c2 => ?_)
    · skip
      refine lv_iconst (v := (-1)) hx hb dX0_order_21 (by decide) ?_
      exact W.iret (v := (-1)) hx hb hr (fun t ht hW => ⟨(-1), rfl, by show (-1 : Int32) = odF (pc kb) ko i; rw [odF, if_neg (fun q => inR_ge q c2)], ht⟩) (fun _ h9 => by cases h9) dX0_order_22
    · skip
      have h := inR_of c1 c2
      obtain ⟨j, hj, rfl⟩ := inR_ix (by omega) h
      refine lv_aload_n hx hb dX0_order_12 rfl (lv_at hl 0 rfl) ?_
      refine va_get (D := (dC, dI)) (ci := 0) (v := .ref (ad 5)) (C := RX0) (T := TX0) (N := 11) hx hb hts hw0 hown hK hP 0 rfl rfl 6 (by decide) (hts (.fieldLink RX0 47 "DropCode" "knownOrder" "[I") (by decide +kernel)) (fun _ h9 => h9) rfl dX0_order_13 ?_
      refine lv_iload_n hx hb dX0_order_16 rfl (lv_at hl 1 rfl) ?_
      refine va_iald (i := nI j) hx hb hK hP 5 0 rfl rfl (vp_in_nI (by omega : j < K) (by omega)) dX0_order_17 ?_
      rw [nI_clamp (by omega)]
      refine lv_goto (tgt := 22) hx hb dX0_order_18 (by decide) ?_
      exact W.iret (v := ko j) hx hb hr (fun t ht hW => ⟨ko j, rfl, by show ko j = odF (pc kb) ko (nI j); rw [odF, if_pos h, nI_clamp (by omega)], ht⟩) (fun _ h9 => by cases h9) dX0_order_22
set_option maxHeartbeats 4000000 in
set_option maxRecDepth 100000 in
theorem c_X0_open (l : Launch) (dC : Nat → ClassId) (dI : Nat → Nat → Nat) (ad : Nat → Nat) (cI : ClassId) (K : Nat) (row : Nat → Int32) (S : Nat → Int32) (V : Nat → Int32) (kw : Nat → Int32) (ko : Nat → Int32) (kb : Int32) (qu : Nat → Int32) (qe : Int32) (cl : Int32) (n : Nat) (hn : n ≤ 60) (i : Int32) : Met l yX0_open wsX0_open ({ frames := 2, cells := 0, slots := 0, locals := 42 }) (va_Pc [.ref (ad 0), .int i] (rB dC dI [(cI, .int)] (xW ad cI K row S V (nI n) kw ko kb qu qe cl))) (vp_Si (fun r => r = opF n S kb i)) 0 0 (fun _ => False) := by
  refine Met.ofW (cc := cX0_open) (maxL := 2) (ret := (some .int)) (by decide) rfl ?_
  intro p e s m args below meth c s₁ B hml hv
  obtain ⟨rfl, hP, hK⟩ := hv
  have hx := B.exec
  have hb := B.bytes
  have hr := B.returns
  have hts := atoms_spec (ws := wsX0_open) B.pre
  have hown : s.vm.findClass RX0 = some m.cls := findClass_of_methodNamed B.named
  have hlocks := B.notSynchronized
  have hw0 : ∀ w ∈ wsX00, w ∈ wsX0_open := fun _ h => List.mem_cons_of_mem _ (List.mem_append_right _ h)
  have hl := lv_entry ([.ref (ad 0), .int i]) (n := 2) (Nat.le_of_ble_eq_true rfl)
  rw [lg_entry_eq]
  generalize (lg_sl ([.ref (ad 0), .int i]) ++ List.replicate (2 - (lg_sl ([.ref (ad 0), .int i])).length) Slot.unset).toArray = ls at hl ⊢
  have hl : lv_has ls 2 [(0, .ref (ad 0)), (1, .int i)] := hl
  refine lv_iload_n hx hb dX0_open_0 rfl (lv_at hl 1 rfl) ?_
  refine lv_if_lt (tgt := 20) hx hb dX0_open_1 (by decide) (fun c1 => ?_) (fun c1 => ?_)
  · skip
    refine lv_iconst (v := (-1)) hx hb dX0_open_20 (by decide) ?_
    exact W.iret (v := (-1)) hx hb hr (fun t ht hW => ⟨(-1), rfl, by show (-1 : Int32) = opF n S kb i; rw [opF, if_neg (fun q => inR_neg q c1)], ht⟩) (fun _ h9 => by cases h9) dX0_open_21
  · skip
    refine lv_iload_n hx hb dX0_open_4 rfl (lv_at hl 1 rfl) ?_
    refine lv_aload_n hx hb dX0_open_5 rfl (lv_at hl 0 rfl) ?_
    refine va_get (D := (dC, dI)) (ci := 0) (v := .int (nI n)) (C := RX0) (T := TX0) (N := 11) hx hb hts hw0 hown hK hP 0 rfl rfl 4 (by decide) (hts (.fieldLink RX0 16 "DropCode" "dropCount" "I") (by decide +kernel)) (fun _ h9 => h9) rfl dX0_open_6 ?_
    refine lv_icmp_ge (tgt := 20) hx hb dX0_open_9 (by decide) (fun c2 => ?_) (fun c2 => ?_)
    · skip
      refine lv_iconst (v := (-1)) hx hb dX0_open_20 (by decide) ?_
      exact W.iret (v := (-1)) hx hb hr (fun t ht hW => ⟨(-1), rfl, by show (-1 : Int32) = opF n S kb i; rw [opF, if_neg (fun q => inR_ge q c2)], ht⟩) (fun _ h9 => by cases h9) dX0_open_21
    · skip
      have h := inR_of c1 c2
      obtain ⟨j, hj, rfl⟩ := inR_ix (by omega) h
      refine lv_aload_n hx hb dX0_open_12 rfl (lv_at hl 0 rfl) ?_
      refine lv_iload_n hx hb dX0_open_13 rfl (lv_at hl 1 rfl) ?_
      refine vp_callSi (W.runV (As := [.int (nI j)]) (rest := []) ⟨hx, hb, hml, hown, hts⟩ (c_X0_unknownCount l dC dI ad cI K row S V (nI n) kw ko kb qu qe cl j (by omega)) (cwV 1 hts gX0_open_X0_unknownCount rfl rfl rfl (by decide +kernel) ⟨Nat.le_of_ble_eq_true rfl, Nat.le_of_ble_eq_true rfl⟩) ⟨rFb, va_recv hK hP (ci := 0) (q0 := 0) rfl rfl, fun U hU hW => ⟨rfl, by rw [hU]; exact hP, va_K.moved hW.alike hK⟩⟩ rfl rfl hl.1 rfl (lv_room (Nat.le_of_ble_eq_true rfl)) dX0_open_14 ⟨Nat.zero_le _, Nat.zero_le _⟩) (fun r_1 er_1 => ?_)
      subst er_1
      refine lv_goto (tgt := 21) hx hb dX0_open_17 (by decide) ?_
      exact W.iret (v := nI (pc (unk (S j) kb))) hx hb hr (fun t ht hW => ⟨nI (pc (unk (S j) kb)), rfl, by show nI (pc (unk (S j) kb)) = opF n S kb (nI j); rw [opF, if_pos h, nI_clamp (by omega)]; rfl, ht⟩) (fun _ h9 => by cases h9) dX0_open_21
set_option maxHeartbeats 4000000 in
set_option maxRecDepth 100000 in
theorem c_X0_put (l : Launch) (dC : Nat → ClassId) (dI : Nat → Nat → Nat) (sz : Nat) (ad : Nat → Nat) (cI : ClassId) (K : Nat) (row S V : Nat → Int32) (dc : Int32) (kw ko : Nat → Int32) (kb : Int32) (qu : Nat → Int32) (qe cl : Int32) (hK1 : 1 ≤ K) (hK2 : K ≤ 32) (i v : Int32) : Met l yX0_put wsX0_put ({ frames := 1, cells := 0, slots := 0, locals := 21 }) (va_Pc [.ref (ad 0), .int i, .int v] (wB dC dI [(cI, .int)] sz (xW ad cI K row S V dc kw ko kb qu qe cl))) (va_Qi (fun r (_ : Unit) => r = (if inR K i then 1 else -1)) (fun _ => oB dC dI [(cI, .int)] (va_A (xW ad cI K row S V dc kw ko kb qu qe cl) sz) (xW ad cI K (ptF K row i v) S V dc kw ko kb qu qe cl)) (va_A (xW ad cI K row S V dc kw ko kb qu qe cl) sz)) 0 0 (va_A (xW ad cI K row S V dc kw ko kb qu qe cl) sz) := by
  refine Met.ofW (cc := cX0_put) (maxL := 3) (ret := (some .int)) (by decide) rfl ?_
  intro p e s m args below meth c s₁ B hml hv
  obtain ⟨rfl, hsz, hP, hK, hD0⟩ := hv
  have hx := B.exec
  have hb := B.bytes
  have hr := B.returns
  have hts := atoms_spec (ws := wsX0_put) B.pre
  have hown : s.vm.findClass RX0 = some m.cls := findClass_of_methodNamed B.named
  have hlocks := B.notSynchronized
  have hw0 : ∀ w ∈ wsX00, w ∈ wsX0_put := fun _ h => List.mem_cons_of_mem _ (List.mem_append_right _ h)
  subst hsz
  have hD := hD0.self (sz := s.heap.size)
  generalize hAe : va_A (xW ad cI K row S V dc kw ko kb qu qe cl) s.heap.size = A at hD ⊢
  have hA : ∀ q : Nat, s.heap.size ≤ q → A q := fun q h => by rw [← hAe]; exact Or.inr h
  have hS : va_S A s.heap s.heap [] := va_S.rf
  have hP : va_P (dC, dI) vwCl (xW ad cI K row S V dc kw ko kb qu qe cl) s.heap := hP
  have hl := lv_entry ([.ref (ad 0), .int i, .int v]) (n := 3) (Nat.le_of_ble_eq_true rfl)
  rw [lg_entry_eq]
  generalize (lg_sl ([.ref (ad 0), .int i, .int v]) ++ List.replicate (3 - (lg_sl ([.ref (ad 0), .int i, .int v])).length) Slot.unset).toArray = ls at hl ⊢
  have hl : lv_has ls 3 [(0, .ref (ad 0)), (1, .int i), (2, .int v)] := hl
  by_cases h : inR K i
  · skip
    obtain ⟨j, hj, rfl⟩ := inR_ix (by omega) h
    rw [show ptF K row (nI j) v = upd row j v by rw [ptF, if_pos h, nI_clamp (by omega)]]
    refine lv_aload_n hx hb dX0_put_0 rfl (lv_at hl 0 rfl) ?_
    refine lv_iload_n hx hb dX0_put_1 rfl (lv_at hl 1 rfl) ?_
    refine vp_callSi (W.runV (As := [.int (nI j)]) (rest := []) ⟨hx, hb, hml, hown, hts⟩ (c_X0_isInRow l dC dI ad cI K row S V dc kw ko kb qu qe cl hK1 hK2 (nI j)) (cwV 1 hts gX0_put_X0_isInRow rfl rfl rfl (by decide +kernel) ⟨Nat.le_of_ble_eq_true rfl, Nat.le_of_ble_eq_true rfl⟩) ⟨rFb, va_recv hK hP (ci := 0) (q0 := 0) rfl rfl, fun U hU hW => ⟨rfl, by rw [hU]; exact hP, va_K.moved hW.alike hK⟩⟩ rfl rfl hl.1 rfl (lv_room (Nat.le_of_ble_eq_true rfl)) dX0_put_2 ⟨Nat.zero_le _, Nat.zero_le _⟩) (fun r_1 er_1 => ?_)
    subst er_1
    refine lv_topi (fun z_2 ez_2 => ?_)
    have ez_2 : z_2 = 1 := ez_2.trans (if_pos h)
    subst ez_2
    refine lv_if_ne (tgt := 10) hx hb dX0_put_5 (by decide) (fun c1 => ?_) (fun c1 => ?_)
    · skip
      refine lv_aload_n hx hb dX0_put_10 rfl (lv_at hl 0 rfl) ?_
      refine va_get (D := (dC, dI)) (ci := 0) (v := .ref (ad 1)) (C := RX0) (T := TX0) (N := 11) hx hb hts hw0 hown hK hP 0 rfl rfl 1 (by decide) (hts (.fieldLink RX0 41 "DropCode" "row" "[I") (by decide +kernel)) (fun _ h9 => h9) rfl dX0_put_11 ?_
      refine lv_iload_n hx hb dX0_put_14 rfl (lv_at hl 1 rfl) ?_
      refine lv_iload_n hx hb dX0_put_15 rfl (lv_at hl 2 rfl) ?_
      refine va_iast (i := nI j) hx hb hK hP hD hS 1 0 rfl rfl (vp_in_nI hj (by omega)) dX0_put_16 (fun H locs hP hD hS => ?_)
      rw [nI_clamp (by omega)] at hP hD
      have hP : va_P (dC, dI) vwCl (xW ad cI K (upd row j v) S V dc kw ko kb qu qe cl) H := hP
      have hD : va_D A (xW ad cI K (upd row j v) S V dc kw ko kb qu qe cl) := hD
      refine lv_iconst (v := 1) hx hb dX0_put_17 (by decide) ?_
      exact W.iret (v := 1) hx hb hr (fun t ht hW => ⟨⟨1, (), rfl, by rw [if_pos h], by rw [ht]; exact hP, va_K.moved hW.alike hK, hD⟩, hS.F ht⟩) hS.2.2 dX0_put_18
    · skip
      exact absurd c1 (by decide)
  · skip
    rw [show ptF K row i v = row by rw [ptF, if_neg h]]
    refine lv_aload_n hx hb dX0_put_0 rfl (lv_at hl 0 rfl) ?_
    refine lv_iload_n hx hb dX0_put_1 rfl (lv_at hl 1 rfl) ?_
    refine vp_callSi (W.runV (As := [.int i]) (rest := []) ⟨hx, hb, hml, hown, hts⟩ (c_X0_isInRow l dC dI ad cI K row S V dc kw ko kb qu qe cl hK1 hK2 i) (cwV 1 hts gX0_put_X0_isInRow rfl rfl rfl (by decide +kernel) ⟨Nat.le_of_ble_eq_true rfl, Nat.le_of_ble_eq_true rfl⟩) ⟨rFb, va_recv hK hP (ci := 0) (q0 := 0) rfl rfl, fun U hU hW => ⟨rfl, by rw [hU]; exact hP, va_K.moved hW.alike hK⟩⟩ rfl rfl hl.1 rfl (lv_room (Nat.le_of_ble_eq_true rfl)) dX0_put_2 ⟨Nat.zero_le _, Nat.zero_le _⟩) (fun r_1 er_1 => ?_)
    subst er_1
    refine lv_topi (fun z_2 ez_2 => ?_)
    have ez_2 : z_2 = 0 := ez_2.trans (if_neg h)
    subst ez_2
    refine lv_if_ne (tgt := 10) hx hb dX0_put_5 (by decide) (fun c1 => ?_) (fun c1 => ?_)
    · skip
      exact absurd rfl c1
    · skip
      refine lv_iconst (v := (-1)) hx hb dX0_put_8 (by decide) ?_
      exact W.iret (v := (-1)) hx hb hr (fun t ht hW => ⟨⟨(-1), (), rfl, by rw [if_neg h], by rw [ht]; exact hP, va_K.moved hW.alike hK, hD⟩, hS.F ht⟩) hS.2.2 dX0_put_9
set_option maxHeartbeats 4000000 in
set_option maxRecDepth 100000 in
theorem c_X0_forget (l : Launch) (dC : Nat → ClassId) (dI : Nat → Nat → Nat) (sz : Nat) (ad : Nat → Nat) (cI : ClassId) (K : Nat) (row S V : Nat → Int32) (dc : Int32) (kw ko : Nat → Int32) (kb : Int32) (qu : Nat → Int32) (qe cl : Int32) : Met l yX0_forget wsX0_forget ({ frames := 0, cells := 0, slots := 0, locals := 0 }) (va_Pc [.ref (ad 0)] (wB dC dI [(cI, .int)] sz (xW ad cI K row S V dc kw ko kb qu qe cl))) (va_Qi (fun r (_ : Unit) => r = dc) (fun _ => oB dC dI [(cI, .int)] (va_A (xW ad cI K row S V dc kw ko kb qu qe cl) sz) (xW ad cI K row S V 0 kw ko 0 qu qe 0)) (va_A (xW ad cI K row S V dc kw ko kb qu qe cl) sz)) 0 0 (va_A (xW ad cI K row S V dc kw ko kb qu qe cl) sz) := by
  refine Met.ofW (cc := cX0_forget) (maxL := 2) (ret := (some .int)) (by decide) rfl ?_
  intro p e s m args below meth c s₁ B hml hv
  obtain ⟨rfl, hsz, hP, hK, hD0⟩ := hv
  have hx := B.exec
  have hb := B.bytes
  have hr := B.returns
  have hts := atoms_spec (ws := wsX0_forget) B.pre
  have hown : s.vm.findClass RX0 = some m.cls := findClass_of_methodNamed B.named
  have hlocks := B.notSynchronized
  have hw0 : ∀ w ∈ wsX00, w ∈ wsX0_forget := fun _ h => List.mem_cons_of_mem _ (List.mem_append_right _ h)
  subst hsz
  have hD := hD0.self (sz := s.heap.size)
  generalize hAe : va_A (xW ad cI K row S V dc kw ko kb qu qe cl) s.heap.size = A at hD ⊢
  have hA : ∀ q : Nat, s.heap.size ≤ q → A q := fun q h => by rw [← hAe]; exact Or.inr h
  have hS : va_S A s.heap s.heap [] := va_S.rf
  have hP : va_P (dC, dI) vwCl (xW ad cI K row S V dc kw ko kb qu qe cl) s.heap := hP
  have hl := lv_entry ([.ref (ad 0)]) (n := 2) (Nat.le_of_ble_eq_true rfl)
  rw [lg_entry_eq]
  generalize (lg_sl ([.ref (ad 0)]) ++ List.replicate (2 - (lg_sl ([.ref (ad 0)])).length) Slot.unset).toArray = ls at hl ⊢
  have hl : lv_has ls 2 [(0, .ref (ad 0))] := hl
  refine lv_aload_n hx hb dX0_forget_0 rfl (lv_at hl 0 rfl) ?_
  refine va_get (D := (dC, dI)) (ci := 0) (v := .int dc) (C := RX0) (T := TX0) (N := 11) hx hb hts hw0 hown hK hP 0 rfl rfl 4 (by decide) (hts (.fieldLink RX0 16 "DropCode" "dropCount" "I") (by decide +kernel)) (fun _ h9 => h9) rfl dX0_forget_1 ?_
  refine lv_istore_n (lv' := [(1, .int dc), (0, .ref (ad 0))]) hx hb dX0_forget_4 rfl hl (by decide) rfl (fun ls hl => ?_)
  refine lv_aload_n hx hb dX0_forget_5 rfl (lv_at hl 1 rfl) ?_
  refine lv_iconst (v := 0) hx hb dX0_forget_6 (by decide) ?_
  refine va_put (D := (dC, dI)) (ci := 0) (v := .int 0) (ty := .int) (C := RX0) (T := TX0) (N := 11) hx hb hts hw0 tyX0 tyX0_ok nmX0 hown hK hP hD hS 0 rfl rfl 4 (by decide) (hts (.fieldLink RX0 16 "DropCode" "dropCount" "I") (by decide +kernel)) (fun _ h9 => h9) rfl (by decide +kernel) rfl rfl (Nat.le_of_ble_eq_true rfl) dX0_forget_7 (fun H locs hP hD hS => ?_)
  have hP : va_P (dC, dI) vwCl (xW ad cI K row S V 0 kw ko kb qu qe cl) H := hP
  have hD : va_D A (xW ad cI K row S V 0 kw ko kb qu qe cl) := hD
  refine lv_aload_n hx hb dX0_forget_10 rfl (lv_at hl 1 rfl) ?_
  refine lv_iconst (v := 0) hx hb dX0_forget_11 (by decide) ?_
  refine va_put (D := (dC, dI)) (ci := 0) (v := .int 0) (ty := .int) (C := RX0) (T := TX0) (N := 11) hx hb hts hw0 tyX0 tyX0_ok nmX0 hown hK hP hD hS 0 rfl rfl 7 (by decide) (hts (.fieldLink RX0 20 "DropCode" "knownBits" "I") (by decide +kernel)) (fun _ h9 => h9) rfl (by decide +kernel) rfl rfl (Nat.le_of_ble_eq_true rfl) dX0_forget_12 (fun H locs hP hD hS => ?_)
  have hP : va_P (dC, dI) vwCl (xW ad cI K row S V 0 kw ko 0 qu qe cl) H := hP
  have hD : va_D A (xW ad cI K row S V 0 kw ko 0 qu qe cl) := hD
  refine lv_aload_n hx hb dX0_forget_15 rfl (lv_at hl 1 rfl) ?_
  refine lv_iconst (v := 0) hx hb dX0_forget_16 (by decide) ?_
  refine va_put (D := (dC, dI)) (ci := 0) (v := .int 0) (ty := .int) (C := RX0) (T := TX0) (N := 11) hx hb hts hw0 tyX0 tyX0_ok nmX0 hown hK hP hD hS 0 rfl rfl 10 (by decide) (hts (.fieldLink RX0 29 "DropCode" "clashCount" "I") (by decide +kernel)) (fun _ h9 => h9) rfl (by decide +kernel) rfl rfl (Nat.le_of_ble_eq_true rfl) dX0_forget_17 (fun H locs hP hD hS => ?_)
  have hP : va_P (dC, dI) vwCl (xW ad cI K row S V 0 kw ko 0 qu qe 0) H := hP
  have hD : va_D A (xW ad cI K row S V 0 kw ko 0 qu qe 0) := hD
  refine lv_iload_n hx hb dX0_forget_20 rfl (lv_at hl 0 rfl) ?_
  exact W.iret (v := dc) hx hb hr (fun t ht hW => ⟨⟨dc, (), rfl, rfl, by rw [ht]; exact hP, va_K.moved hW.alike hK, hD⟩, hS.F ht⟩) hS.2.2 dX0_forget_21
set_option maxHeartbeats 4000000 in
set_option maxRecDepth 100000 in
theorem c_X0_receive_full (l : Launch) (dC : Nat → ClassId) (dI : Nat → Nat → Nat) (sz : Nat) (ad : Nat → Nat) (cI : ClassId) (K : Nat) (row : Nat → Int32) (S : Nat → Int32) (V : Nat → Int32) (kw : Nat → Int32) (ko : Nat → Int32) (kb : Int32) (qu : Nat → Int32) (qe : Int32) (cl : Int32) (seed v : Int32) : Met l yX0_receive wsX0_receive ({ frames := 6, cells := 0, slots := 0, locals := 130 }) (va_Pc [.ref (ad 0), .int seed, .int v] (wB dC dI [(cI, .int)] sz (xW ad cI K row S V (nI 60) kw ko kb qu qe cl))) (va_Qi (fun r (_ : Unit) => r = -2) (fun _ => oB dC dI [(cI, .int)] (va_A (xW ad cI K row S V (nI 60) kw ko kb qu qe cl) sz) (xW ad cI K row S V (nI 60) kw ko kb qu qe cl)) (va_A (xW ad cI K row S V (nI 60) kw ko kb qu qe cl) sz)) 0 0 (va_A (xW ad cI K row S V (nI 60) kw ko kb qu qe cl) sz) := by
  refine Met.ofW (cc := cX0_receive) (maxL := 5) (ret := (some .int)) (by decide) rfl ?_
  intro p e s m args below meth c s₁ B hml hv
  obtain ⟨rfl, hsz, hP, hK, hD0⟩ := hv
  have hx := B.exec
  have hb := B.bytes
  have hr := B.returns
  have hts := atoms_spec (ws := wsX0_receive) B.pre
  have hown : s.vm.findClass RX0 = some m.cls := findClass_of_methodNamed B.named
  have hlocks := B.notSynchronized
  have hw0 : ∀ w ∈ wsX00, w ∈ wsX0_receive := fun _ h => List.mem_cons_of_mem _ (List.mem_append_right _ h)
  subst hsz
  have hD := hD0.self (sz := s.heap.size)
  generalize hAe : va_A (xW ad cI K row S V (nI 60) kw ko kb qu qe cl) s.heap.size = A at hD ⊢
  have hA : ∀ q : Nat, s.heap.size ≤ q → A q := fun q h => by rw [← hAe]; exact Or.inr h
  have hS : va_S A s.heap s.heap [] := va_S.rf
  have hP : va_P (dC, dI) vwCl (xW ad cI K row S V (nI 60) kw ko kb qu qe cl) s.heap := hP
  have hl := lv_entry ([.ref (ad 0), .int seed, .int v]) (n := 5) (Nat.le_of_ble_eq_true rfl)
  rw [lg_entry_eq]
  generalize (lg_sl ([.ref (ad 0), .int seed, .int v]) ++ List.replicate (5 - (lg_sl ([.ref (ad 0), .int seed, .int v])).length) Slot.unset).toArray = ls at hl ⊢
  have hl : lv_has ls 5 [(0, .ref (ad 0)), (1, .int seed), (2, .int v)] := hl
  refine lv_aload_n hx hb dX0_receive_0 rfl (lv_at hl 0 rfl) ?_
  refine va_get (D := (dC, dI)) (ci := 0) (v := .int (nI 60)) (C := RX0) (T := TX0) (N := 11) hx hb hts hw0 hown hK hP 0 rfl rfl 4 (by decide) (hts (.fieldLink RX0 16 "DropCode" "dropCount" "I") (by decide +kernel)) (fun _ h9 => h9) rfl dX0_receive_1 ?_
  refine lv_bipush (v := 60) hx hb dX0_receive_4 (by decide) ?_
  refine lv_icmp_lt (tgt := 12) hx hb dX0_receive_6 (by decide) (fun c1 => ?_) (fun c1 => ?_)
  · skip
    exact absurd c1 (by decide)
  · skip
    refine lv_bipush (v := (-2)) hx hb dX0_receive_9 (by decide) ?_
    exact W.iret (v := (-2)) hx hb hr (fun t ht hW => ⟨⟨(-2), (), rfl, rfl, by rw [ht]; exact hP, va_K.moved hW.alike hK, hD⟩, hS.F ht⟩) hS.2.2 dX0_receive_11
set_option maxHeartbeats 4000000 in
set_option maxRecDepth 100000 in
theorem c_X0_receive (l : Launch) (dC : Nat → ClassId) (dI : Nat → Nat → Nat) (sz : Nat) (ad : Nat → Nat) (cI : ClassId) (K : Nat) (row : Nat → Int32) (S : Nat → Int32) (V : Nat → Int32) (kw : Nat → Int32) (ko : Nat → Int32) (kb : Int32) (qu : Nat → Int32) (qe : Int32) (cl : Int32) (hK1 : 1 ≤ K) (hK2 : K ≤ 32) (n : Nat) (hn : n < 60) (seed v : Int32) (hS0 : ∀ j, j < n → ∀ i, bt (S j) i = true → i < K) (hkb : ∀ i, bt kb i = true → i < K) (hno : ∀ j, j < n → ¬ opn (S j) kb = 1) : Met l yX0_receive wsX0_receive ({ frames := 6, cells := 0, slots := 0, locals := 130 }) (va_Pc [.ref (ad 0), .int seed, .int v] (wB dC dI [(cI, .int)] sz (xW ad cI K row S V (nI n) kw ko kb qu qe cl))) (va_Qi (fun r (_ : Unit) => r = nI (pc (rnF K (n + 1) (upd S n (setA K seed)) (upd V n v) 60 0 (rcI K n (upd S n (setA K seed)) (upd V n v) kw ko kb qu cl)).2.2.1)) (fun _ => oB dC dI [(cI, .int)] (va_A (xW ad cI K row S V (nI n) kw ko kb qu qe cl) sz) (xW ad cI K row (upd S n (setA K seed)) (upd V n v) (nI (n + 1)) ((rnF K (n + 1) (upd S n (setA K seed)) (upd V n v) 60 0 (rcI K n (upd S n (setA K seed)) (upd V n v) kw ko kb qu cl)).1) ((rnF K (n + 1) (upd S n (setA K seed)) (upd V n v) 60 0 (rcI K n (upd S n (setA K seed)) (upd V n v) kw ko kb qu cl)).2.1) ((rnF K (n + 1) (upd S n (setA K seed)) (upd V n v) 60 0 (rcI K n (upd S n (setA K seed)) (upd V n v) kw ko kb qu cl)).2.2.1) ((rnF K (n + 1) (upd S n (setA K seed)) (upd V n v) 60 0 (rcI K n (upd S n (setA K seed)) (upd V n v) kw ko kb qu cl)).2.2.2.1) (nI (rnF K (n + 1) (upd S n (setA K seed)) (upd V n v) 60 0 (rcI K n (upd S n (setA K seed)) (upd V n v) kw ko kb qu cl)).2.2.2.2.1) ((rnF K (n + 1) (upd S n (setA K seed)) (upd V n v) 60 0 (rcI K n (upd S n (setA K seed)) (upd V n v) kw ko kb qu cl)).2.2.2.2.2))) (va_A (xW ad cI K row S V (nI n) kw ko kb qu qe cl) sz)) 0 0 (va_A (xW ad cI K row S V (nI n) kw ko kb qu qe cl) sz) := by
  refine Met.ofW (cc := cX0_receive) (maxL := 5) (ret := (some .int)) (by decide) rfl ?_
  intro p e s m args below meth c s₁ B hml hv
  obtain ⟨rfl, hsz, hP, hK, hD0⟩ := hv
  have hx := B.exec
  have hb := B.bytes
  have hr := B.returns
  have hts := atoms_spec (ws := wsX0_receive) B.pre
  have hown : s.vm.findClass RX0 = some m.cls := findClass_of_methodNamed B.named
  have hlocks := B.notSynchronized
  have hw0 : ∀ w ∈ wsX00, w ∈ wsX0_receive := fun _ h => List.mem_cons_of_mem _ (List.mem_append_right _ h)
  subst hsz
  have hD := hD0.self (sz := s.heap.size)
  generalize hAe : va_A (xW ad cI K row S V (nI n) kw ko kb qu qe cl) s.heap.size = A at hD ⊢
  have hA : ∀ q : Nat, s.heap.size ≤ q → A q := fun q h => by rw [← hAe]; exact Or.inr h
  have hS : va_S A s.heap s.heap [] := va_S.rf
  have hP : va_P (dC, dI) vwCl (xW ad cI K row S V (nI n) kw ko kb qu qe cl) s.heap := hP
  have hl := lv_entry ([.ref (ad 0), .int seed, .int v]) (n := 5) (Nat.le_of_ble_eq_true rfl)
  rw [lg_entry_eq]
  generalize (lg_sl ([.ref (ad 0), .int seed, .int v]) ++ List.replicate (5 - (lg_sl ([.ref (ad 0), .int seed, .int v])).length) Slot.unset).toArray = ls at hl ⊢
  have hl : lv_has ls 5 [(0, .ref (ad 0)), (1, .int seed), (2, .int v)] := hl
  refine lv_aload_n hx hb dX0_receive_0 rfl (lv_at hl 0 rfl) ?_
  refine va_get (D := (dC, dI)) (ci := 0) (v := .int (nI n)) (C := RX0) (T := TX0) (N := 11) hx hb hts hw0 hown hK hP 0 rfl rfl 4 (by decide) (hts (.fieldLink RX0 16 "DropCode" "dropCount" "I") (by decide +kernel)) (fun _ h9 => h9) rfl dX0_receive_1 ?_
  refine lv_bipush (v := 60) hx hb dX0_receive_4 (by decide) ?_
  refine lv_icmp_lt (tgt := 12) hx hb dX0_receive_6 (by decide) (fun c1 => ?_) (fun c1 => ?_)
  · skip
    have hSn : ∀ j, j < n + 1 → ∀ i, bt ((upd S n (setA K seed)) j) i = true → i < K := rc_S hK1 hK2 hS0
    have hI : qInv K (n + 1) (upd S n (setA K seed)) 0 (rcI K n (upd S n (setA K seed)) (upd V n v) kw ko kb qu cl) := rc_inv hkb hno
    refine lv_aload_n hx hb dX0_receive_12 rfl (lv_at hl 0 rfl) ?_
    refine va_get (D := (dC, dI)) (ci := 0) (v := .int (nI n)) (C := RX0) (T := TX0) (N := 11) hx hb hts hw0 hown hK hP 0 rfl rfl 4 (by decide) (hts (.fieldLink RX0 16 "DropCode" "dropCount" "I") (by decide +kernel)) (fun _ h9 => h9) rfl dX0_receive_13 ?_
    refine lv_istore_n (lv' := [(3, .int (nI n)), (0, .ref (ad 0)), (1, .int seed), (2, .int v)]) hx hb dX0_receive_16 rfl hl (by decide) rfl (fun ls hl => ?_)
    refine lv_aload_n hx hb dX0_receive_17 rfl (lv_at hl 1 rfl) ?_
    refine va_get (D := (dC, dI)) (ci := 0) (v := .ref (ad 2)) (C := RX0) (T := TX0) (N := 11) hx hb hts hw0 hown hK hP 0 rfl rfl 2 (by decide) (hts (.fieldLink RX0 9 "DropCode" "dropSets" "[I") (by decide +kernel)) (fun _ h9 => h9) rfl dX0_receive_18 ?_
    refine lv_iload_n hx hb dX0_receive_21 rfl (lv_at hl 0 rfl) ?_
    refine lv_aload_n hx hb dX0_receive_22 rfl (lv_at hl 1 rfl) ?_
    refine lv_iload_n hx hb dX0_receive_23 rfl (lv_at hl 2 rfl) ?_
    refine vp_callSi (W.runV (As := [.int seed]) (rest := [.int (nI n), .ref (ad 2)]) ⟨hx, hb, hml, hown, hts⟩ (c_X0_setOf l dC dI ad cI K row S V (nI n) kw ko kb qu qe cl hK1 hK2 seed) (cwV 1 hts gX0_receive_X0_setOf rfl rfl rfl (by decide +kernel) ⟨Nat.le_of_ble_eq_true rfl, Nat.le_of_ble_eq_true rfl⟩) ⟨rFb, va_recv hK hP (ci := 0) (q0 := 0) rfl rfl, fun U hU hW => ⟨rfl, by rw [hU]; exact hP, va_K.moved hW.alike hK⟩⟩ rfl rfl hl.1 rfl (lv_room (Nat.le_of_ble_eq_true rfl)) dX0_receive_24 ⟨Nat.zero_le _, Nat.zero_le _⟩) (fun r_1 er_1 => ?_)
    subst er_1
    refine va_iast (i := nI n) hx hb hK hP hD hS 2 0 rfl rfl (vp_in_nI hn (by omega)) dX0_receive_27 (fun H locs hP hD hS => ?_)
    rw [nI_clamp (by omega)] at hP hD
    have hP : va_P (dC, dI) vwCl (xW ad cI K row (upd S n (setA K seed)) V (nI n) kw ko kb qu qe cl) H := hP
    have hD : va_D A (xW ad cI K row (upd S n (setA K seed)) V (nI n) kw ko kb qu qe cl) := hD
    refine lv_aload_n hx hb dX0_receive_28 rfl (lv_at hl 1 rfl) ?_
    refine va_get (D := (dC, dI)) (ci := 0) (v := .ref (ad 3)) (C := RX0) (T := TX0) (N := 11) hx hb hts hw0 hown hK hP 0 rfl rfl 3 (by decide) (hts (.fieldLink RX0 13 "DropCode" "dropWords" "[I") (by decide +kernel)) (fun _ h9 => h9) rfl dX0_receive_29 ?_
    refine lv_iload_n hx hb dX0_receive_32 rfl (lv_at hl 0 rfl) ?_
    refine lv_iload_n hx hb dX0_receive_33 rfl (lv_at hl 3 rfl) ?_
    refine va_iast (i := nI n) hx hb hK hP hD hS 3 0 rfl rfl (vp_in_nI hn (by omega)) dX0_receive_34 (fun H locs hP hD hS => ?_)
    rw [nI_clamp (by omega)] at hP hD
    have hP : va_P (dC, dI) vwCl (xW ad cI K row (upd S n (setA K seed)) (upd V n v) (nI n) kw ko kb qu qe cl) H := hP
    have hD : va_D A (xW ad cI K row (upd S n (setA K seed)) (upd V n v) (nI n) kw ko kb qu qe cl) := hD
    refine lv_aload_n hx hb dX0_receive_35 rfl (lv_at hl 1 rfl) ?_
    refine lv_dup hx hb dX0_receive_36 rfl ?_
    refine va_get (D := (dC, dI)) (ci := 0) (v := .int (nI n)) (C := RX0) (T := TX0) (N := 11) hx hb hts hw0 hown hK hP 0 rfl rfl 4 (by decide) (hts (.fieldLink RX0 16 "DropCode" "dropCount" "I") (by decide +kernel)) (fun _ h9 => h9) rfl dX0_receive_37 ?_
    refine lv_iconst (v := 1) hx hb dX0_receive_40 (by decide) ?_
    refine lv_iadd hx hb dX0_receive_41 ?_
    refine lv_topi (fun z_2 ez_2 => ?_)
    have ez_2 : z_2 = nI (n + 1) := ez_2.trans (nI_1 n)
    subst ez_2
    refine va_put (D := (dC, dI)) (ci := 0) (v := .int (nI (n + 1))) (ty := .int) (C := RX0) (T := TX0) (N := 11) hx hb hts hw0 tyX0 tyX0_ok nmX0 hown hK hP hD hS 0 rfl rfl 4 (by decide) (hts (.fieldLink RX0 16 "DropCode" "dropCount" "I") (by decide +kernel)) (fun _ h9 => h9) rfl (by decide +kernel) rfl rfl (Nat.le_of_ble_eq_true rfl) dX0_receive_42 (fun H locs hP hD hS => ?_)
    have hP : va_P (dC, dI) vwCl (xW ad cI K row (upd S n (setA K seed)) (upd V n v) (nI (n + 1)) kw ko kb qu qe cl) H := hP
    have hD : va_D A (xW ad cI K row (upd S n (setA K seed)) (upd V n v) (nI (n + 1)) kw ko kb qu qe cl) := hD
    refine lv_aload_n hx hb dX0_receive_45 rfl (lv_at hl 1 rfl) ?_
    refine lv_iconst (v := 0) hx hb dX0_receive_46 (by decide) ?_
    refine lv_topi (fun z_3 ez_3 => ?_)
    have ez_3 : z_3 = nI 0 := ez_3.trans (rfl)
    subst ez_3
    refine va_put (D := (dC, dI)) (ci := 0) (v := .int (nI 0)) (ty := .int) (C := RX0) (T := TX0) (N := 11) hx hb hts hw0 tyX0 tyX0_ok nmX0 hown hK hP hD hS 0 rfl rfl 9 (by decide) (hts (.fieldLink RX0 26 "DropCode" "queueEnd" "I") (by decide +kernel)) (fun _ h9 => h9) rfl (by decide +kernel) rfl rfl (Nat.le_of_ble_eq_true rfl) dX0_receive_47 (fun H locs hP hD hS => ?_)
    have hP : va_P (dC, dI) vwCl (xW ad cI K row (upd S n (setA K seed)) (upd V n v) (nI (n + 1)) kw ko kb qu (nI 0) cl) H := hP
    have hD : va_D A (xW ad cI K row (upd S n (setA K seed)) (upd V n v) (nI (n + 1)) kw ko kb qu (nI 0) cl) := hD
    refine lv_aload_n hx hb dX0_receive_50 rfl (lv_at hl 1 rfl) ?_
    refine lv_iload_n hx hb dX0_receive_51 rfl (lv_at hl 0 rfl) ?_
    refine vp_callSi (W.runV (As := [.int (nI n)]) (rest := []) ⟨hx, hb, hml, hown, hts⟩ (c_X0_unknownCount l dC dI ad cI K row (upd S n (setA K seed)) (upd V n v) (nI (n + 1)) kw ko kb qu (nI 0) cl n hn) (cwV 1 hts gX0_receive_X0_unknownCount rfl rfl rfl (by decide +kernel) ⟨Nat.le_of_ble_eq_true rfl, Nat.le_of_ble_eq_true rfl⟩) ⟨rFb, va_recv hK hP (ci := 0) (q0 := 0) rfl rfl, fun U hU hW => ⟨rfl, by rw [hU]; exact hP, va_K.moved hW.alike hK⟩⟩ rfl rfl hl.1 rfl (lv_room (Nat.le_of_ble_eq_true rfl)) dX0_receive_52 ⟨Nat.zero_le _, Nat.zero_le _⟩) (fun r_4 er_4 => ?_)
    subst er_4
    refine lv_istore (lv' := [(4, .int (nI (pc (unk ((upd S n (setA K seed)) n) kb)))), (3, .int (nI n)), (0, .ref (ad 0)), (1, .int seed), (2, .int v)]) hx hb dX0_receive_55 hl (by decide) rfl (fun ls hl => ?_)
    refine lv_iload hx hb dX0_receive_57 (lv_at hl 0 rfl) ?_
    refine lv_iconst (v := 1) hx hb dX0_receive_59 (by decide) ?_
    refine lv_icmp_ne (tgt := 71) hx hb dX0_receive_60 (by decide) (fun c2 => ?_) (fun c2 => ?_)
    · skip
      refine lv_iload hx hb dX0_receive_71 (lv_at hl 0 rfl) ?_
      refine lv_if_ne (tgt := 81) hx hb dX0_receive_73 (by decide) (fun c3 => ?_) (fun c3 => ?_)
      · skip
        have hz : rcI K n (upd S n (setA K seed)) (upd V n v) kw ko kb qu cl = (kw, ko, kb, qu, 0, cl) := rc_2 (fun h => c2 (by rw [show pc (unk ((upd S n (setA K seed)) n) kb) = 1 from h]; rfl)) (fun h => c3 (by rw [show pc (unk ((upd S n (setA K seed)) n) kb) = 0 from h]; rfl))
        have hP : va_P (dC, dI) vwCl (xW ad cI K row (upd S n (setA K seed)) (upd V n v) (nI (n + 1)) ((rcI K n (upd S n (setA K seed)) (upd V n v) kw ko kb qu cl).1) ((rcI K n (upd S n (setA K seed)) (upd V n v) kw ko kb qu cl).2.1) ((rcI K n (upd S n (setA K seed)) (upd V n v) kw ko kb qu cl).2.2.1) ((rcI K n (upd S n (setA K seed)) (upd V n v) kw ko kb qu cl).2.2.2.1) (nI (rcI K n (upd S n (setA K seed)) (upd V n v) kw ko kb qu cl).2.2.2.2.1) ((rcI K n (upd S n (setA K seed)) (upd V n v) kw ko kb qu cl).2.2.2.2.2)) H := by rw [hz]; exact hP
        have hD : va_D A (xW ad cI K row (upd S n (setA K seed)) (upd V n v) (nI (n + 1)) ((rcI K n (upd S n (setA K seed)) (upd V n v) kw ko kb qu cl).1) ((rcI K n (upd S n (setA K seed)) (upd V n v) kw ko kb qu cl).2.1) ((rcI K n (upd S n (setA K seed)) (upd V n v) kw ko kb qu cl).2.2.1) ((rcI K n (upd S n (setA K seed)) (upd V n v) kw ko kb qu cl).2.2.2.1) (nI (rcI K n (upd S n (setA K seed)) (upd V n v) kw ko kb qu cl).2.2.2.2.1) ((rcI K n (upd S n (setA K seed)) (upd V n v) kw ko kb qu cl).2.2.2.2.2)) := by rw [hz]; exact hD
        refine lv_aload_n hx hb dX0_receive_81 rfl (lv_at hl 2 rfl) ?_
        have hFc := va_free (wc := (xW ad cI K row (upd S n (setA K seed)) (upd V n v) (nI (n + 1)) ((rcI K n (upd S n (setA K seed)) (upd V n v) kw ko kb qu cl).1) ((rcI K n (upd S n (setA K seed)) (upd V n v) kw ko kb qu cl).2.1) ((rcI K n (upd S n (setA K seed)) (upd V n v) kw ko kb qu cl).2.2.1) ((rcI K n (upd S n (setA K seed)) (upd V n v) kw ko kb qu cl).2.2.2.1) (nI (rcI K n (upd S n (setA K seed)) (upd V n v) kw ko kb qu cl).2.2.2.2.1) ((rcI K n (upd S n (setA K seed)) (upd V n v) kw ko kb qu cl).2.2.2.2.2))) hD hS hA [0, 1, 2, 3, 4, 5, 6] rfl
        refine va_callv (va_runV (As := []) (rest := []) ⟨hx, hb, hml, hown, hts⟩ (c_X0_runQueue l dC dI H.size ad cI K row (upd S n (setA K seed)) (upd V n v) hK1 hK2 (n + 1) hn (rcI K n (upd S n (setA K seed)) (upd V n v) kw ko kb qu cl) hSn hI) (cwV 0 hts gX0_receive_X0_runQueue rfl rfl rfl (by decide +kernel) ⟨Nat.le_of_ble_eq_true rfl, Nat.le_of_ble_eq_true rfl⟩) ⟨wFb, va_recv hK hP (ci := 0) (q0 := 0) rfl rfl, fun U hU hW => ⟨rfl, by rw [hU], by rw [hU]; exact hP, va_K.moved hW.alike hK, hD.weaken (fun _ _ _ _ => trivial)⟩⟩ rfl rfl hl.1 rfl (lv_room (Nat.le_of_ble_eq_true rfl)) dX0_receive_82 ⟨Nat.le_of_ble_eq_true rfl, Nat.le_of_ble_eq_true rfl⟩) hS (fun q _ h => hFc q h) hFc (fun u t H1 locs ht hvm hw hB hz1 hk1 hS => ?_)
        obtain ⟨hP1, hK1, hD1⟩ := hB
        rw [ht] at hP1
        obtain ⟨hP, hD⟩ := va_join (wr := []) (w1 := (xW ad cI K row (upd S n (setA K seed)) (upd V n v) (nI (n + 1)) ((rnF K (n + 1) (upd S n (setA K seed)) (upd V n v) 60 0 (rcI K n (upd S n (setA K seed)) (upd V n v) kw ko kb qu cl)).1) ((rnF K (n + 1) (upd S n (setA K seed)) (upd V n v) 60 0 (rcI K n (upd S n (setA K seed)) (upd V n v) kw ko kb qu cl)).2.1) ((rnF K (n + 1) (upd S n (setA K seed)) (upd V n v) 60 0 (rcI K n (upd S n (setA K seed)) (upd V n v) kw ko kb qu cl)).2.2.1) ((rnF K (n + 1) (upd S n (setA K seed)) (upd V n v) 60 0 (rcI K n (upd S n (setA K seed)) (upd V n v) kw ko kb qu cl)).2.2.2.1) (nI (rnF K (n + 1) (upd S n (setA K seed)) (upd V n v) 60 0 (rcI K n (upd S n (setA K seed)) (upd V n v) kw ko kb qu cl)).2.2.2.2.1) ((rnF K (n + 1) (upd S n (setA K seed)) (upd V n v) 60 0 (rcI K n (upd S n (setA K seed)) (upd V n v) kw ko kb qu cl)).2.2.2.2.2))) hP hD [0, 1, 2, 3, 4, 5, 6] [] rfl rfl (by decide) (by decide) hk1 hFc hP1 hD1
        clear hP1 hD1 hK1 hFc hk1 hz1
        generalize H1 = H at hP hS ⊢
        have hP : va_P (dC, dI) vwCl (xW ad cI K row (upd S n (setA K seed)) (upd V n v) (nI (n + 1)) ((rnF K (n + 1) (upd S n (setA K seed)) (upd V n v) 60 0 (rcI K n (upd S n (setA K seed)) (upd V n v) kw ko kb qu cl)).1) ((rnF K (n + 1) (upd S n (setA K seed)) (upd V n v) 60 0 (rcI K n (upd S n (setA K seed)) (upd V n v) kw ko kb qu cl)).2.1) ((rnF K (n + 1) (upd S n (setA K seed)) (upd V n v) 60 0 (rcI K n (upd S n (setA K seed)) (upd V n v) kw ko kb qu cl)).2.2.1) ((rnF K (n + 1) (upd S n (setA K seed)) (upd V n v) 60 0 (rcI K n (upd S n (setA K seed)) (upd V n v) kw ko kb qu cl)).2.2.2.1) (nI (rnF K (n + 1) (upd S n (setA K seed)) (upd V n v) 60 0 (rcI K n (upd S n (setA K seed)) (upd V n v) kw ko kb qu cl)).2.2.2.2.1) ((rnF K (n + 1) (upd S n (setA K seed)) (upd V n v) 60 0 (rcI K n (upd S n (setA K seed)) (upd V n v) kw ko kb qu cl)).2.2.2.2.2)) H := hP
        have hD : va_D A (xW ad cI K row (upd S n (setA K seed)) (upd V n v) (nI (n + 1)) ((rnF K (n + 1) (upd S n (setA K seed)) (upd V n v) 60 0 (rcI K n (upd S n (setA K seed)) (upd V n v) kw ko kb qu cl)).1) ((rnF K (n + 1) (upd S n (setA K seed)) (upd V n v) 60 0 (rcI K n (upd S n (setA K seed)) (upd V n v) kw ko kb qu cl)).2.1) ((rnF K (n + 1) (upd S n (setA K seed)) (upd V n v) 60 0 (rcI K n (upd S n (setA K seed)) (upd V n v) kw ko kb qu cl)).2.2.1) ((rnF K (n + 1) (upd S n (setA K seed)) (upd V n v) 60 0 (rcI K n (upd S n (setA K seed)) (upd V n v) kw ko kb qu cl)).2.2.2.1) (nI (rnF K (n + 1) (upd S n (setA K seed)) (upd V n v) 60 0 (rcI K n (upd S n (setA K seed)) (upd V n v) kw ko kb qu cl)).2.2.2.2.1) ((rnF K (n + 1) (upd S n (setA K seed)) (upd V n v) 60 0 (rcI K n (upd S n (setA K seed)) (upd V n v) kw ko kb qu cl)).2.2.2.2.2)) := hD
        refine lv_aload_n hx hb dX0_receive_85 rfl (lv_at hl 2 rfl) ?_
        refine vp_callSi (W.runV (As := []) (rest := []) ⟨hx, hb, hml, hown, hts⟩ (c_X0_knownCount l dC dI ad cI K row (upd S n (setA K seed)) (upd V n v) (nI (n + 1)) ((rnF K (n + 1) (upd S n (setA K seed)) (upd V n v) 60 0 (rcI K n (upd S n (setA K seed)) (upd V n v) kw ko kb qu cl)).1) ((rnF K (n + 1) (upd S n (setA K seed)) (upd V n v) 60 0 (rcI K n (upd S n (setA K seed)) (upd V n v) kw ko kb qu cl)).2.1) ((rnF K (n + 1) (upd S n (setA K seed)) (upd V n v) 60 0 (rcI K n (upd S n (setA K seed)) (upd V n v) kw ko kb qu cl)).2.2.1) ((rnF K (n + 1) (upd S n (setA K seed)) (upd V n v) 60 0 (rcI K n (upd S n (setA K seed)) (upd V n v) kw ko kb qu cl)).2.2.2.1) (nI (rnF K (n + 1) (upd S n (setA K seed)) (upd V n v) 60 0 (rcI K n (upd S n (setA K seed)) (upd V n v) kw ko kb qu cl)).2.2.2.2.1) ((rnF K (n + 1) (upd S n (setA K seed)) (upd V n v) 60 0 (rcI K n (upd S n (setA K seed)) (upd V n v) kw ko kb qu cl)).2.2.2.2.2)) (cwV 0 hts gX0_receive_X0_knownCount rfl rfl rfl (by decide +kernel) ⟨Nat.le_of_ble_eq_true rfl, Nat.le_of_ble_eq_true rfl⟩) ⟨rFb, va_recv hK hP (ci := 0) (q0 := 0) rfl rfl, fun U hU hW => ⟨rfl, by rw [hU]; exact hP, va_K.moved hW.alike hK⟩⟩ rfl rfl hl.1 rfl (lv_room (Nat.le_of_ble_eq_true rfl)) dX0_receive_86 ⟨Nat.zero_le _, Nat.zero_le _⟩) (fun r_6 er_6 => ?_)
        subst er_6
        exact W.iret (v := nI (pc ((rnF K (n + 1) (upd S n (setA K seed)) (upd V n v) 60 0 (rcI K n (upd S n (setA K seed)) (upd V n v) kw ko kb qu cl)).2.2.1))) hx hb hr (fun t ht hW => ⟨⟨nI (pc ((rnF K (n + 1) (upd S n (setA K seed)) (upd V n v) 60 0 (rcI K n (upd S n (setA K seed)) (upd V n v) kw ko kb qu cl)).2.2.1)), (), rfl, rfl, by rw [ht]; exact hP, va_K.moved hW.alike hK, hD⟩, hS.F ht⟩) hS.2.2 dX0_receive_89
      · skip
        refine lv_aload_n hx hb dX0_receive_76 rfl (lv_at hl 2 rfl) ?_
        refine lv_iload_n hx hb dX0_receive_77 rfl (lv_at hl 1 rfl) ?_
        have hFc := va_free (wc := (xW ad cI K row (upd S n (setA K seed)) (upd V n v) (nI (n + 1)) kw ko kb qu (nI 0) cl)) hD hS hA [0, 1, 2, 3, 4, 5, 6] rfl
        refine va_callv (va_runV (As := [.int (nI n)]) (rest := []) ⟨hx, hb, hml, hown, hts⟩ (c_X0_noteIfClash l dC dI H.size ad cI K row (upd S n (setA K seed)) (upd V n v) (nI (n + 1)) kw ko kb qu (nI 0) cl hK1 hK2 n hn) (cwV 1 hts gX0_receive_X0_noteIfClash rfl rfl rfl (by decide +kernel) ⟨Nat.le_of_ble_eq_true rfl, Nat.le_of_ble_eq_true rfl⟩) ⟨wFb, va_recv hK hP (ci := 0) (q0 := 0) rfl rfl, fun U hU hW => ⟨rfl, by rw [hU], by rw [hU]; exact hP, va_K.moved hW.alike hK, hD.weaken (fun _ _ _ _ => trivial)⟩⟩ rfl rfl hl.1 rfl (lv_room (Nat.le_of_ble_eq_true rfl)) dX0_receive_78 ⟨Nat.le_of_ble_eq_true rfl, Nat.le_of_ble_eq_true rfl⟩) hS (fun q _ h => hFc q h) hFc (fun u t H1 locs ht hvm hw hB hz1 hk1 hS => ?_)
        obtain ⟨hP1, hK1, hD1⟩ := hB
        rw [ht] at hP1
        obtain ⟨hP, hD⟩ := va_join (wr := []) (w1 := (xW ad cI K row (upd S n (setA K seed)) (upd V n v) (nI (n + 1)) kw ko kb qu (nI 0) (clA K kw ((upd S n (setA K seed)) n) kb ((upd V n v) n) cl))) hP hD [0, 1, 2, 3, 4, 5, 6] [] rfl rfl (by decide) (by decide) hk1 hFc hP1 hD1
        clear hP1 hD1 hK1 hFc hk1 hz1
        generalize H1 = H at hP hS ⊢
        have hP : va_P (dC, dI) vwCl (xW ad cI K row (upd S n (setA K seed)) (upd V n v) (nI (n + 1)) kw ko kb qu (nI 0) (clA K kw ((upd S n (setA K seed)) n) kb ((upd V n v) n) cl)) H := hP
        have hD : va_D A (xW ad cI K row (upd S n (setA K seed)) (upd V n v) (nI (n + 1)) kw ko kb qu (nI 0) (clA K kw ((upd S n (setA K seed)) n) kb ((upd V n v) n) cl)) := hD
        have hz : rcI K n (upd S n (setA K seed)) (upd V n v) kw ko kb qu cl = (kw, ko, kb, qu, 0, clA K kw ((upd S n (setA K seed)) n) kb ((upd V n v) n) cl) := rc_0 (nI_zero (pc_le _) c3)
        have hP : va_P (dC, dI) vwCl (xW ad cI K row (upd S n (setA K seed)) (upd V n v) (nI (n + 1)) ((rcI K n (upd S n (setA K seed)) (upd V n v) kw ko kb qu cl).1) ((rcI K n (upd S n (setA K seed)) (upd V n v) kw ko kb qu cl).2.1) ((rcI K n (upd S n (setA K seed)) (upd V n v) kw ko kb qu cl).2.2.1) ((rcI K n (upd S n (setA K seed)) (upd V n v) kw ko kb qu cl).2.2.2.1) (nI (rcI K n (upd S n (setA K seed)) (upd V n v) kw ko kb qu cl).2.2.2.2.1) ((rcI K n (upd S n (setA K seed)) (upd V n v) kw ko kb qu cl).2.2.2.2.2)) H := by rw [hz]; exact hP
        have hD : va_D A (xW ad cI K row (upd S n (setA K seed)) (upd V n v) (nI (n + 1)) ((rcI K n (upd S n (setA K seed)) (upd V n v) kw ko kb qu cl).1) ((rcI K n (upd S n (setA K seed)) (upd V n v) kw ko kb qu cl).2.1) ((rcI K n (upd S n (setA K seed)) (upd V n v) kw ko kb qu cl).2.2.1) ((rcI K n (upd S n (setA K seed)) (upd V n v) kw ko kb qu cl).2.2.2.1) (nI (rcI K n (upd S n (setA K seed)) (upd V n v) kw ko kb qu cl).2.2.2.2.1) ((rcI K n (upd S n (setA K seed)) (upd V n v) kw ko kb qu cl).2.2.2.2.2)) := by rw [hz]; exact hD
        refine lv_aload_n hx hb dX0_receive_81 rfl (lv_at hl 2 rfl) ?_
        have hFc := va_free (wc := (xW ad cI K row (upd S n (setA K seed)) (upd V n v) (nI (n + 1)) ((rcI K n (upd S n (setA K seed)) (upd V n v) kw ko kb qu cl).1) ((rcI K n (upd S n (setA K seed)) (upd V n v) kw ko kb qu cl).2.1) ((rcI K n (upd S n (setA K seed)) (upd V n v) kw ko kb qu cl).2.2.1) ((rcI K n (upd S n (setA K seed)) (upd V n v) kw ko kb qu cl).2.2.2.1) (nI (rcI K n (upd S n (setA K seed)) (upd V n v) kw ko kb qu cl).2.2.2.2.1) ((rcI K n (upd S n (setA K seed)) (upd V n v) kw ko kb qu cl).2.2.2.2.2))) hD hS hA [0, 1, 2, 3, 4, 5, 6] rfl
        refine va_callv (va_runV (As := []) (rest := []) ⟨hx, hb, hml, hown, hts⟩ (c_X0_runQueue l dC dI H.size ad cI K row (upd S n (setA K seed)) (upd V n v) hK1 hK2 (n + 1) hn (rcI K n (upd S n (setA K seed)) (upd V n v) kw ko kb qu cl) hSn hI) (cwV 0 hts gX0_receive_X0_runQueue rfl rfl rfl (by decide +kernel) ⟨Nat.le_of_ble_eq_true rfl, Nat.le_of_ble_eq_true rfl⟩) ⟨wFb, va_recv hK hP (ci := 0) (q0 := 0) rfl rfl, fun U hU hW => ⟨rfl, by rw [hU], by rw [hU]; exact hP, va_K.moved hW.alike hK, hD.weaken (fun _ _ _ _ => trivial)⟩⟩ rfl rfl hl.1 rfl (lv_room (Nat.le_of_ble_eq_true rfl)) dX0_receive_82 ⟨Nat.le_of_ble_eq_true rfl, Nat.le_of_ble_eq_true rfl⟩) hS (fun q _ h => hFc q h) hFc (fun u t H1 locs ht hvm hw hB hz1 hk1 hS => ?_)
        obtain ⟨hP1, hK1, hD1⟩ := hB
        rw [ht] at hP1
        obtain ⟨hP, hD⟩ := va_join (wr := []) (w1 := (xW ad cI K row (upd S n (setA K seed)) (upd V n v) (nI (n + 1)) ((rnF K (n + 1) (upd S n (setA K seed)) (upd V n v) 60 0 (rcI K n (upd S n (setA K seed)) (upd V n v) kw ko kb qu cl)).1) ((rnF K (n + 1) (upd S n (setA K seed)) (upd V n v) 60 0 (rcI K n (upd S n (setA K seed)) (upd V n v) kw ko kb qu cl)).2.1) ((rnF K (n + 1) (upd S n (setA K seed)) (upd V n v) 60 0 (rcI K n (upd S n (setA K seed)) (upd V n v) kw ko kb qu cl)).2.2.1) ((rnF K (n + 1) (upd S n (setA K seed)) (upd V n v) 60 0 (rcI K n (upd S n (setA K seed)) (upd V n v) kw ko kb qu cl)).2.2.2.1) (nI (rnF K (n + 1) (upd S n (setA K seed)) (upd V n v) 60 0 (rcI K n (upd S n (setA K seed)) (upd V n v) kw ko kb qu cl)).2.2.2.2.1) ((rnF K (n + 1) (upd S n (setA K seed)) (upd V n v) 60 0 (rcI K n (upd S n (setA K seed)) (upd V n v) kw ko kb qu cl)).2.2.2.2.2))) hP hD [0, 1, 2, 3, 4, 5, 6] [] rfl rfl (by decide) (by decide) hk1 hFc hP1 hD1
        clear hP1 hD1 hK1 hFc hk1 hz1
        generalize H1 = H at hP hS ⊢
        have hP : va_P (dC, dI) vwCl (xW ad cI K row (upd S n (setA K seed)) (upd V n v) (nI (n + 1)) ((rnF K (n + 1) (upd S n (setA K seed)) (upd V n v) 60 0 (rcI K n (upd S n (setA K seed)) (upd V n v) kw ko kb qu cl)).1) ((rnF K (n + 1) (upd S n (setA K seed)) (upd V n v) 60 0 (rcI K n (upd S n (setA K seed)) (upd V n v) kw ko kb qu cl)).2.1) ((rnF K (n + 1) (upd S n (setA K seed)) (upd V n v) 60 0 (rcI K n (upd S n (setA K seed)) (upd V n v) kw ko kb qu cl)).2.2.1) ((rnF K (n + 1) (upd S n (setA K seed)) (upd V n v) 60 0 (rcI K n (upd S n (setA K seed)) (upd V n v) kw ko kb qu cl)).2.2.2.1) (nI (rnF K (n + 1) (upd S n (setA K seed)) (upd V n v) 60 0 (rcI K n (upd S n (setA K seed)) (upd V n v) kw ko kb qu cl)).2.2.2.2.1) ((rnF K (n + 1) (upd S n (setA K seed)) (upd V n v) 60 0 (rcI K n (upd S n (setA K seed)) (upd V n v) kw ko kb qu cl)).2.2.2.2.2)) H := hP
        have hD : va_D A (xW ad cI K row (upd S n (setA K seed)) (upd V n v) (nI (n + 1)) ((rnF K (n + 1) (upd S n (setA K seed)) (upd V n v) 60 0 (rcI K n (upd S n (setA K seed)) (upd V n v) kw ko kb qu cl)).1) ((rnF K (n + 1) (upd S n (setA K seed)) (upd V n v) 60 0 (rcI K n (upd S n (setA K seed)) (upd V n v) kw ko kb qu cl)).2.1) ((rnF K (n + 1) (upd S n (setA K seed)) (upd V n v) 60 0 (rcI K n (upd S n (setA K seed)) (upd V n v) kw ko kb qu cl)).2.2.1) ((rnF K (n + 1) (upd S n (setA K seed)) (upd V n v) 60 0 (rcI K n (upd S n (setA K seed)) (upd V n v) kw ko kb qu cl)).2.2.2.1) (nI (rnF K (n + 1) (upd S n (setA K seed)) (upd V n v) 60 0 (rcI K n (upd S n (setA K seed)) (upd V n v) kw ko kb qu cl)).2.2.2.2.1) ((rnF K (n + 1) (upd S n (setA K seed)) (upd V n v) 60 0 (rcI K n (upd S n (setA K seed)) (upd V n v) kw ko kb qu cl)).2.2.2.2.2)) := hD
        refine lv_aload_n hx hb dX0_receive_85 rfl (lv_at hl 2 rfl) ?_
        refine vp_callSi (W.runV (As := []) (rest := []) ⟨hx, hb, hml, hown, hts⟩ (c_X0_knownCount l dC dI ad cI K row (upd S n (setA K seed)) (upd V n v) (nI (n + 1)) ((rnF K (n + 1) (upd S n (setA K seed)) (upd V n v) 60 0 (rcI K n (upd S n (setA K seed)) (upd V n v) kw ko kb qu cl)).1) ((rnF K (n + 1) (upd S n (setA K seed)) (upd V n v) 60 0 (rcI K n (upd S n (setA K seed)) (upd V n v) kw ko kb qu cl)).2.1) ((rnF K (n + 1) (upd S n (setA K seed)) (upd V n v) 60 0 (rcI K n (upd S n (setA K seed)) (upd V n v) kw ko kb qu cl)).2.2.1) ((rnF K (n + 1) (upd S n (setA K seed)) (upd V n v) 60 0 (rcI K n (upd S n (setA K seed)) (upd V n v) kw ko kb qu cl)).2.2.2.1) (nI (rnF K (n + 1) (upd S n (setA K seed)) (upd V n v) 60 0 (rcI K n (upd S n (setA K seed)) (upd V n v) kw ko kb qu cl)).2.2.2.2.1) ((rnF K (n + 1) (upd S n (setA K seed)) (upd V n v) 60 0 (rcI K n (upd S n (setA K seed)) (upd V n v) kw ko kb qu cl)).2.2.2.2.2)) (cwV 0 hts gX0_receive_X0_knownCount rfl rfl rfl (by decide +kernel) ⟨Nat.le_of_ble_eq_true rfl, Nat.le_of_ble_eq_true rfl⟩) ⟨rFb, va_recv hK hP (ci := 0) (q0 := 0) rfl rfl, fun U hU hW => ⟨rfl, by rw [hU]; exact hP, va_K.moved hW.alike hK⟩⟩ rfl rfl hl.1 rfl (lv_room (Nat.le_of_ble_eq_true rfl)) dX0_receive_86 ⟨Nat.zero_le _, Nat.zero_le _⟩) (fun r_7 er_7 => ?_)
        subst er_7
        exact W.iret (v := nI (pc ((rnF K (n + 1) (upd S n (setA K seed)) (upd V n v) 60 0 (rcI K n (upd S n (setA K seed)) (upd V n v) kw ko kb qu cl)).2.2.1))) hx hb hr (fun t ht hW => ⟨⟨nI (pc ((rnF K (n + 1) (upd S n (setA K seed)) (upd V n v) 60 0 (rcI K n (upd S n (setA K seed)) (upd V n v) kw ko kb qu cl)).2.2.1)), (), rfl, rfl, by rw [ht]; exact hP, va_K.moved hW.alike hK, hD⟩, hS.F ht⟩) hS.2.2 dX0_receive_89
    · skip
      refine lv_aload_n hx hb dX0_receive_63 rfl (lv_at hl 2 rfl) ?_
      refine lv_iload_n hx hb dX0_receive_64 rfl (lv_at hl 1 rfl) ?_
      have hFc := va_free (wc := (xW ad cI K row (upd S n (setA K seed)) (upd V n v) (nI (n + 1)) kw ko kb qu (nI 0) cl)) hD hS hA [0, 1, 2, 3, 4, 5, 6] rfl
      refine va_callv (va_runV (As := [.int (nI n)]) (rest := []) ⟨hx, hb, hml, hown, hts⟩ (c_X0_enqueue l dC dI H.size ad cI K row (upd S n (setA K seed)) (upd V n v) (nI (n + 1)) kw ko kb qu cl 0 (by omega) (nI n)) (cwV 1 hts gX0_receive_X0_enqueue rfl rfl rfl (by decide +kernel) ⟨Nat.le_of_ble_eq_true rfl, Nat.le_of_ble_eq_true rfl⟩) ⟨wFb, va_recv hK hP (ci := 0) (q0 := 0) rfl rfl, fun U hU hW => ⟨rfl, by rw [hU], by rw [hU]; exact hP, va_K.moved hW.alike hK, hD.weaken (fun _ _ _ _ => trivial)⟩⟩ rfl rfl hl.1 rfl (lv_room (Nat.le_of_ble_eq_true rfl)) dX0_receive_65 ⟨Nat.le_of_ble_eq_true rfl, Nat.le_of_ble_eq_true rfl⟩) hS (fun q _ h => hFc q h) hFc (fun u t H1 locs ht hvm hw hB hz1 hk1 hS => ?_)
      obtain ⟨hP1, hK1, hD1⟩ := hB
      rw [ht] at hP1
      obtain ⟨hP, hD⟩ := va_join (wr := []) (w1 := (xW ad cI K row (upd S n (setA K seed)) (upd V n v) (nI (n + 1)) kw ko kb (upd qu 0 (nI n)) (nI (0 + 1)) cl)) hP hD [0, 1, 2, 3, 4, 5, 6] [] rfl rfl (by decide) (by decide) hk1 hFc hP1 hD1
      clear hP1 hD1 hK1 hFc hk1 hz1
      generalize H1 = H at hP hS ⊢
      have hP : va_P (dC, dI) vwCl (xW ad cI K row (upd S n (setA K seed)) (upd V n v) (nI (n + 1)) kw ko kb (upd qu 0 (nI n)) (nI (0 + 1)) cl) H := hP
      have hD : va_D A (xW ad cI K row (upd S n (setA K seed)) (upd V n v) (nI (n + 1)) kw ko kb (upd qu 0 (nI n)) (nI (0 + 1)) cl) := hD
      refine lv_goto (tgt := 81) hx hb dX0_receive_68 (by decide) ?_
      have hz : rcI K n (upd S n (setA K seed)) (upd V n v) kw ko kb qu cl = (kw, ko, kb, upd qu 0 (nI n), 1, cl) := rc_1 (nI_one (pc_le _) c2)
      have hP : va_P (dC, dI) vwCl (xW ad cI K row (upd S n (setA K seed)) (upd V n v) (nI (n + 1)) ((rcI K n (upd S n (setA K seed)) (upd V n v) kw ko kb qu cl).1) ((rcI K n (upd S n (setA K seed)) (upd V n v) kw ko kb qu cl).2.1) ((rcI K n (upd S n (setA K seed)) (upd V n v) kw ko kb qu cl).2.2.1) ((rcI K n (upd S n (setA K seed)) (upd V n v) kw ko kb qu cl).2.2.2.1) (nI (rcI K n (upd S n (setA K seed)) (upd V n v) kw ko kb qu cl).2.2.2.2.1) ((rcI K n (upd S n (setA K seed)) (upd V n v) kw ko kb qu cl).2.2.2.2.2)) H := by rw [hz]; exact hP
      have hD : va_D A (xW ad cI K row (upd S n (setA K seed)) (upd V n v) (nI (n + 1)) ((rcI K n (upd S n (setA K seed)) (upd V n v) kw ko kb qu cl).1) ((rcI K n (upd S n (setA K seed)) (upd V n v) kw ko kb qu cl).2.1) ((rcI K n (upd S n (setA K seed)) (upd V n v) kw ko kb qu cl).2.2.1) ((rcI K n (upd S n (setA K seed)) (upd V n v) kw ko kb qu cl).2.2.2.1) (nI (rcI K n (upd S n (setA K seed)) (upd V n v) kw ko kb qu cl).2.2.2.2.1) ((rcI K n (upd S n (setA K seed)) (upd V n v) kw ko kb qu cl).2.2.2.2.2)) := by rw [hz]; exact hD
      refine lv_aload_n hx hb dX0_receive_81 rfl (lv_at hl 2 rfl) ?_
      have hFc := va_free (wc := (xW ad cI K row (upd S n (setA K seed)) (upd V n v) (nI (n + 1)) ((rcI K n (upd S n (setA K seed)) (upd V n v) kw ko kb qu cl).1) ((rcI K n (upd S n (setA K seed)) (upd V n v) kw ko kb qu cl).2.1) ((rcI K n (upd S n (setA K seed)) (upd V n v) kw ko kb qu cl).2.2.1) ((rcI K n (upd S n (setA K seed)) (upd V n v) kw ko kb qu cl).2.2.2.1) (nI (rcI K n (upd S n (setA K seed)) (upd V n v) kw ko kb qu cl).2.2.2.2.1) ((rcI K n (upd S n (setA K seed)) (upd V n v) kw ko kb qu cl).2.2.2.2.2))) hD hS hA [0, 1, 2, 3, 4, 5, 6] rfl
      refine va_callv (va_runV (As := []) (rest := []) ⟨hx, hb, hml, hown, hts⟩ (c_X0_runQueue l dC dI H.size ad cI K row (upd S n (setA K seed)) (upd V n v) hK1 hK2 (n + 1) hn (rcI K n (upd S n (setA K seed)) (upd V n v) kw ko kb qu cl) hSn hI) (cwV 0 hts gX0_receive_X0_runQueue rfl rfl rfl (by decide +kernel) ⟨Nat.le_of_ble_eq_true rfl, Nat.le_of_ble_eq_true rfl⟩) ⟨wFb, va_recv hK hP (ci := 0) (q0 := 0) rfl rfl, fun U hU hW => ⟨rfl, by rw [hU], by rw [hU]; exact hP, va_K.moved hW.alike hK, hD.weaken (fun _ _ _ _ => trivial)⟩⟩ rfl rfl hl.1 rfl (lv_room (Nat.le_of_ble_eq_true rfl)) dX0_receive_82 ⟨Nat.le_of_ble_eq_true rfl, Nat.le_of_ble_eq_true rfl⟩) hS (fun q _ h => hFc q h) hFc (fun u t H1 locs ht hvm hw hB hz1 hk1 hS => ?_)
      obtain ⟨hP1, hK1, hD1⟩ := hB
      rw [ht] at hP1
      obtain ⟨hP, hD⟩ := va_join (wr := []) (w1 := (xW ad cI K row (upd S n (setA K seed)) (upd V n v) (nI (n + 1)) ((rnF K (n + 1) (upd S n (setA K seed)) (upd V n v) 60 0 (rcI K n (upd S n (setA K seed)) (upd V n v) kw ko kb qu cl)).1) ((rnF K (n + 1) (upd S n (setA K seed)) (upd V n v) 60 0 (rcI K n (upd S n (setA K seed)) (upd V n v) kw ko kb qu cl)).2.1) ((rnF K (n + 1) (upd S n (setA K seed)) (upd V n v) 60 0 (rcI K n (upd S n (setA K seed)) (upd V n v) kw ko kb qu cl)).2.2.1) ((rnF K (n + 1) (upd S n (setA K seed)) (upd V n v) 60 0 (rcI K n (upd S n (setA K seed)) (upd V n v) kw ko kb qu cl)).2.2.2.1) (nI (rnF K (n + 1) (upd S n (setA K seed)) (upd V n v) 60 0 (rcI K n (upd S n (setA K seed)) (upd V n v) kw ko kb qu cl)).2.2.2.2.1) ((rnF K (n + 1) (upd S n (setA K seed)) (upd V n v) 60 0 (rcI K n (upd S n (setA K seed)) (upd V n v) kw ko kb qu cl)).2.2.2.2.2))) hP hD [0, 1, 2, 3, 4, 5, 6] [] rfl rfl (by decide) (by decide) hk1 hFc hP1 hD1
      clear hP1 hD1 hK1 hFc hk1 hz1
      generalize H1 = H at hP hS ⊢
      have hP : va_P (dC, dI) vwCl (xW ad cI K row (upd S n (setA K seed)) (upd V n v) (nI (n + 1)) ((rnF K (n + 1) (upd S n (setA K seed)) (upd V n v) 60 0 (rcI K n (upd S n (setA K seed)) (upd V n v) kw ko kb qu cl)).1) ((rnF K (n + 1) (upd S n (setA K seed)) (upd V n v) 60 0 (rcI K n (upd S n (setA K seed)) (upd V n v) kw ko kb qu cl)).2.1) ((rnF K (n + 1) (upd S n (setA K seed)) (upd V n v) 60 0 (rcI K n (upd S n (setA K seed)) (upd V n v) kw ko kb qu cl)).2.2.1) ((rnF K (n + 1) (upd S n (setA K seed)) (upd V n v) 60 0 (rcI K n (upd S n (setA K seed)) (upd V n v) kw ko kb qu cl)).2.2.2.1) (nI (rnF K (n + 1) (upd S n (setA K seed)) (upd V n v) 60 0 (rcI K n (upd S n (setA K seed)) (upd V n v) kw ko kb qu cl)).2.2.2.2.1) ((rnF K (n + 1) (upd S n (setA K seed)) (upd V n v) 60 0 (rcI K n (upd S n (setA K seed)) (upd V n v) kw ko kb qu cl)).2.2.2.2.2)) H := hP
      have hD : va_D A (xW ad cI K row (upd S n (setA K seed)) (upd V n v) (nI (n + 1)) ((rnF K (n + 1) (upd S n (setA K seed)) (upd V n v) 60 0 (rcI K n (upd S n (setA K seed)) (upd V n v) kw ko kb qu cl)).1) ((rnF K (n + 1) (upd S n (setA K seed)) (upd V n v) 60 0 (rcI K n (upd S n (setA K seed)) (upd V n v) kw ko kb qu cl)).2.1) ((rnF K (n + 1) (upd S n (setA K seed)) (upd V n v) 60 0 (rcI K n (upd S n (setA K seed)) (upd V n v) kw ko kb qu cl)).2.2.1) ((rnF K (n + 1) (upd S n (setA K seed)) (upd V n v) 60 0 (rcI K n (upd S n (setA K seed)) (upd V n v) kw ko kb qu cl)).2.2.2.1) (nI (rnF K (n + 1) (upd S n (setA K seed)) (upd V n v) 60 0 (rcI K n (upd S n (setA K seed)) (upd V n v) kw ko kb qu cl)).2.2.2.2.1) ((rnF K (n + 1) (upd S n (setA K seed)) (upd V n v) 60 0 (rcI K n (upd S n (setA K seed)) (upd V n v) kw ko kb qu cl)).2.2.2.2.2)) := hD
      refine lv_aload_n hx hb dX0_receive_85 rfl (lv_at hl 2 rfl) ?_
      refine vp_callSi (W.runV (As := []) (rest := []) ⟨hx, hb, hml, hown, hts⟩ (c_X0_knownCount l dC dI ad cI K row (upd S n (setA K seed)) (upd V n v) (nI (n + 1)) ((rnF K (n + 1) (upd S n (setA K seed)) (upd V n v) 60 0 (rcI K n (upd S n (setA K seed)) (upd V n v) kw ko kb qu cl)).1) ((rnF K (n + 1) (upd S n (setA K seed)) (upd V n v) 60 0 (rcI K n (upd S n (setA K seed)) (upd V n v) kw ko kb qu cl)).2.1) ((rnF K (n + 1) (upd S n (setA K seed)) (upd V n v) 60 0 (rcI K n (upd S n (setA K seed)) (upd V n v) kw ko kb qu cl)).2.2.1) ((rnF K (n + 1) (upd S n (setA K seed)) (upd V n v) 60 0 (rcI K n (upd S n (setA K seed)) (upd V n v) kw ko kb qu cl)).2.2.2.1) (nI (rnF K (n + 1) (upd S n (setA K seed)) (upd V n v) 60 0 (rcI K n (upd S n (setA K seed)) (upd V n v) kw ko kb qu cl)).2.2.2.2.1) ((rnF K (n + 1) (upd S n (setA K seed)) (upd V n v) 60 0 (rcI K n (upd S n (setA K seed)) (upd V n v) kw ko kb qu cl)).2.2.2.2.2)) (cwV 0 hts gX0_receive_X0_knownCount rfl rfl rfl (by decide +kernel) ⟨Nat.le_of_ble_eq_true rfl, Nat.le_of_ble_eq_true rfl⟩) ⟨rFb, va_recv hK hP (ci := 0) (q0 := 0) rfl rfl, fun U hU hW => ⟨rfl, by rw [hU]; exact hP, va_K.moved hW.alike hK⟩⟩ rfl rfl hl.1 rfl (lv_room (Nat.le_of_ble_eq_true rfl)) dX0_receive_86 ⟨Nat.zero_le _, Nat.zero_le _⟩) (fun r_7 er_7 => ?_)
      subst er_7
      exact W.iret (v := nI (pc ((rnF K (n + 1) (upd S n (setA K seed)) (upd V n v) 60 0 (rcI K n (upd S n (setA K seed)) (upd V n v) kw ko kb qu cl)).2.2.1))) hx hb hr (fun t ht hW => ⟨⟨nI (pc ((rnF K (n + 1) (upd S n (setA K seed)) (upd V n v) 60 0 (rcI K n (upd S n (setA K seed)) (upd V n v) kw ko kb qu cl)).2.2.1)), (), rfl, rfl, by rw [ht]; exact hP, va_K.moved hW.alike hK, hD⟩, hS.F ht⟩) hS.2.2 dX0_receive_89
  · skip
    exact absurd (nI_lt (a := n) (b := 60) hn (by omega)) c1
end
section
def adF (l : List Nat) : Nat → Nat := fun i => l.getD i 0
set_option maxHeartbeats 4000000 in
set_option maxRecDepth 100000 in
/-- a new DropCode -/
theorem c_X0_init (l : Launch) (dC : Nat → ClassId) (dI : Nat → Nat → Nat) (sz h0 K : Nat) (hK1 : 1 ≤ K) (hK2 : K ≤ 32) (k : Int32) (hk : fmF k + 1 = nI K) : Met l yX0_init wsX0_init ({ frames := 1, cells := 6, slots := 276, locals := 40 }) (va_Pc [.ref h0, .int k] (wB dC dI [] sz [(h0, .inr (0, [.int 0, .null, .null, .null, .int 0, .null, .null, .int 0, .null, .int 0, .int 0]))])) (va_Qv (fun (u : (Nat → Nat) × ClassId × ClassId) => u.1 0 = h0) (fun u => oB dC dI [(u.2.1, .int)] (va_A [(h0, .inr (0, [.int 0, .null, .null, .null, .int 0, .null, .null, .int 0, .null, .int 0, .int 0]))] sz) (xW u.1 u.2.1 K (fun _ => 0) (fun _ => 0) (fun _ => 0) 0 (fun _ => 0) (fun _ => 0) 0 (fun _ => 0) 0 0)) (va_A [(h0, .inr (0, [.int 0, .null, .null, .null, .int 0, .null, .null, .int 0, .null, .int 0, .int 0]))] sz)) 6 276 (va_A [(h0, .inr (0, [.int 0, .null, .null, .null, .int 0, .null, .null, .int 0, .null, .int 0, .int 0]))] sz) := by
  refine Met.ofW (cc := cX0_init) (maxL := 2) (ret := none) (by decide) rfl ?_
  intro p e s m args below meth c s₁ B hml hv
  obtain ⟨rfl, hsz, hP, hK, hD0⟩ := hv
  have hx := B.exec
  have hb := B.bytes
  have hr := B.returns
  have hts := atoms_spec (ws := wsX0_init) B.pre
  have hown : s.vm.findClass RX0 = some m.cls := findClass_of_methodNamed B.named
  have hlocks := B.notSynchronized
  have hin : meth.name = "<init>" := (name_of_methodNamed B.named B.method).1
  have hw0 : ∀ w ∈ wsX00, w ∈ wsX0_init := fun _ h => List.mem_cons_of_mem _ (List.mem_append_right _ h)
  subst hsz
  have hD := hD0.self (sz := s.heap.size)
  generalize hAe : va_A [(h0, .inr (0, [.int 0, .null, .null, .null, .int 0, .null, .null, .int 0, .null, .int 0, .int 0]))] s.heap.size = A at hD ⊢
  have hA : ∀ q : Nat, s.heap.size ≤ q → A q := fun q h => by rw [← hAe]; exact Or.inr h
  have hS : va_S A s.heap s.heap [] := va_S.rf
  have hP : va_P (dC, dI) vwCl [(h0, .inr (0, [.int 0, .null, .null, .null, .int 0, .null, .null, .int 0, .null, .int 0, .int 0]))] s.heap := hP
  have hl := lv_entry ([.ref h0, .int k]) (n := 2) (Nat.le_of_ble_eq_true rfl)
  rw [lg_entry_eq]
  generalize (lg_sl ([.ref h0, .int k]) ++ List.replicate (2 - (lg_sl ([.ref h0, .int k])).length) Slot.unset).toArray = ls at hl ⊢
  have hl : lv_has ls 2 [(0, .ref h0), (1, .int k)] := hl
  refine lv_aload_n hx hb dX0_init_0 rfl (lv_at hl 0 rfl) ?_
  refine W.objInit hx hb hown (hts (.methodLink RX0 1 objectInit) (by decide +kernel)) (hts (.instanceMethod objectInit) (by decide +kernel)) (hts _ (List.mem_cons_of_mem _ (List.mem_append_left _ (List.mem_of_getElem? (i := 2) rfl)))) rfl (by rw [hml]; exact hl.1) rfl dX0_init_1 (Nat.le_of_ble_eq_true rfl) (Nat.le_of_ble_eq_true rfl) ?_
  refine W.eq (g2 := F0 m 4 ls []) rfl ?_
  refine lv_aload_n hx hb dX0_init_4 rfl (lv_at hl 0 rfl) ?_
  refine lv_bipush (v := 60) hx hb dX0_init_5 (by decide) ?_
  refine va_newa (atype := .int) (ty := .int) (n := 60) (N' := 60) (a0 := (60, .inl (fun _ => 0))) hx hb (hts (.arrayClass .int) (by decide +kernel)) rfl hK hP hD hS hA (fun cA => rfl) (by decide) (by decide) (by show 60 * 4 ≤ 536870912; omega) (Nat.le_of_ble_eq_true rfl) (by show 0 + 60 ≤ 276; omega) dX0_init_7 (fun q1 cA1 H hK hP hD hS => ?_)
  have hP : va_P (dC, dI) vwCl [(h0, .inr (0, [.int 0, .null, .null, .null, .int 0, .null, .null, .int 0, .null, .int 0, .int 0])), (q1, .inl (cA1, 60, .inl (fun _ => 0)))] H := hP
  have hD : va_D A [(h0, .inr (0, [.int 0, .null, .null, .null, .int 0, .null, .null, .int 0, .null, .int 0, .int 0])), (q1, .inl (cA1, 60, .inl (fun _ => 0)))] := hD
  have hK : va_K (dC, dI) vwCl [(cA1, .int)] s := hK
  refine va_putF (D := (dC, dI)) (ci := 0) (v := .ref q1) (ty := .array .int) (C := RX0) (T := TX0) (N := 11) hx hb hts hw0 tyX0 tyX0_ok nmX0 hown hK hP hD hS 0 rfl rfl 2 (by decide) (hts (.fieldLink RX0 9 "DropCode" "dropSets" "[I") (by decide +kernel)) (fun _ h9 => h9) rfl hin rfl (by decide +kernel) rfl rfl (Nat.le_of_ble_eq_true rfl) dX0_init_9 (fun H locs hP hD hS => ?_)
  have hP : va_P (dC, dI) vwCl [(h0, .inr (0, [.int 0, .null, .ref q1, .null, .int 0, .null, .null, .int 0, .null, .int 0, .int 0])), (q1, .inl (cA1, 60, .inl (fun _ => 0)))] H := hP
  have hD : va_D A [(h0, .inr (0, [.int 0, .null, .ref q1, .null, .int 0, .null, .null, .int 0, .null, .int 0, .int 0])), (q1, .inl (cA1, 60, .inl (fun _ => 0)))] := hD
  refine lv_aload_n hx hb dX0_init_12 rfl (lv_at hl 0 rfl) ?_
  refine lv_bipush (v := 60) hx hb dX0_init_13 (by decide) ?_
  refine va_newa (atype := .int) (ty := .int) (n := 60) (N' := 60) (a0 := (60, .inl (fun _ => 0))) hx hb (hts (.arrayClass .int) (by decide +kernel)) rfl hK hP hD hS hA (fun cA => rfl) (by decide) (by decide) (by show 60 * 4 ≤ 536870912; omega) (Nat.le_of_ble_eq_true rfl) (by show 0 + 60 + 60 ≤ 276; omega) dX0_init_15 (fun q2 cA2 H hK hP hD hS => ?_)
  have hP : va_P (dC, dI) vwCl [(h0, .inr (0, [.int 0, .null, .ref q1, .null, .int 0, .null, .null, .int 0, .null, .int 0, .int 0])), (q1, .inl (cA1, 60, .inl (fun _ => 0))), (q2, .inl (cA2, 60, .inl (fun _ => 0)))] H := hP
  have hD : va_D A [(h0, .inr (0, [.int 0, .null, .ref q1, .null, .int 0, .null, .null, .int 0, .null, .int 0, .int 0])), (q1, .inl (cA1, 60, .inl (fun _ => 0))), (q2, .inl (cA2, 60, .inl (fun _ => 0)))] := hD
  have hK : va_K (dC, dI) vwCl [(cA1, .int), (cA2, .int)] s := hK
  refine va_putF (D := (dC, dI)) (ci := 0) (v := .ref q2) (ty := .array .int) (C := RX0) (T := TX0) (N := 11) hx hb hts hw0 tyX0 tyX0_ok nmX0 hown hK hP hD hS 0 rfl rfl 3 (by decide) (hts (.fieldLink RX0 13 "DropCode" "dropWords" "[I") (by decide +kernel)) (fun _ h9 => h9) rfl hin rfl (by decide +kernel) rfl rfl (Nat.le_of_ble_eq_true rfl) dX0_init_17 (fun H locs hP hD hS => ?_)
  have hP : va_P (dC, dI) vwCl [(h0, .inr (0, [.int 0, .null, .ref q1, .ref q2, .int 0, .null, .null, .int 0, .null, .int 0, .int 0])), (q1, .inl (cA1, 60, .inl (fun _ => 0))), (q2, .inl (cA2, 60, .inl (fun _ => 0)))] H := hP
  have hD : va_D A [(h0, .inr (0, [.int 0, .null, .ref q1, .ref q2, .int 0, .null, .null, .int 0, .null, .int 0, .int 0])), (q1, .inl (cA1, 60, .inl (fun _ => 0))), (q2, .inl (cA2, 60, .inl (fun _ => 0)))] := hD
  refine lv_aload_n hx hb dX0_init_20 rfl (lv_at hl 0 rfl) ?_
  refine lv_iconst (v := 0) hx hb dX0_init_21 (by decide) ?_
  refine va_put (D := (dC, dI)) (ci := 0) (v := .int 0) (ty := .int) (C := RX0) (T := TX0) (N := 11) hx hb hts hw0 tyX0 tyX0_ok nmX0 hown hK hP hD hS 0 rfl rfl 4 (by decide) (hts (.fieldLink RX0 16 "DropCode" "dropCount" "I") (by decide +kernel)) (fun _ h9 => h9) rfl (by decide +kernel) rfl rfl (Nat.le_of_ble_eq_true rfl) dX0_init_22 (fun H locs hP hD hS => ?_)
  have hP : va_P (dC, dI) vwCl [(h0, .inr (0, [.int 0, .null, .ref q1, .ref q2, .int 0, .null, .null, .int 0, .null, .int 0, .int 0])), (q1, .inl (cA1, 60, .inl (fun _ => 0))), (q2, .inl (cA2, 60, .inl (fun _ => 0)))] H := hP
  have hD : va_D A [(h0, .inr (0, [.int 0, .null, .ref q1, .ref q2, .int 0, .null, .null, .int 0, .null, .int 0, .int 0])), (q1, .inl (cA1, 60, .inl (fun _ => 0))), (q2, .inl (cA2, 60, .inl (fun _ => 0)))] := hD
  refine lv_aload_n hx hb dX0_init_25 rfl (lv_at hl 0 rfl) ?_
  refine lv_iconst (v := 0) hx hb dX0_init_26 (by decide) ?_
  refine va_put (D := (dC, dI)) (ci := 0) (v := .int 0) (ty := .int) (C := RX0) (T := TX0) (N := 11) hx hb hts hw0 tyX0 tyX0_ok nmX0 hown hK hP hD hS 0 rfl rfl 7 (by decide) (hts (.fieldLink RX0 20 "DropCode" "knownBits" "I") (by decide +kernel)) (fun _ h9 => h9) rfl (by decide +kernel) rfl rfl (Nat.le_of_ble_eq_true rfl) dX0_init_27 (fun H locs hP hD hS => ?_)
  have hP : va_P (dC, dI) vwCl [(h0, .inr (0, [.int 0, .null, .ref q1, .ref q2, .int 0, .null, .null, .int 0, .null, .int 0, .int 0])), (q1, .inl (cA1, 60, .inl (fun _ => 0))), (q2, .inl (cA2, 60, .inl (fun _ => 0)))] H := hP
  have hD : va_D A [(h0, .inr (0, [.int 0, .null, .ref q1, .ref q2, .int 0, .null, .null, .int 0, .null, .int 0, .int 0])), (q1, .inl (cA1, 60, .inl (fun _ => 0))), (q2, .inl (cA2, 60, .inl (fun _ => 0)))] := hD
  refine lv_aload_n hx hb dX0_init_30 rfl (lv_at hl 0 rfl) ?_
  refine lv_bipush (v := 60) hx hb dX0_init_31 (by decide) ?_
  refine va_newa (atype := .int) (ty := .int) (n := 60) (N' := 60) (a0 := (60, .inl (fun _ => 0))) hx hb (hts (.arrayClass .int) (by decide +kernel)) rfl hK hP hD hS hA (fun cA => rfl) (by decide) (by decide) (by show 60 * 4 ≤ 536870912; omega) (Nat.le_of_ble_eq_true rfl) (by show 0 + 60 + 60 + 60 ≤ 276; omega) dX0_init_33 (fun q3 cA3 H hK hP hD hS => ?_)
  have hP : va_P (dC, dI) vwCl [(h0, .inr (0, [.int 0, .null, .ref q1, .ref q2, .int 0, .null, .null, .int 0, .null, .int 0, .int 0])), (q1, .inl (cA1, 60, .inl (fun _ => 0))), (q2, .inl (cA2, 60, .inl (fun _ => 0))), (q3, .inl (cA3, 60, .inl (fun _ => 0)))] H := hP
  have hD : va_D A [(h0, .inr (0, [.int 0, .null, .ref q1, .ref q2, .int 0, .null, .null, .int 0, .null, .int 0, .int 0])), (q1, .inl (cA1, 60, .inl (fun _ => 0))), (q2, .inl (cA2, 60, .inl (fun _ => 0))), (q3, .inl (cA3, 60, .inl (fun _ => 0)))] := hD
  have hK : va_K (dC, dI) vwCl [(cA1, .int), (cA2, .int), (cA3, .int)] s := hK
  refine va_putF (D := (dC, dI)) (ci := 0) (v := .ref q3) (ty := .array .int) (C := RX0) (T := TX0) (N := 11) hx hb hts hw0 tyX0 tyX0_ok nmX0 hown hK hP hD hS 0 rfl rfl 8 (by decide) (hts (.fieldLink RX0 23 "DropCode" "queue" "[I") (by decide +kernel)) (fun _ h9 => h9) rfl hin rfl (by decide +kernel) rfl rfl (Nat.le_of_ble_eq_true rfl) dX0_init_35 (fun H locs hP hD hS => ?_)
  have hP : va_P (dC, dI) vwCl [(h0, .inr (0, [.int 0, .null, .ref q1, .ref q2, .int 0, .null, .null, .int 0, .ref q3, .int 0, .int 0])), (q1, .inl (cA1, 60, .inl (fun _ => 0))), (q2, .inl (cA2, 60, .inl (fun _ => 0))), (q3, .inl (cA3, 60, .inl (fun _ => 0)))] H := hP
  have hD : va_D A [(h0, .inr (0, [.int 0, .null, .ref q1, .ref q2, .int 0, .null, .null, .int 0, .ref q3, .int 0, .int 0])), (q1, .inl (cA1, 60, .inl (fun _ => 0))), (q2, .inl (cA2, 60, .inl (fun _ => 0))), (q3, .inl (cA3, 60, .inl (fun _ => 0)))] := hD
  refine lv_aload_n hx hb dX0_init_38 rfl (lv_at hl 0 rfl) ?_
  refine lv_iconst (v := 0) hx hb dX0_init_39 (by decide) ?_
  refine va_put (D := (dC, dI)) (ci := 0) (v := .int 0) (ty := .int) (C := RX0) (T := TX0) (N := 11) hx hb hts hw0 tyX0 tyX0_ok nmX0 hown hK hP hD hS 0 rfl rfl 9 (by decide) (hts (.fieldLink RX0 26 "DropCode" "queueEnd" "I") (by decide +kernel)) (fun _ h9 => h9) rfl (by decide +kernel) rfl rfl (Nat.le_of_ble_eq_true rfl) dX0_init_40 (fun H locs hP hD hS => ?_)
  have hP : va_P (dC, dI) vwCl [(h0, .inr (0, [.int 0, .null, .ref q1, .ref q2, .int 0, .null, .null, .int 0, .ref q3, .int 0, .int 0])), (q1, .inl (cA1, 60, .inl (fun _ => 0))), (q2, .inl (cA2, 60, .inl (fun _ => 0))), (q3, .inl (cA3, 60, .inl (fun _ => 0)))] H := hP
  have hD : va_D A [(h0, .inr (0, [.int 0, .null, .ref q1, .ref q2, .int 0, .null, .null, .int 0, .ref q3, .int 0, .int 0])), (q1, .inl (cA1, 60, .inl (fun _ => 0))), (q2, .inl (cA2, 60, .inl (fun _ => 0))), (q3, .inl (cA3, 60, .inl (fun _ => 0)))] := hD
  refine lv_aload_n hx hb dX0_init_43 rfl (lv_at hl 0 rfl) ?_
  refine lv_iconst (v := 0) hx hb dX0_init_44 (by decide) ?_
  refine va_put (D := (dC, dI)) (ci := 0) (v := .int 0) (ty := .int) (C := RX0) (T := TX0) (N := 11) hx hb hts hw0 tyX0 tyX0_ok nmX0 hown hK hP hD hS 0 rfl rfl 10 (by decide) (hts (.fieldLink RX0 29 "DropCode" "clashCount" "I") (by decide +kernel)) (fun _ h9 => h9) rfl (by decide +kernel) rfl rfl (Nat.le_of_ble_eq_true rfl) dX0_init_45 (fun H locs hP hD hS => ?_)
  have hP : va_P (dC, dI) vwCl [(h0, .inr (0, [.int 0, .null, .ref q1, .ref q2, .int 0, .null, .null, .int 0, .ref q3, .int 0, .int 0])), (q1, .inl (cA1, 60, .inl (fun _ => 0))), (q2, .inl (cA2, 60, .inl (fun _ => 0))), (q3, .inl (cA3, 60, .inl (fun _ => 0)))] H := hP
  have hD : va_D A [(h0, .inr (0, [.int 0, .null, .ref q1, .ref q2, .int 0, .null, .null, .int 0, .ref q3, .int 0, .int 0])), (q1, .inl (cA1, 60, .inl (fun _ => 0))), (q2, .inl (cA2, 60, .inl (fun _ => 0))), (q3, .inl (cA3, 60, .inl (fun _ => 0)))] := hD
  refine lv_aload_n hx hb dX0_init_48 rfl (lv_at hl 0 rfl) ?_
  refine lv_iload_n hx hb dX0_init_49 rfl (lv_at hl 1 rfl) ?_
  refine lv_bipush (v := 32) hx hb dX0_init_50 (by decide) ?_
  refine vp_callSi (W.runS (As := [.int k, .int 32]) (rest := [.ref h0]) ⟨hx, hb, hml, hown, hts⟩ (c_J9_floorMod_7cf53 l k) (va_cwS 2 hts gX0_init_J9_floorMod_7cf53 rfl rfl rfl (by decide +kernel) ⟨Nat.le_of_ble_eq_true rfl, Nat.le_of_ble_eq_true rfl⟩) ⟨pFb, fun U hU hW => ⟨rfl, trivial⟩⟩ rfl rfl hl.1 rfl (lv_room (Nat.le_of_ble_eq_true rfl)) dX0_init_52 ⟨Nat.le_of_ble_eq_true rfl, Nat.le_of_ble_eq_true rfl⟩) (fun r_1 er_1 => ?_)
  subst er_1
  refine lv_iconst (v := 1) hx hb dX0_init_55 (by decide) ?_
  refine lv_iadd hx hb dX0_init_56 ?_
  refine lv_topi (fun z_2 ez_2 => ?_)
  have ez_2 : z_2 = nI K := ez_2.trans (hk)
  subst ez_2
  refine va_putF (D := (dC, dI)) (ci := 0) (v := .int (nI K)) (ty := .int) (C := RX0) (T := TX0) (N := 11) hx hb hts hw0 tyX0 tyX0_ok nmX0 hown hK hP hD hS 0 rfl rfl 0 (by decide) (hts (.fieldLink RX0 38 "DropCode" "size" "I") (by decide +kernel)) (fun _ h9 => h9) rfl hin rfl (by decide +kernel) rfl rfl (Nat.le_of_ble_eq_true rfl) dX0_init_57 (fun H locs hP hD hS => ?_)
  have hP : va_P (dC, dI) vwCl [(h0, .inr (0, [.int (nI K), .null, .ref q1, .ref q2, .int 0, .null, .null, .int 0, .ref q3, .int 0, .int 0])), (q1, .inl (cA1, 60, .inl (fun _ => 0))), (q2, .inl (cA2, 60, .inl (fun _ => 0))), (q3, .inl (cA3, 60, .inl (fun _ => 0)))] H := hP
  have hD : va_D A [(h0, .inr (0, [.int (nI K), .null, .ref q1, .ref q2, .int 0, .null, .null, .int 0, .ref q3, .int 0, .int 0])), (q1, .inl (cA1, 60, .inl (fun _ => 0))), (q2, .inl (cA2, 60, .inl (fun _ => 0))), (q3, .inl (cA3, 60, .inl (fun _ => 0)))] := hD
  refine lv_aload_n hx hb dX0_init_60 rfl (lv_at hl 0 rfl) ?_
  refine lv_aload_n hx hb dX0_init_61 rfl (lv_at hl 0 rfl) ?_
  refine va_get (D := (dC, dI)) (ci := 0) (v := .int (nI K)) (C := RX0) (T := TX0) (N := 11) hx hb hts hw0 hown hK hP 0 rfl rfl 0 (by decide) (hts (.fieldLink RX0 38 "DropCode" "size" "I") (by decide +kernel)) (fun _ h9 => h9) rfl dX0_init_62 ?_
  refine va_newa (atype := .int) (ty := .int) (n := nI K) (N' := K) (a0 := (K, .inl (fun _ => 0))) hx hb (hts (.arrayClass .int) (by decide +kernel)) rfl hK hP hD hS hA (fun cA => rfl) (nI_pos (by omega)) (nI_clamp (by omega)) (by show K * 4 ≤ 536870912; omega) (Nat.le_of_ble_eq_true rfl) (by show 0 + 60 + 60 + 60 + K ≤ 276; omega) dX0_init_65 (fun q4 cA4 H hK hP hD hS => ?_)
  have hP : va_P (dC, dI) vwCl [(h0, .inr (0, [.int (nI K), .null, .ref q1, .ref q2, .int 0, .null, .null, .int 0, .ref q3, .int 0, .int 0])), (q1, .inl (cA1, 60, .inl (fun _ => 0))), (q2, .inl (cA2, 60, .inl (fun _ => 0))), (q3, .inl (cA3, 60, .inl (fun _ => 0))), (q4, .inl (cA4, K, .inl (fun _ => 0)))] H := hP
  have hD : va_D A [(h0, .inr (0, [.int (nI K), .null, .ref q1, .ref q2, .int 0, .null, .null, .int 0, .ref q3, .int 0, .int 0])), (q1, .inl (cA1, 60, .inl (fun _ => 0))), (q2, .inl (cA2, 60, .inl (fun _ => 0))), (q3, .inl (cA3, 60, .inl (fun _ => 0))), (q4, .inl (cA4, K, .inl (fun _ => 0)))] := hD
  have hK : va_K (dC, dI) vwCl [(cA1, .int), (cA2, .int), (cA3, .int), (cA4, .int)] s := hK
  refine va_putF (D := (dC, dI)) (ci := 0) (v := .ref q4) (ty := .array .int) (C := RX0) (T := TX0) (N := 11) hx hb hts hw0 tyX0 tyX0_ok nmX0 hown hK hP hD hS 0 rfl rfl 1 (by decide) (hts (.fieldLink RX0 41 "DropCode" "row" "[I") (by decide +kernel)) (fun _ h9 => h9) rfl hin rfl (by decide +kernel) rfl rfl (Nat.le_of_ble_eq_true rfl) dX0_init_67 (fun H locs hP hD hS => ?_)
  have hP : va_P (dC, dI) vwCl [(h0, .inr (0, [.int (nI K), .ref q4, .ref q1, .ref q2, .int 0, .null, .null, .int 0, .ref q3, .int 0, .int 0])), (q1, .inl (cA1, 60, .inl (fun _ => 0))), (q2, .inl (cA2, 60, .inl (fun _ => 0))), (q3, .inl (cA3, 60, .inl (fun _ => 0))), (q4, .inl (cA4, K, .inl (fun _ => 0)))] H := hP
  have hD : va_D A [(h0, .inr (0, [.int (nI K), .ref q4, .ref q1, .ref q2, .int 0, .null, .null, .int 0, .ref q3, .int 0, .int 0])), (q1, .inl (cA1, 60, .inl (fun _ => 0))), (q2, .inl (cA2, 60, .inl (fun _ => 0))), (q3, .inl (cA3, 60, .inl (fun _ => 0))), (q4, .inl (cA4, K, .inl (fun _ => 0)))] := hD
  refine lv_aload_n hx hb dX0_init_70 rfl (lv_at hl 0 rfl) ?_
  refine lv_aload_n hx hb dX0_init_71 rfl (lv_at hl 0 rfl) ?_
  refine va_get (D := (dC, dI)) (ci := 0) (v := .int (nI K)) (C := RX0) (T := TX0) (N := 11) hx hb hts hw0 hown hK hP 0 rfl rfl 0 (by decide) (hts (.fieldLink RX0 38 "DropCode" "size" "I") (by decide +kernel)) (fun _ h9 => h9) rfl dX0_init_72 ?_
  refine va_newa (atype := .int) (ty := .int) (n := nI K) (N' := K) (a0 := (K, .inl (fun _ => 0))) hx hb (hts (.arrayClass .int) (by decide +kernel)) rfl hK hP hD hS hA (fun cA => rfl) (nI_pos (by omega)) (nI_clamp (by omega)) (by show K * 4 ≤ 536870912; omega) (Nat.le_of_ble_eq_true rfl) (by show 0 + 60 + 60 + 60 + K + K ≤ 276; omega) dX0_init_75 (fun q5 cA5 H hK hP hD hS => ?_)
  have hP : va_P (dC, dI) vwCl [(h0, .inr (0, [.int (nI K), .ref q4, .ref q1, .ref q2, .int 0, .null, .null, .int 0, .ref q3, .int 0, .int 0])), (q1, .inl (cA1, 60, .inl (fun _ => 0))), (q2, .inl (cA2, 60, .inl (fun _ => 0))), (q3, .inl (cA3, 60, .inl (fun _ => 0))), (q4, .inl (cA4, K, .inl (fun _ => 0))), (q5, .inl (cA5, K, .inl (fun _ => 0)))] H := hP
  have hD : va_D A [(h0, .inr (0, [.int (nI K), .ref q4, .ref q1, .ref q2, .int 0, .null, .null, .int 0, .ref q3, .int 0, .int 0])), (q1, .inl (cA1, 60, .inl (fun _ => 0))), (q2, .inl (cA2, 60, .inl (fun _ => 0))), (q3, .inl (cA3, 60, .inl (fun _ => 0))), (q4, .inl (cA4, K, .inl (fun _ => 0))), (q5, .inl (cA5, K, .inl (fun _ => 0)))] := hD
  have hK : va_K (dC, dI) vwCl [(cA1, .int), (cA2, .int), (cA3, .int), (cA4, .int), (cA5, .int)] s := hK
  refine va_putF (D := (dC, dI)) (ci := 0) (v := .ref q5) (ty := .array .int) (C := RX0) (T := TX0) (N := 11) hx hb hts hw0 tyX0 tyX0_ok nmX0 hown hK hP hD hS 0 rfl rfl 5 (by decide) (hts (.fieldLink RX0 44 "DropCode" "knownWords" "[I") (by decide +kernel)) (fun _ h9 => h9) rfl hin rfl (by decide +kernel) rfl rfl (Nat.le_of_ble_eq_true rfl) dX0_init_77 (fun H locs hP hD hS => ?_)
  have hP : va_P (dC, dI) vwCl [(h0, .inr (0, [.int (nI K), .ref q4, .ref q1, .ref q2, .int 0, .ref q5, .null, .int 0, .ref q3, .int 0, .int 0])), (q1, .inl (cA1, 60, .inl (fun _ => 0))), (q2, .inl (cA2, 60, .inl (fun _ => 0))), (q3, .inl (cA3, 60, .inl (fun _ => 0))), (q4, .inl (cA4, K, .inl (fun _ => 0))), (q5, .inl (cA5, K, .inl (fun _ => 0)))] H := hP
  have hD : va_D A [(h0, .inr (0, [.int (nI K), .ref q4, .ref q1, .ref q2, .int 0, .ref q5, .null, .int 0, .ref q3, .int 0, .int 0])), (q1, .inl (cA1, 60, .inl (fun _ => 0))), (q2, .inl (cA2, 60, .inl (fun _ => 0))), (q3, .inl (cA3, 60, .inl (fun _ => 0))), (q4, .inl (cA4, K, .inl (fun _ => 0))), (q5, .inl (cA5, K, .inl (fun _ => 0)))] := hD
  refine lv_aload_n hx hb dX0_init_80 rfl (lv_at hl 0 rfl) ?_
  refine lv_aload_n hx hb dX0_init_81 rfl (lv_at hl 0 rfl) ?_
  refine va_get (D := (dC, dI)) (ci := 0) (v := .int (nI K)) (C := RX0) (T := TX0) (N := 11) hx hb hts hw0 hown hK hP 0 rfl rfl 0 (by decide) (hts (.fieldLink RX0 38 "DropCode" "size" "I") (by decide +kernel)) (fun _ h9 => h9) rfl dX0_init_82 ?_
  refine va_newa (atype := .int) (ty := .int) (n := nI K) (N' := K) (a0 := (K, .inl (fun _ => 0))) hx hb (hts (.arrayClass .int) (by decide +kernel)) rfl hK hP hD hS hA (fun cA => rfl) (nI_pos (by omega)) (nI_clamp (by omega)) (by show K * 4 ≤ 536870912; omega) (Nat.le_of_ble_eq_true rfl) (by show 0 + 60 + 60 + 60 + K + K + K ≤ 276; omega) dX0_init_85 (fun q6 cA6 H hK hP hD hS => ?_)
  have hP : va_P (dC, dI) vwCl [(h0, .inr (0, [.int (nI K), .ref q4, .ref q1, .ref q2, .int 0, .ref q5, .null, .int 0, .ref q3, .int 0, .int 0])), (q1, .inl (cA1, 60, .inl (fun _ => 0))), (q2, .inl (cA2, 60, .inl (fun _ => 0))), (q3, .inl (cA3, 60, .inl (fun _ => 0))), (q4, .inl (cA4, K, .inl (fun _ => 0))), (q5, .inl (cA5, K, .inl (fun _ => 0))), (q6, .inl (cA6, K, .inl (fun _ => 0)))] H := hP
  have hD : va_D A [(h0, .inr (0, [.int (nI K), .ref q4, .ref q1, .ref q2, .int 0, .ref q5, .null, .int 0, .ref q3, .int 0, .int 0])), (q1, .inl (cA1, 60, .inl (fun _ => 0))), (q2, .inl (cA2, 60, .inl (fun _ => 0))), (q3, .inl (cA3, 60, .inl (fun _ => 0))), (q4, .inl (cA4, K, .inl (fun _ => 0))), (q5, .inl (cA5, K, .inl (fun _ => 0))), (q6, .inl (cA6, K, .inl (fun _ => 0)))] := hD
  have hK : va_K (dC, dI) vwCl [(cA1, .int), (cA2, .int), (cA3, .int), (cA4, .int), (cA5, .int), (cA6, .int)] s := hK
  refine va_putF (D := (dC, dI)) (ci := 0) (v := .ref q6) (ty := .array .int) (C := RX0) (T := TX0) (N := 11) hx hb hts hw0 tyX0 tyX0_ok nmX0 hown hK hP hD hS 0 rfl rfl 6 (by decide) (hts (.fieldLink RX0 47 "DropCode" "knownOrder" "[I") (by decide +kernel)) (fun _ h9 => h9) rfl hin rfl (by decide +kernel) rfl rfl (Nat.le_of_ble_eq_true rfl) dX0_init_87 (fun H locs hP hD hS => ?_)
  have hP : va_P (dC, dI) vwCl [(h0, .inr (0, [.int (nI K), .ref q4, .ref q1, .ref q2, .int 0, .ref q5, .ref q6, .int 0, .ref q3, .int 0, .int 0])), (q1, .inl (cA1, 60, .inl (fun _ => 0))), (q2, .inl (cA2, 60, .inl (fun _ => 0))), (q3, .inl (cA3, 60, .inl (fun _ => 0))), (q4, .inl (cA4, K, .inl (fun _ => 0))), (q5, .inl (cA5, K, .inl (fun _ => 0))), (q6, .inl (cA6, K, .inl (fun _ => 0)))] H := hP
  have hD : va_D A [(h0, .inr (0, [.int (nI K), .ref q4, .ref q1, .ref q2, .int 0, .ref q5, .ref q6, .int 0, .ref q3, .int 0, .int 0])), (q1, .inl (cA1, 60, .inl (fun _ => 0))), (q2, .inl (cA2, 60, .inl (fun _ => 0))), (q3, .inl (cA3, 60, .inl (fun _ => 0))), (q4, .inl (cA4, K, .inl (fun _ => 0))), (q5, .inl (cA5, K, .inl (fun _ => 0))), (q6, .inl (cA6, K, .inl (fun _ => 0)))] := hD
  have hc1 : cA1 = cA2 := Option.some.inj ((hK.2 0 _ rfl).2.symm.trans (hK.2 1 _ rfl).2)
  have hc2 : cA1 = cA3 := Option.some.inj ((hK.2 0 _ rfl).2.symm.trans (hK.2 2 _ rfl).2)
  have hc3 : cA1 = cA4 := Option.some.inj ((hK.2 0 _ rfl).2.symm.trans (hK.2 3 _ rfl).2)
  have hc4 : cA1 = cA5 := Option.some.inj ((hK.2 0 _ rfl).2.symm.trans (hK.2 4 _ rfl).2)
  have hc5 : cA1 = cA6 := Option.some.inj ((hK.2 0 _ rfl).2.symm.trans (hK.2 5 _ rfl).2)
  subst hc1
  subst hc2
  subst hc3
  subst hc4
  subst hc5
  have hP : va_P (dC, dI) vwCl [(h0, .inr (0, [.int (nI K), .ref q4, .ref q1, .ref q2, .int 0, .ref q5, .ref q6, .int 0, .ref q3, .int 0, .int 0])), (q1, .inl (cA1, 60, .inl (fun _ => 0))), (q2, .inl (cA1, 60, .inl (fun _ => 0))), (q3, .inl (cA1, 60, .inl (fun _ => 0))), (q4, .inl (cA1, K, .inl (fun _ => 0))), (q5, .inl (cA1, K, .inl (fun _ => 0))), (q6, .inl (cA1, K, .inl (fun _ => 0)))] H := hP
  have hD : va_D A [(h0, .inr (0, [.int (nI K), .ref q4, .ref q1, .ref q2, .int 0, .ref q5, .ref q6, .int 0, .ref q3, .int 0, .int 0])), (q1, .inl (cA1, 60, .inl (fun _ => 0))), (q2, .inl (cA1, 60, .inl (fun _ => 0))), (q3, .inl (cA1, 60, .inl (fun _ => 0))), (q4, .inl (cA1, K, .inl (fun _ => 0))), (q5, .inl (cA1, K, .inl (fun _ => 0))), (q6, .inl (cA1, K, .inl (fun _ => 0)))] := hD
  have hK9 := hK.sub (tys' := [(cA1, .int)]) [0] rfl
  have hP9 := hP.sub (ws' := (xW (adF [h0, q4, q1, q2, q5, q6, q3]) cA1 K (fun _ => 0) (fun _ => 0) (fun _ => 0) 0 (fun _ => 0) (fun _ => 0) 0 (fun _ => 0) 0 0)) [0, 4, 1, 2, 5, 6, 3] rfl
  have hD9 := hD.sub (ws' := (xW (adF [h0, q4, q1, q2, q5, q6, q3]) cA1 K (fun _ => 0) (fun _ => 0) (fun _ => 0) 0 (fun _ => 0) (fun _ => 0) 0 (fun _ => 0) 0 0)) [0, 4, 1, 2, 5, 6, 3] (by decide) rfl
  refine W.widen (k := 6) (n := 276) (Nat.le_of_ble_eq_true rfl) (by show 0 + 60 + 60 + 60 + K + K + K ≤ 276; omega) ?_
  exact W.vret hx hb hr (fun t ht hW => ⟨⟨(adF [h0, q4, q1, q2, q5, q6, q3], cA1, cA1), rfl, rfl, by rw [ht]; exact hP9, va_K.moved hW.alike hK9, hD9⟩, hS.F ht⟩) hS.2.2 dX0_init_90
set_option maxHeartbeats 4000000 in
set_option maxRecDepth 100000 in
/-- a new DropCodeModel -/
theorem c_X1_init (l : Launch) (dC : Nat → ClassId) (dI : Nat → Nat → Nat) (sz h0 K : Nat) (hK1 : 1 ≤ K) (hK2 : K ≤ 32) (k : Int32) (hk : fmF k + 1 = nI K) : Met l yX1_init wsX1_init ({ frames := 1, cells := 8, slots := 340, locals := 40 }) (va_Pc [.ref h0, .int k] (wB dC dI [] sz [(h0, .inr (1, [.int 0, .null, .int 0, .null, .null, .null, .int 0, .null, .null, .null, .int 0, .int 0, .null, .int 0]))])) (va_Qv (fun (u : (Nat → Nat) × ClassId × ClassId) => u.1 0 = h0) (fun u => oB dC dI [(u.2.1, .int), (u.2.2, .boolean)] (va_A [(h0, .inr (1, [.int 0, .null, .int 0, .null, .null, .null, .int 0, .null, .null, .null, .int 0, .int 0, .null, .int 0]))] sz) (rW u.1 u.2.1 u.2.2 K (fun _ => 0) 0 (fun _ => 0) (fun _ => 0) (fun _ => 0) 0 (fun _ => 0) (fun _ => 0) (fun _ => 0) 0 0 (fun _ => 0) 0)) (va_A [(h0, .inr (1, [.int 0, .null, .int 0, .null, .null, .null, .int 0, .null, .null, .null, .int 0, .int 0, .null, .int 0]))] sz)) 8 340 (va_A [(h0, .inr (1, [.int 0, .null, .int 0, .null, .null, .null, .int 0, .null, .null, .null, .int 0, .int 0, .null, .int 0]))] sz) := by
  refine Met.ofW (cc := cX1_init) (maxL := 3) (ret := none) (by decide) rfl ?_
  intro p e s m args below meth c s₁ B hml hv
  obtain ⟨rfl, hsz, hP, hK, hD0⟩ := hv
  have hx := B.exec
  have hb := B.bytes
  have hr := B.returns
  have hts := atoms_spec (ws := wsX1_init) B.pre
  have hown : s.vm.findClass RX1 = some m.cls := findClass_of_methodNamed B.named
  have hlocks := B.notSynchronized
  have hin : meth.name = "<init>" := (name_of_methodNamed B.named B.method).1
  have hw0 : ∀ w ∈ wsX10, w ∈ wsX1_init := fun _ h => List.mem_cons_of_mem _ (List.mem_append_right _ h)
  subst hsz
  have hD := hD0.self (sz := s.heap.size)
  generalize hAe : va_A [(h0, .inr (1, [.int 0, .null, .int 0, .null, .null, .null, .int 0, .null, .null, .null, .int 0, .int 0, .null, .int 0]))] s.heap.size = A at hD ⊢
  have hA : ∀ q : Nat, s.heap.size ≤ q → A q := fun q h => by rw [← hAe]; exact Or.inr h
  have hS : va_S A s.heap s.heap [] := va_S.rf
  have hP : va_P (dC, dI) vwCl [(h0, .inr (1, [.int 0, .null, .int 0, .null, .null, .null, .int 0, .null, .null, .null, .int 0, .int 0, .null, .int 0]))] s.heap := hP
  have hl := lv_entry ([.ref h0, .int k]) (n := 3) (Nat.le_of_ble_eq_true rfl)
  rw [lg_entry_eq]
  generalize (lg_sl ([.ref h0, .int k]) ++ List.replicate (3 - (lg_sl ([.ref h0, .int k])).length) Slot.unset).toArray = ls at hl ⊢
  have hl : lv_has ls 3 [(0, .ref h0), (1, .int k)] := hl
  refine lv_aload_n hx hb dX1_init_0 rfl (lv_at hl 0 rfl) ?_
  refine W.objInit hx hb hown (hts (.methodLink RX1 1 objectInit) (by decide +kernel)) (hts (.instanceMethod objectInit) (by decide +kernel)) (hts _ (List.mem_cons_of_mem _ (List.mem_append_left _ (List.mem_of_getElem? (i := 2) rfl)))) rfl (by rw [hml]; exact hl.1) rfl dX1_init_1 (Nat.le_of_ble_eq_true rfl) (Nat.le_of_ble_eq_true rfl) ?_
  refine W.eq (g2 := F0 m 4 ls []) rfl ?_
  refine lv_aload_n hx hb dX1_init_4 rfl (lv_at hl 0 rfl) ?_
  refine lv_bipush (v := 32) hx hb dX1_init_5 (by decide) ?_
  refine va_newa (atype := .int) (ty := .int) (n := 32) (N' := 32) (a0 := (32, .inl (fun _ => 0))) hx hb (hts (.arrayClass .int) (by decide +kernel)) rfl hK hP hD hS hA (fun cA => rfl) (by decide) (by decide) (by show 32 * 4 ≤ 536870912; omega) (Nat.le_of_ble_eq_true rfl) (by show 0 + 32 ≤ 340; omega) dX1_init_7 (fun q1 cA1 H hK hP hD hS => ?_)
  have hP : va_P (dC, dI) vwCl [(h0, .inr (1, [.int 0, .null, .int 0, .null, .null, .null, .int 0, .null, .null, .null, .int 0, .int 0, .null, .int 0])), (q1, .inl (cA1, 32, .inl (fun _ => 0)))] H := hP
  have hD : va_D A [(h0, .inr (1, [.int 0, .null, .int 0, .null, .null, .null, .int 0, .null, .null, .null, .int 0, .int 0, .null, .int 0])), (q1, .inl (cA1, 32, .inl (fun _ => 0)))] := hD
  have hK : va_K (dC, dI) vwCl [(cA1, .int)] s := hK
  refine va_putF (D := (dC, dI)) (ci := 1) (v := .ref q1) (ty := .array .int) (C := RX1) (T := TX1) (N := 14) hx hb hts hw0 tyX1 tyX1_ok nmX1 hown hK hP hD hS 0 rfl rfl 1 (by decide) (hts (.fieldLink RX1 7 "DropCodeModel" "row" "[I") (by decide +kernel)) (fun _ h9 => h9) rfl hin rfl (by decide +kernel) rfl rfl (Nat.le_of_ble_eq_true rfl) dX1_init_9 (fun H locs hP hD hS => ?_)
  have hP : va_P (dC, dI) vwCl [(h0, .inr (1, [.int 0, .ref q1, .int 0, .null, .null, .null, .int 0, .null, .null, .null, .int 0, .int 0, .null, .int 0])), (q1, .inl (cA1, 32, .inl (fun _ => 0)))] H := hP
  have hD : va_D A [(h0, .inr (1, [.int 0, .ref q1, .int 0, .null, .null, .null, .int 0, .null, .null, .null, .int 0, .int 0, .null, .int 0])), (q1, .inl (cA1, 32, .inl (fun _ => 0)))] := hD
  refine lv_aload_n hx hb dX1_init_12 rfl (lv_at hl 0 rfl) ?_
  refine lv_bipush (v := 60) hx hb dX1_init_13 (by decide) ?_
  refine va_newa (atype := .int) (ty := .int) (n := 60) (N' := 60) (a0 := (60, .inl (fun _ => 0))) hx hb (hts (.arrayClass .int) (by decide +kernel)) rfl hK hP hD hS hA (fun cA => rfl) (by decide) (by decide) (by show 60 * 4 ≤ 536870912; omega) (Nat.le_of_ble_eq_true rfl) (by show 0 + 32 + 60 ≤ 340; omega) dX1_init_15 (fun q2 cA2 H hK hP hD hS => ?_)
  have hP : va_P (dC, dI) vwCl [(h0, .inr (1, [.int 0, .ref q1, .int 0, .null, .null, .null, .int 0, .null, .null, .null, .int 0, .int 0, .null, .int 0])), (q1, .inl (cA1, 32, .inl (fun _ => 0))), (q2, .inl (cA2, 60, .inl (fun _ => 0)))] H := hP
  have hD : va_D A [(h0, .inr (1, [.int 0, .ref q1, .int 0, .null, .null, .null, .int 0, .null, .null, .null, .int 0, .int 0, .null, .int 0])), (q1, .inl (cA1, 32, .inl (fun _ => 0))), (q2, .inl (cA2, 60, .inl (fun _ => 0)))] := hD
  have hK : va_K (dC, dI) vwCl [(cA1, .int), (cA2, .int)] s := hK
  refine va_putF (D := (dC, dI)) (ci := 1) (v := .ref q2) (ty := .array .int) (C := RX1) (T := TX1) (N := 14) hx hb hts hw0 tyX1 tyX1_ok nmX1 hown hK hP hD hS 0 rfl rfl 3 (by decide) (hts (.fieldLink RX1 13 "DropCodeModel" "seeds" "[I") (by decide +kernel)) (fun _ h9 => h9) rfl hin rfl (by decide +kernel) rfl rfl (Nat.le_of_ble_eq_true rfl) dX1_init_17 (fun H locs hP hD hS => ?_)
  have hP : va_P (dC, dI) vwCl [(h0, .inr (1, [.int 0, .ref q1, .int 0, .ref q2, .null, .null, .int 0, .null, .null, .null, .int 0, .int 0, .null, .int 0])), (q1, .inl (cA1, 32, .inl (fun _ => 0))), (q2, .inl (cA2, 60, .inl (fun _ => 0)))] H := hP
  have hD : va_D A [(h0, .inr (1, [.int 0, .ref q1, .int 0, .ref q2, .null, .null, .int 0, .null, .null, .null, .int 0, .int 0, .null, .int 0])), (q1, .inl (cA1, 32, .inl (fun _ => 0))), (q2, .inl (cA2, 60, .inl (fun _ => 0)))] := hD
  refine lv_aload_n hx hb dX1_init_20 rfl (lv_at hl 0 rfl) ?_
  refine lv_bipush (v := 60) hx hb dX1_init_21 (by decide) ?_
  refine va_newa (atype := .int) (ty := .int) (n := 60) (N' := 60) (a0 := (60, .inl (fun _ => 0))) hx hb (hts (.arrayClass .int) (by decide +kernel)) rfl hK hP hD hS hA (fun cA => rfl) (by decide) (by decide) (by show 60 * 4 ≤ 536870912; omega) (Nat.le_of_ble_eq_true rfl) (by show 0 + 32 + 60 + 60 ≤ 340; omega) dX1_init_23 (fun q3 cA3 H hK hP hD hS => ?_)
  have hP : va_P (dC, dI) vwCl [(h0, .inr (1, [.int 0, .ref q1, .int 0, .ref q2, .null, .null, .int 0, .null, .null, .null, .int 0, .int 0, .null, .int 0])), (q1, .inl (cA1, 32, .inl (fun _ => 0))), (q2, .inl (cA2, 60, .inl (fun _ => 0))), (q3, .inl (cA3, 60, .inl (fun _ => 0)))] H := hP
  have hD : va_D A [(h0, .inr (1, [.int 0, .ref q1, .int 0, .ref q2, .null, .null, .int 0, .null, .null, .null, .int 0, .int 0, .null, .int 0])), (q1, .inl (cA1, 32, .inl (fun _ => 0))), (q2, .inl (cA2, 60, .inl (fun _ => 0))), (q3, .inl (cA3, 60, .inl (fun _ => 0)))] := hD
  have hK : va_K (dC, dI) vwCl [(cA1, .int), (cA2, .int), (cA3, .int)] s := hK
  refine va_putF (D := (dC, dI)) (ci := 1) (v := .ref q3) (ty := .array .int) (C := RX1) (T := TX1) (N := 14) hx hb hts hw0 tyX1 tyX1_ok nmX1 hown hK hP hD hS 0 rfl rfl 4 (by decide) (hts (.fieldLink RX1 16 "DropCodeModel" "values" "[I") (by decide +kernel)) (fun _ h9 => h9) rfl hin rfl (by decide +kernel) rfl rfl (Nat.le_of_ble_eq_true rfl) dX1_init_25 (fun H locs hP hD hS => ?_)
  have hP : va_P (dC, dI) vwCl [(h0, .inr (1, [.int 0, .ref q1, .int 0, .ref q2, .ref q3, .null, .int 0, .null, .null, .null, .int 0, .int 0, .null, .int 0])), (q1, .inl (cA1, 32, .inl (fun _ => 0))), (q2, .inl (cA2, 60, .inl (fun _ => 0))), (q3, .inl (cA3, 60, .inl (fun _ => 0)))] H := hP
  have hD : va_D A [(h0, .inr (1, [.int 0, .ref q1, .int 0, .ref q2, .ref q3, .null, .int 0, .null, .null, .null, .int 0, .int 0, .null, .int 0])), (q1, .inl (cA1, 32, .inl (fun _ => 0))), (q2, .inl (cA2, 60, .inl (fun _ => 0))), (q3, .inl (cA3, 60, .inl (fun _ => 0)))] := hD
  refine lv_aload_n hx hb dX1_init_28 rfl (lv_at hl 0 rfl) ?_
  refine lv_bipush (v := 60) hx hb dX1_init_29 (by decide) ?_
  refine va_newa (atype := .int) (ty := .int) (n := 60) (N' := 60) (a0 := (60, .inl (fun _ => 0))) hx hb (hts (.arrayClass .int) (by decide +kernel)) rfl hK hP hD hS hA (fun cA => rfl) (by decide) (by decide) (by show 60 * 4 ≤ 536870912; omega) (Nat.le_of_ble_eq_true rfl) (by show 0 + 32 + 60 + 60 + 60 ≤ 340; omega) dX1_init_31 (fun q4 cA4 H hK hP hD hS => ?_)
  have hP : va_P (dC, dI) vwCl [(h0, .inr (1, [.int 0, .ref q1, .int 0, .ref q2, .ref q3, .null, .int 0, .null, .null, .null, .int 0, .int 0, .null, .int 0])), (q1, .inl (cA1, 32, .inl (fun _ => 0))), (q2, .inl (cA2, 60, .inl (fun _ => 0))), (q3, .inl (cA3, 60, .inl (fun _ => 0))), (q4, .inl (cA4, 60, .inl (fun _ => 0)))] H := hP
  have hD : va_D A [(h0, .inr (1, [.int 0, .ref q1, .int 0, .ref q2, .ref q3, .null, .int 0, .null, .null, .null, .int 0, .int 0, .null, .int 0])), (q1, .inl (cA1, 32, .inl (fun _ => 0))), (q2, .inl (cA2, 60, .inl (fun _ => 0))), (q3, .inl (cA3, 60, .inl (fun _ => 0))), (q4, .inl (cA4, 60, .inl (fun _ => 0)))] := hD
  have hK : va_K (dC, dI) vwCl [(cA1, .int), (cA2, .int), (cA3, .int), (cA4, .int)] s := hK
  refine va_putF (D := (dC, dI)) (ci := 1) (v := .ref q4) (ty := .array .int) (C := RX1) (T := TX1) (N := 14) hx hb hts hw0 tyX1 tyX1_ok nmX1 hown hK hP hD hS 0 rfl rfl 5 (by decide) (hts (.fieldLink RX1 19 "DropCodeModel" "waits" "[I") (by decide +kernel)) (fun _ h9 => h9) rfl hin rfl (by decide +kernel) rfl rfl (Nat.le_of_ble_eq_true rfl) dX1_init_33 (fun H locs hP hD hS => ?_)
  have hP : va_P (dC, dI) vwCl [(h0, .inr (1, [.int 0, .ref q1, .int 0, .ref q2, .ref q3, .ref q4, .int 0, .null, .null, .null, .int 0, .int 0, .null, .int 0])), (q1, .inl (cA1, 32, .inl (fun _ => 0))), (q2, .inl (cA2, 60, .inl (fun _ => 0))), (q3, .inl (cA3, 60, .inl (fun _ => 0))), (q4, .inl (cA4, 60, .inl (fun _ => 0)))] H := hP
  have hD : va_D A [(h0, .inr (1, [.int 0, .ref q1, .int 0, .ref q2, .ref q3, .ref q4, .int 0, .null, .null, .null, .int 0, .int 0, .null, .int 0])), (q1, .inl (cA1, 32, .inl (fun _ => 0))), (q2, .inl (cA2, 60, .inl (fun _ => 0))), (q3, .inl (cA3, 60, .inl (fun _ => 0))), (q4, .inl (cA4, 60, .inl (fun _ => 0)))] := hD
  refine lv_aload_n hx hb dX1_init_36 rfl (lv_at hl 0 rfl) ?_
  refine lv_bipush (v := 32) hx hb dX1_init_37 (by decide) ?_
  refine va_newa (atype := .boolean) (ty := .boolean) (n := 32) (N' := 32) (a0 := (32, .inl (fun _ => 0))) hx hb (hts (.arrayClass .boolean) (by decide +kernel)) rfl hK hP hD hS hA (fun cA => rfl) (by decide) (by decide) (by show 32 * 1 ≤ 536870912; omega) (Nat.le_of_ble_eq_true rfl) (by show 0 + 32 + 60 + 60 + 60 + 32 ≤ 340; omega) dX1_init_39 (fun q5 cA5 H hK hP hD hS => ?_)
  have hP : va_P (dC, dI) vwCl [(h0, .inr (1, [.int 0, .ref q1, .int 0, .ref q2, .ref q3, .ref q4, .int 0, .null, .null, .null, .int 0, .int 0, .null, .int 0])), (q1, .inl (cA1, 32, .inl (fun _ => 0))), (q2, .inl (cA2, 60, .inl (fun _ => 0))), (q3, .inl (cA3, 60, .inl (fun _ => 0))), (q4, .inl (cA4, 60, .inl (fun _ => 0))), (q5, .inl (cA5, 32, .inl (fun _ => 0)))] H := hP
  have hD : va_D A [(h0, .inr (1, [.int 0, .ref q1, .int 0, .ref q2, .ref q3, .ref q4, .int 0, .null, .null, .null, .int 0, .int 0, .null, .int 0])), (q1, .inl (cA1, 32, .inl (fun _ => 0))), (q2, .inl (cA2, 60, .inl (fun _ => 0))), (q3, .inl (cA3, 60, .inl (fun _ => 0))), (q4, .inl (cA4, 60, .inl (fun _ => 0))), (q5, .inl (cA5, 32, .inl (fun _ => 0)))] := hD
  have hK : va_K (dC, dI) vwCl [(cA1, .int), (cA2, .int), (cA3, .int), (cA4, .int), (cA5, .boolean)] s := hK
  refine va_putF (D := (dC, dI)) (ci := 1) (v := .ref q5) (ty := .array .boolean) (C := RX1) (T := TX1) (N := 14) hx hb hts hw0 tyX1 tyX1_ok nmX1 hown hK hP hD hS 0 rfl rfl 7 (by decide) (hts (.fieldLink RX1 22 "DropCodeModel" "known" "[Z") (by decide +kernel)) (fun _ h9 => h9) rfl hin rfl (by decide +kernel) rfl rfl (Nat.le_of_ble_eq_true rfl) dX1_init_41 (fun H locs hP hD hS => ?_)
  have hP : va_P (dC, dI) vwCl [(h0, .inr (1, [.int 0, .ref q1, .int 0, .ref q2, .ref q3, .ref q4, .int 0, .ref q5, .null, .null, .int 0, .int 0, .null, .int 0])), (q1, .inl (cA1, 32, .inl (fun _ => 0))), (q2, .inl (cA2, 60, .inl (fun _ => 0))), (q3, .inl (cA3, 60, .inl (fun _ => 0))), (q4, .inl (cA4, 60, .inl (fun _ => 0))), (q5, .inl (cA5, 32, .inl (fun _ => 0)))] H := hP
  have hD : va_D A [(h0, .inr (1, [.int 0, .ref q1, .int 0, .ref q2, .ref q3, .ref q4, .int 0, .ref q5, .null, .null, .int 0, .int 0, .null, .int 0])), (q1, .inl (cA1, 32, .inl (fun _ => 0))), (q2, .inl (cA2, 60, .inl (fun _ => 0))), (q3, .inl (cA3, 60, .inl (fun _ => 0))), (q4, .inl (cA4, 60, .inl (fun _ => 0))), (q5, .inl (cA5, 32, .inl (fun _ => 0)))] := hD
  refine lv_aload_n hx hb dX1_init_44 rfl (lv_at hl 0 rfl) ?_
  refine lv_bipush (v := 32) hx hb dX1_init_45 (by decide) ?_
  refine va_newa (atype := .int) (ty := .int) (n := 32) (N' := 32) (a0 := (32, .inl (fun _ => 0))) hx hb (hts (.arrayClass .int) (by decide +kernel)) rfl hK hP hD hS hA (fun cA => rfl) (by decide) (by decide) (by show 32 * 4 ≤ 536870912; omega) (Nat.le_of_ble_eq_true rfl) (by show 0 + 32 + 60 + 60 + 60 + 32 + 32 ≤ 340; omega) dX1_init_47 (fun q6 cA6 H hK hP hD hS => ?_)
  have hP : va_P (dC, dI) vwCl [(h0, .inr (1, [.int 0, .ref q1, .int 0, .ref q2, .ref q3, .ref q4, .int 0, .ref q5, .null, .null, .int 0, .int 0, .null, .int 0])), (q1, .inl (cA1, 32, .inl (fun _ => 0))), (q2, .inl (cA2, 60, .inl (fun _ => 0))), (q3, .inl (cA3, 60, .inl (fun _ => 0))), (q4, .inl (cA4, 60, .inl (fun _ => 0))), (q5, .inl (cA5, 32, .inl (fun _ => 0))), (q6, .inl (cA6, 32, .inl (fun _ => 0)))] H := hP
  have hD : va_D A [(h0, .inr (1, [.int 0, .ref q1, .int 0, .ref q2, .ref q3, .ref q4, .int 0, .ref q5, .null, .null, .int 0, .int 0, .null, .int 0])), (q1, .inl (cA1, 32, .inl (fun _ => 0))), (q2, .inl (cA2, 60, .inl (fun _ => 0))), (q3, .inl (cA3, 60, .inl (fun _ => 0))), (q4, .inl (cA4, 60, .inl (fun _ => 0))), (q5, .inl (cA5, 32, .inl (fun _ => 0))), (q6, .inl (cA6, 32, .inl (fun _ => 0)))] := hD
  have hK : va_K (dC, dI) vwCl [(cA1, .int), (cA2, .int), (cA3, .int), (cA4, .int), (cA5, .boolean), (cA6, .int)] s := hK
  refine va_putF (D := (dC, dI)) (ci := 1) (v := .ref q6) (ty := .array .int) (C := RX1) (T := TX1) (N := 14) hx hb hts hw0 tyX1 tyX1_ok nmX1 hown hK hP hD hS 0 rfl rfl 8 (by decide) (hts (.fieldLink RX1 26 "DropCodeModel" "told" "[I") (by decide +kernel)) (fun _ h9 => h9) rfl hin rfl (by decide +kernel) rfl rfl (Nat.le_of_ble_eq_true rfl) dX1_init_49 (fun H locs hP hD hS => ?_)
  have hP : va_P (dC, dI) vwCl [(h0, .inr (1, [.int 0, .ref q1, .int 0, .ref q2, .ref q3, .ref q4, .int 0, .ref q5, .ref q6, .null, .int 0, .int 0, .null, .int 0])), (q1, .inl (cA1, 32, .inl (fun _ => 0))), (q2, .inl (cA2, 60, .inl (fun _ => 0))), (q3, .inl (cA3, 60, .inl (fun _ => 0))), (q4, .inl (cA4, 60, .inl (fun _ => 0))), (q5, .inl (cA5, 32, .inl (fun _ => 0))), (q6, .inl (cA6, 32, .inl (fun _ => 0)))] H := hP
  have hD : va_D A [(h0, .inr (1, [.int 0, .ref q1, .int 0, .ref q2, .ref q3, .ref q4, .int 0, .ref q5, .ref q6, .null, .int 0, .int 0, .null, .int 0])), (q1, .inl (cA1, 32, .inl (fun _ => 0))), (q2, .inl (cA2, 60, .inl (fun _ => 0))), (q3, .inl (cA3, 60, .inl (fun _ => 0))), (q4, .inl (cA4, 60, .inl (fun _ => 0))), (q5, .inl (cA5, 32, .inl (fun _ => 0))), (q6, .inl (cA6, 32, .inl (fun _ => 0)))] := hD
  refine lv_aload_n hx hb dX1_init_52 rfl (lv_at hl 0 rfl) ?_
  refine lv_bipush (v := 32) hx hb dX1_init_53 (by decide) ?_
  refine va_newa (atype := .int) (ty := .int) (n := 32) (N' := 32) (a0 := (32, .inl (fun _ => 0))) hx hb (hts (.arrayClass .int) (by decide +kernel)) rfl hK hP hD hS hA (fun cA => rfl) (by decide) (by decide) (by show 32 * 4 ≤ 536870912; omega) (Nat.le_of_ble_eq_true rfl) (by show 0 + 32 + 60 + 60 + 60 + 32 + 32 + 32 ≤ 340; omega) dX1_init_55 (fun q7 cA7 H hK hP hD hS => ?_)
  have hP : va_P (dC, dI) vwCl [(h0, .inr (1, [.int 0, .ref q1, .int 0, .ref q2, .ref q3, .ref q4, .int 0, .ref q5, .ref q6, .null, .int 0, .int 0, .null, .int 0])), (q1, .inl (cA1, 32, .inl (fun _ => 0))), (q2, .inl (cA2, 60, .inl (fun _ => 0))), (q3, .inl (cA3, 60, .inl (fun _ => 0))), (q4, .inl (cA4, 60, .inl (fun _ => 0))), (q5, .inl (cA5, 32, .inl (fun _ => 0))), (q6, .inl (cA6, 32, .inl (fun _ => 0))), (q7, .inl (cA7, 32, .inl (fun _ => 0)))] H := hP
  have hD : va_D A [(h0, .inr (1, [.int 0, .ref q1, .int 0, .ref q2, .ref q3, .ref q4, .int 0, .ref q5, .ref q6, .null, .int 0, .int 0, .null, .int 0])), (q1, .inl (cA1, 32, .inl (fun _ => 0))), (q2, .inl (cA2, 60, .inl (fun _ => 0))), (q3, .inl (cA3, 60, .inl (fun _ => 0))), (q4, .inl (cA4, 60, .inl (fun _ => 0))), (q5, .inl (cA5, 32, .inl (fun _ => 0))), (q6, .inl (cA6, 32, .inl (fun _ => 0))), (q7, .inl (cA7, 32, .inl (fun _ => 0)))] := hD
  have hK : va_K (dC, dI) vwCl [(cA1, .int), (cA2, .int), (cA3, .int), (cA4, .int), (cA5, .boolean), (cA6, .int), (cA7, .int)] s := hK
  refine va_putF (D := (dC, dI)) (ci := 1) (v := .ref q7) (ty := .array .int) (C := RX1) (T := TX1) (N := 14) hx hb hts hw0 tyX1 tyX1_ok nmX1 hown hK hP hD hS 0 rfl rfl 9 (by decide) (hts (.fieldLink RX1 29 "DropCodeModel" "order" "[I") (by decide +kernel)) (fun _ h9 => h9) rfl hin rfl (by decide +kernel) rfl rfl (Nat.le_of_ble_eq_true rfl) dX1_init_57 (fun H locs hP hD hS => ?_)
  have hP : va_P (dC, dI) vwCl [(h0, .inr (1, [.int 0, .ref q1, .int 0, .ref q2, .ref q3, .ref q4, .int 0, .ref q5, .ref q6, .ref q7, .int 0, .int 0, .null, .int 0])), (q1, .inl (cA1, 32, .inl (fun _ => 0))), (q2, .inl (cA2, 60, .inl (fun _ => 0))), (q3, .inl (cA3, 60, .inl (fun _ => 0))), (q4, .inl (cA4, 60, .inl (fun _ => 0))), (q5, .inl (cA5, 32, .inl (fun _ => 0))), (q6, .inl (cA6, 32, .inl (fun _ => 0))), (q7, .inl (cA7, 32, .inl (fun _ => 0)))] H := hP
  have hD : va_D A [(h0, .inr (1, [.int 0, .ref q1, .int 0, .ref q2, .ref q3, .ref q4, .int 0, .ref q5, .ref q6, .ref q7, .int 0, .int 0, .null, .int 0])), (q1, .inl (cA1, 32, .inl (fun _ => 0))), (q2, .inl (cA2, 60, .inl (fun _ => 0))), (q3, .inl (cA3, 60, .inl (fun _ => 0))), (q4, .inl (cA4, 60, .inl (fun _ => 0))), (q5, .inl (cA5, 32, .inl (fun _ => 0))), (q6, .inl (cA6, 32, .inl (fun _ => 0))), (q7, .inl (cA7, 32, .inl (fun _ => 0)))] := hD
  refine lv_aload_n hx hb dX1_init_60 rfl (lv_at hl 0 rfl) ?_
  refine lv_bipush (v := 32) hx hb dX1_init_61 (by decide) ?_
  refine va_newa (atype := .boolean) (ty := .boolean) (n := 32) (N' := 32) (a0 := (32, .inl (fun _ => 0))) hx hb (hts (.arrayClass .boolean) (by decide +kernel)) rfl hK hP hD hS hA (fun cA => rfl) (by decide) (by decide) (by show 32 * 1 ≤ 536870912; omega) (Nat.le_of_ble_eq_true rfl) (by show 0 + 32 + 60 + 60 + 60 + 32 + 32 + 32 + 32 ≤ 340; omega) dX1_init_63 (fun q8 cA8 H hK hP hD hS => ?_)
  have hP : va_P (dC, dI) vwCl [(h0, .inr (1, [.int 0, .ref q1, .int 0, .ref q2, .ref q3, .ref q4, .int 0, .ref q5, .ref q6, .ref q7, .int 0, .int 0, .null, .int 0])), (q1, .inl (cA1, 32, .inl (fun _ => 0))), (q2, .inl (cA2, 60, .inl (fun _ => 0))), (q3, .inl (cA3, 60, .inl (fun _ => 0))), (q4, .inl (cA4, 60, .inl (fun _ => 0))), (q5, .inl (cA5, 32, .inl (fun _ => 0))), (q6, .inl (cA6, 32, .inl (fun _ => 0))), (q7, .inl (cA7, 32, .inl (fun _ => 0))), (q8, .inl (cA8, 32, .inl (fun _ => 0)))] H := hP
  have hD : va_D A [(h0, .inr (1, [.int 0, .ref q1, .int 0, .ref q2, .ref q3, .ref q4, .int 0, .ref q5, .ref q6, .ref q7, .int 0, .int 0, .null, .int 0])), (q1, .inl (cA1, 32, .inl (fun _ => 0))), (q2, .inl (cA2, 60, .inl (fun _ => 0))), (q3, .inl (cA3, 60, .inl (fun _ => 0))), (q4, .inl (cA4, 60, .inl (fun _ => 0))), (q5, .inl (cA5, 32, .inl (fun _ => 0))), (q6, .inl (cA6, 32, .inl (fun _ => 0))), (q7, .inl (cA7, 32, .inl (fun _ => 0))), (q8, .inl (cA8, 32, .inl (fun _ => 0)))] := hD
  have hK : va_K (dC, dI) vwCl [(cA1, .int), (cA2, .int), (cA3, .int), (cA4, .int), (cA5, .boolean), (cA6, .int), (cA7, .int), (cA8, .boolean)] s := hK
  refine va_putF (D := (dC, dI)) (ci := 1) (v := .ref q8) (ty := .array .boolean) (C := RX1) (T := TX1) (N := 14) hx hb hts hw0 tyX1 tyX1_ok nmX1 hown hK hP hD hS 0 rfl rfl 12 (by decide) (hts (.fieldLink RX1 32 "DropCodeModel" "in" "[Z") (by decide +kernel)) (fun _ h9 => h9) rfl hin rfl (by decide +kernel) rfl rfl (Nat.le_of_ble_eq_true rfl) dX1_init_65 (fun H locs hP hD hS => ?_)
  have hP : va_P (dC, dI) vwCl [(h0, .inr (1, [.int 0, .ref q1, .int 0, .ref q2, .ref q3, .ref q4, .int 0, .ref q5, .ref q6, .ref q7, .int 0, .int 0, .ref q8, .int 0])), (q1, .inl (cA1, 32, .inl (fun _ => 0))), (q2, .inl (cA2, 60, .inl (fun _ => 0))), (q3, .inl (cA3, 60, .inl (fun _ => 0))), (q4, .inl (cA4, 60, .inl (fun _ => 0))), (q5, .inl (cA5, 32, .inl (fun _ => 0))), (q6, .inl (cA6, 32, .inl (fun _ => 0))), (q7, .inl (cA7, 32, .inl (fun _ => 0))), (q8, .inl (cA8, 32, .inl (fun _ => 0)))] H := hP
  have hD : va_D A [(h0, .inr (1, [.int 0, .ref q1, .int 0, .ref q2, .ref q3, .ref q4, .int 0, .ref q5, .ref q6, .ref q7, .int 0, .int 0, .ref q8, .int 0])), (q1, .inl (cA1, 32, .inl (fun _ => 0))), (q2, .inl (cA2, 60, .inl (fun _ => 0))), (q3, .inl (cA3, 60, .inl (fun _ => 0))), (q4, .inl (cA4, 60, .inl (fun _ => 0))), (q5, .inl (cA5, 32, .inl (fun _ => 0))), (q6, .inl (cA6, 32, .inl (fun _ => 0))), (q7, .inl (cA7, 32, .inl (fun _ => 0))), (q8, .inl (cA8, 32, .inl (fun _ => 0)))] := hD
  refine lv_iload_n hx hb dX1_init_68 rfl (lv_at hl 1 rfl) ?_
  refine lv_bipush (v := 32) hx hb dX1_init_69 (by decide) ?_
  refine lv_irem hx hb dX1_init_71 (by decide) ?_
  refine lv_istore_n (lv' := [(2, .int (k - k / 32 * 32)), (0, .ref h0), (1, .int k)]) hx hb dX1_init_72 rfl hl (by decide) rfl (fun ls hl => ?_)
  refine lv_aload_n hx hb dX1_init_73 rfl (lv_at hl 1 rfl) ?_
  refine lv_iconst (v := 1) hx hb dX1_init_74 (by decide) ?_
  refine lv_iload_n hx hb dX1_init_75 rfl (lv_at hl 0 rfl) ?_
  refine lv_if_ge (tgt := 86) hx hb dX1_init_76 (by decide) (fun c1 => ?_) (fun c1 => ?_)
  · skip
    refine lv_iload_n hx hb dX1_init_86 rfl (lv_at hl 0 rfl) ?_
    refine lv_iadd hx hb dX1_init_87 ?_
    refine lv_topi (fun z_1 ez_1 => ?_)
    have ez_1 : z_1 = nI K := ez_1.trans (by rw [← hk, fmF, if_neg (fun h => Int32.not_lt.mpr c1 h), Int32.add_comm])
    subst ez_1
    refine va_putF (D := (dC, dI)) (ci := 1) (v := .int (nI K)) (ty := .int) (C := RX1) (T := TX1) (N := 14) hx hb hts hw0 tyX1 tyX1_ok nmX1 hown hK hP hD hS 0 rfl rfl 0 (by decide) (hts (.fieldLink RX1 35 "DropCodeModel" "words" "I") (by decide +kernel)) (fun _ h9 => h9) rfl hin rfl (by decide +kernel) rfl rfl (Nat.le_of_ble_eq_true rfl) dX1_init_88 (fun H locs hP hD hS => ?_)
    have hP : va_P (dC, dI) vwCl [(h0, .inr (1, [.int (nI K), .ref q1, .int 0, .ref q2, .ref q3, .ref q4, .int 0, .ref q5, .ref q6, .ref q7, .int 0, .int 0, .ref q8, .int 0])), (q1, .inl (cA1, 32, .inl (fun _ => 0))), (q2, .inl (cA2, 60, .inl (fun _ => 0))), (q3, .inl (cA3, 60, .inl (fun _ => 0))), (q4, .inl (cA4, 60, .inl (fun _ => 0))), (q5, .inl (cA5, 32, .inl (fun _ => 0))), (q6, .inl (cA6, 32, .inl (fun _ => 0))), (q7, .inl (cA7, 32, .inl (fun _ => 0))), (q8, .inl (cA8, 32, .inl (fun _ => 0)))] H := hP
    have hD : va_D A [(h0, .inr (1, [.int (nI K), .ref q1, .int 0, .ref q2, .ref q3, .ref q4, .int 0, .ref q5, .ref q6, .ref q7, .int 0, .int 0, .ref q8, .int 0])), (q1, .inl (cA1, 32, .inl (fun _ => 0))), (q2, .inl (cA2, 60, .inl (fun _ => 0))), (q3, .inl (cA3, 60, .inl (fun _ => 0))), (q4, .inl (cA4, 60, .inl (fun _ => 0))), (q5, .inl (cA5, 32, .inl (fun _ => 0))), (q6, .inl (cA6, 32, .inl (fun _ => 0))), (q7, .inl (cA7, 32, .inl (fun _ => 0))), (q8, .inl (cA8, 32, .inl (fun _ => 0)))] := hD
    have hc1 : cA1 = cA2 := Option.some.inj ((hK.2 0 _ rfl).2.symm.trans (hK.2 1 _ rfl).2)
    have hc2 : cA1 = cA3 := Option.some.inj ((hK.2 0 _ rfl).2.symm.trans (hK.2 2 _ rfl).2)
    have hc3 : cA1 = cA4 := Option.some.inj ((hK.2 0 _ rfl).2.symm.trans (hK.2 3 _ rfl).2)
    have hc5 : cA1 = cA6 := Option.some.inj ((hK.2 0 _ rfl).2.symm.trans (hK.2 5 _ rfl).2)
    have hc6 : cA1 = cA7 := Option.some.inj ((hK.2 0 _ rfl).2.symm.trans (hK.2 6 _ rfl).2)
    have hc7 : cA5 = cA8 := Option.some.inj ((hK.2 4 _ rfl).2.symm.trans (hK.2 7 _ rfl).2)
    subst hc1
    subst hc2
    subst hc3
    subst hc5
    subst hc6
    subst hc7
    have hP : va_P (dC, dI) vwCl [(h0, .inr (1, [.int (nI K), .ref q1, .int 0, .ref q2, .ref q3, .ref q4, .int 0, .ref q5, .ref q6, .ref q7, .int 0, .int 0, .ref q8, .int 0])), (q1, .inl (cA1, 32, .inl (fun _ => 0))), (q2, .inl (cA1, 60, .inl (fun _ => 0))), (q3, .inl (cA1, 60, .inl (fun _ => 0))), (q4, .inl (cA1, 60, .inl (fun _ => 0))), (q5, .inl (cA5, 32, .inl (fun _ => 0))), (q6, .inl (cA1, 32, .inl (fun _ => 0))), (q7, .inl (cA1, 32, .inl (fun _ => 0))), (q8, .inl (cA5, 32, .inl (fun _ => 0)))] H := hP
    have hD : va_D A [(h0, .inr (1, [.int (nI K), .ref q1, .int 0, .ref q2, .ref q3, .ref q4, .int 0, .ref q5, .ref q6, .ref q7, .int 0, .int 0, .ref q8, .int 0])), (q1, .inl (cA1, 32, .inl (fun _ => 0))), (q2, .inl (cA1, 60, .inl (fun _ => 0))), (q3, .inl (cA1, 60, .inl (fun _ => 0))), (q4, .inl (cA1, 60, .inl (fun _ => 0))), (q5, .inl (cA5, 32, .inl (fun _ => 0))), (q6, .inl (cA1, 32, .inl (fun _ => 0))), (q7, .inl (cA1, 32, .inl (fun _ => 0))), (q8, .inl (cA5, 32, .inl (fun _ => 0)))] := hD
    have hK9 := hK.sub (tys' := [(cA1, .int), (cA5, .boolean)]) [0, 4] rfl
    have hP9 := hP.sub (ws' := (rW (adF [h0, q1, q2, q3, q4, q5, q6, q7, q8]) cA1 cA5 K (fun _ => 0) 0 (fun _ => 0) (fun _ => 0) (fun _ => 0) 0 (fun _ => 0) (fun _ => 0) (fun _ => 0) 0 0 (fun _ => 0) 0)) [0, 1, 2, 3, 4, 5, 6, 7, 8] rfl
    have hD9 := hD.sub (ws' := (rW (adF [h0, q1, q2, q3, q4, q5, q6, q7, q8]) cA1 cA5 K (fun _ => 0) 0 (fun _ => 0) (fun _ => 0) (fun _ => 0) 0 (fun _ => 0) (fun _ => 0) (fun _ => 0) 0 0 (fun _ => 0) 0)) [0, 1, 2, 3, 4, 5, 6, 7, 8] (by decide) rfl
    refine W.widen (k := 8) (n := 340) (Nat.le_of_ble_eq_true rfl) (by show 0 + 32 + 60 + 60 + 60 + 32 + 32 + 32 + 32 ≤ 340; omega) ?_
    exact W.vret hx hb hr (fun t ht hW => ⟨⟨(adF [h0, q1, q2, q3, q4, q5, q6, q7, q8], cA1, cA5), rfl, rfl, by rw [ht]; exact hP9, va_K.moved hW.alike hK9, hD9⟩, hS.F ht⟩) hS.2.2 dX1_init_91
  · skip
    refine lv_iload_n hx hb dX1_init_79 rfl (lv_at hl 0 rfl) ?_
    refine lv_bipush (v := 32) hx hb dX1_init_80 (by decide) ?_
    refine lv_iadd hx hb dX1_init_82 ?_
    refine lv_goto (tgt := 87) hx hb dX1_init_83 (by decide) ?_
    refine lv_iadd hx hb dX1_init_87 ?_
    refine lv_topi (fun z_1 ez_1 => ?_)
    have ez_1 : z_1 = nI K := ez_1.trans (by rw [← hk, fmF, if_pos (Int32.not_le.mp c1), Int32.add_comm])
    subst ez_1
    refine va_putF (D := (dC, dI)) (ci := 1) (v := .int (nI K)) (ty := .int) (C := RX1) (T := TX1) (N := 14) hx hb hts hw0 tyX1 tyX1_ok nmX1 hown hK hP hD hS 0 rfl rfl 0 (by decide) (hts (.fieldLink RX1 35 "DropCodeModel" "words" "I") (by decide +kernel)) (fun _ h9 => h9) rfl hin rfl (by decide +kernel) rfl rfl (Nat.le_of_ble_eq_true rfl) dX1_init_88 (fun H locs hP hD hS => ?_)
    have hP : va_P (dC, dI) vwCl [(h0, .inr (1, [.int (nI K), .ref q1, .int 0, .ref q2, .ref q3, .ref q4, .int 0, .ref q5, .ref q6, .ref q7, .int 0, .int 0, .ref q8, .int 0])), (q1, .inl (cA1, 32, .inl (fun _ => 0))), (q2, .inl (cA2, 60, .inl (fun _ => 0))), (q3, .inl (cA3, 60, .inl (fun _ => 0))), (q4, .inl (cA4, 60, .inl (fun _ => 0))), (q5, .inl (cA5, 32, .inl (fun _ => 0))), (q6, .inl (cA6, 32, .inl (fun _ => 0))), (q7, .inl (cA7, 32, .inl (fun _ => 0))), (q8, .inl (cA8, 32, .inl (fun _ => 0)))] H := hP
    have hD : va_D A [(h0, .inr (1, [.int (nI K), .ref q1, .int 0, .ref q2, .ref q3, .ref q4, .int 0, .ref q5, .ref q6, .ref q7, .int 0, .int 0, .ref q8, .int 0])), (q1, .inl (cA1, 32, .inl (fun _ => 0))), (q2, .inl (cA2, 60, .inl (fun _ => 0))), (q3, .inl (cA3, 60, .inl (fun _ => 0))), (q4, .inl (cA4, 60, .inl (fun _ => 0))), (q5, .inl (cA5, 32, .inl (fun _ => 0))), (q6, .inl (cA6, 32, .inl (fun _ => 0))), (q7, .inl (cA7, 32, .inl (fun _ => 0))), (q8, .inl (cA8, 32, .inl (fun _ => 0)))] := hD
    have hc1 : cA1 = cA2 := Option.some.inj ((hK.2 0 _ rfl).2.symm.trans (hK.2 1 _ rfl).2)
    have hc2 : cA1 = cA3 := Option.some.inj ((hK.2 0 _ rfl).2.symm.trans (hK.2 2 _ rfl).2)
    have hc3 : cA1 = cA4 := Option.some.inj ((hK.2 0 _ rfl).2.symm.trans (hK.2 3 _ rfl).2)
    have hc5 : cA1 = cA6 := Option.some.inj ((hK.2 0 _ rfl).2.symm.trans (hK.2 5 _ rfl).2)
    have hc6 : cA1 = cA7 := Option.some.inj ((hK.2 0 _ rfl).2.symm.trans (hK.2 6 _ rfl).2)
    have hc7 : cA5 = cA8 := Option.some.inj ((hK.2 4 _ rfl).2.symm.trans (hK.2 7 _ rfl).2)
    subst hc1
    subst hc2
    subst hc3
    subst hc5
    subst hc6
    subst hc7
    have hP : va_P (dC, dI) vwCl [(h0, .inr (1, [.int (nI K), .ref q1, .int 0, .ref q2, .ref q3, .ref q4, .int 0, .ref q5, .ref q6, .ref q7, .int 0, .int 0, .ref q8, .int 0])), (q1, .inl (cA1, 32, .inl (fun _ => 0))), (q2, .inl (cA1, 60, .inl (fun _ => 0))), (q3, .inl (cA1, 60, .inl (fun _ => 0))), (q4, .inl (cA1, 60, .inl (fun _ => 0))), (q5, .inl (cA5, 32, .inl (fun _ => 0))), (q6, .inl (cA1, 32, .inl (fun _ => 0))), (q7, .inl (cA1, 32, .inl (fun _ => 0))), (q8, .inl (cA5, 32, .inl (fun _ => 0)))] H := hP
    have hD : va_D A [(h0, .inr (1, [.int (nI K), .ref q1, .int 0, .ref q2, .ref q3, .ref q4, .int 0, .ref q5, .ref q6, .ref q7, .int 0, .int 0, .ref q8, .int 0])), (q1, .inl (cA1, 32, .inl (fun _ => 0))), (q2, .inl (cA1, 60, .inl (fun _ => 0))), (q3, .inl (cA1, 60, .inl (fun _ => 0))), (q4, .inl (cA1, 60, .inl (fun _ => 0))), (q5, .inl (cA5, 32, .inl (fun _ => 0))), (q6, .inl (cA1, 32, .inl (fun _ => 0))), (q7, .inl (cA1, 32, .inl (fun _ => 0))), (q8, .inl (cA5, 32, .inl (fun _ => 0)))] := hD
    have hK9 := hK.sub (tys' := [(cA1, .int), (cA5, .boolean)]) [0, 4] rfl
    have hP9 := hP.sub (ws' := (rW (adF [h0, q1, q2, q3, q4, q5, q6, q7, q8]) cA1 cA5 K (fun _ => 0) 0 (fun _ => 0) (fun _ => 0) (fun _ => 0) 0 (fun _ => 0) (fun _ => 0) (fun _ => 0) 0 0 (fun _ => 0) 0)) [0, 1, 2, 3, 4, 5, 6, 7, 8] rfl
    have hD9 := hD.sub (ws' := (rW (adF [h0, q1, q2, q3, q4, q5, q6, q7, q8]) cA1 cA5 K (fun _ => 0) 0 (fun _ => 0) (fun _ => 0) (fun _ => 0) 0 (fun _ => 0) (fun _ => 0) (fun _ => 0) 0 0 (fun _ => 0) 0)) [0, 1, 2, 3, 4, 5, 6, 7, 8] (by decide) rfl
    refine W.widen (k := 8) (n := 340) (Nat.le_of_ble_eq_true rfl) (by show 0 + 32 + 60 + 60 + 60 + 32 + 32 + 32 + 32 ≤ 340; omega) ?_
    exact W.vret hx hb hr (fun t ht hW => ⟨⟨(adF [h0, q1, q2, q3, q4, q5, q6, q7, q8], cA1, cA5), rfl, rfl, by rw [ht]; exact hP9, va_K.moved hW.alike hK9, hD9⟩, hS.F ht⟩) hS.2.2 dX1_init_91
end
section
/-! ===== words for the reference ===== -/
def bI (b : Bool) : Int32 := if b then 1 else 0
theorem bI_t : bI true = 1 := rfl
theorem bI_f : bI false = 0 := rfl
theorem bI_0 {b : Bool} : bI b = 0 ↔ b = false := by cases b <;> decide
theorem nar0 : vp_nar .boolean 0 = 0 := by decide +kernel
theorem nar1 : vp_nar .boolean 1 = 1 := by decide +kernel
theorem xor0 (x : Int32) : x ^^^ 0 = x := by
  refine b_ext (fun i _ => ?_)
  rw [b_xor, b_0, Bool.xor_false]
theorem or0 (x : Int32) : x ||| 0 = x := by
  refine b_ext (fun i _ => ?_)
  rw [b_or, b_0, Bool.or_false]
theorem xorself (x : Int32) : x ^^^ x = 0 := by
  refine b_ext (fun i _ => ?_)
  rw [b_xor, b_0, Bool.xor_self]
theorem xor_ass (x y z : Int32) : x ^^^ y ^^^ z = x ^^^ (y ^^^ z) := by
  refine b_ext (fun i _ => ?_)
  rw [b_xor, b_xor, b_xor, b_xor, Bool.xor_assoc]
theorem xor_eq0 {x y : Int32} : x ^^^ y = 0 ↔ y = x := by
  constructor
  · intro h
    refine b_ext (fun i _ => ?_)
    have h1 : bt (x ^^^ y) i = false := by rw [h]; exact b_0 i
    rw [b_xor] at h1
    revert h1
    cases bt x i <;> cases bt y i <;> simp
  · intro h; subst h; exact xorself _
/-- in-rows: what the flags hold -/
def inF (K : Nat) (f : Nat → Int32) (b : Int32) : Prop := ∀ i, i < K → f i = bI (bt b i)
theorem inF_0 {K : Nat} {f : Nat → Int32} (h : ∀ i, i < K → f i = 0) : inF K f 0 := fun i hi => by rw [h i hi, b_0]; rfl
theorem inF_up {K : Nat} (hK : K ≤ 32) {f : Nat → Int32} {b : Int32} {k : Nat} (hk : k < K) (h : inF K f b) : inF K (upd f k (vp_nar .boolean 1)) (b ||| tw k) := by
  intro i hi
  rw [bt_or_tw (by omega)]
  by_cases q : i = k
  · subst q; rw [pk_us, nar1]; simp [bI]
  · rw [pk_un q, h i hi]; simp [q]
/-- the bits, one by one -/
def sbF (b : Int32) : Nat → Int32
  | 0 => 0
  | n + 1 => sbF b n ||| (if bt b n then tw n else 0)
theorem bt_sbF (b : Int32) : ∀ n, n ≤ 32 → ∀ j, bt (sbF b n) j = (decide (j < n) && bt b j) := by
  intro n
  induction n with
  | zero => intro _ j; rw [sbF, b_0]; simp
  | succ n ih =>
    intro hn j
    rw [sbF, b_or, ih (by omega)]
    cases hb : bt b n with
    | false =>
      rw [if_neg Bool.false_ne_true, b_0]
      by_cases q : j = n
      · subst q; rw [hb]; simp
      · have : (decide (j < n) : Bool) = decide (j < n + 1) := by
          rcases Nat.lt_or_ge j n with g | g
          · rw [decide_eq_true g, decide_eq_true (by omega)]
          · rw [decide_eq_false (by omega), decide_eq_false (by omega)]
        rw [this]; simp
    | true =>
      rw [if_pos rfl, bt_tw (by omega)]
      by_cases q : j = n
      · subst q; rw [hb]; simp
      · have : (decide (j < n) : Bool) = decide (j < n + 1) := by
          rcases Nat.lt_or_ge j n with g | g
          · rw [decide_eq_true g, decide_eq_true (by omega)]
          · rw [decide_eq_false (by omega), decide_eq_false (by omega)]
        rw [this]; simp [q]
theorem sbF_all {K : Nat} (hK : K ≤ 32) {b : Int32} (h : ∀ i, bt b i = true → i < K) : sbF b K = b := by
  refine b_ext (fun i _ => ?_)
  rw [bt_sbF b K hK]
  cases hb : bt b i with
  | false => simp
  | true => rw [decide_eq_true (h i hb)]; rfl
theorem pc_K {K : Nat} (hK : K ≤ 32) {b : Int32} (h : ∀ i, bt b i = true → i < K) : cn (bt b) K = pc b := by
  unfold pc
  refine (cn_cut hK (fun i h1 _ => ?_)).symm
  cases hb : bt b i with
  | false => rfl
  | true => have := h i hb; omega
theorem unk_lt {K : Nat} {S kb : Int32} (h : ∀ i, bt S i = true → i < K) : ∀ i, bt (unk S kb) i = true → i < K := by
  intro i hi
  rw [bt_unk, Bool.and_eq_true] at hi
  exact h i hi.1
/-- the waits: those that P tells are put behind T -/
def awA (wt : Nat → Int32) (T : Nat) (P : Nat → Bool) : Nat → (Nat → Int32)
  | 0 => wt
  | k + 1 => if P k then upd (awA wt T P k) k (nI (T + cn P k + 1)) else awA wt T P k
theorem awA_ge {wt : Nat → Int32} {T : Nat} {P : Nat → Bool} {k x : Nat} (h : k ≤ x) : awA wt T P k x = wt x := by
  induction k with
  | zero => rfl
  | succ k ih =>
    rw [awA]
    split
    · rw [pk_un (by omega), ih (by omega)]
    · exact ih (by omega)
theorem awA_yes {wt : Nat → Int32} {T : Nat} {P : Nat → Bool} {n k : Nat} (h : k < n) (hp : P k = true) : awA wt T P n k = nI (T + cn P k + 1) := by
  induction n with
  | zero => omega
  | succ n ih =>
    rw [awA]
    rcases Nat.lt_or_ge k n with g | g
    · split
      · rw [pk_un (by omega)]; exact ih g
      · exact ih g
    · have : k = n := by omega
      subst this
      rw [if_pos hp, pk_us]
theorem awA_no {wt : Nat → Int32} {T : Nat} {P : Nat → Bool} {n k : Nat} (hp : P k = false) : awA wt T P n k = wt k := by
  induction n with
  | zero => rfl
  | succ n ih =>
    rw [awA]
    split
    · rename_i h
      rw [pk_un (by intro e; subst e; rw [hp] at h; cases h)]; exact ih
    · exact ih
/-- the first that waits -/
def fsP (n : Nat) (wt : Nat → Int32) (r : Int32) : Prop := (r = -1 ∧ ∀ k, k < n → ¬ 0 < wt k) ∨ (∃ j, j < n ∧ r = nI j ∧ 0 < wt j ∧ ∀ k, k < n → 0 < wt k → wt j ≤ wt k)
/-- the reference and the queue's state belong together, h drops having gone out, T0 turns before -/
def qR (K n T0 h : Nat) (y : QS) (wt : Nat → Int32) (tn : Int32) (kn tl od : Nat → Int32) (fd cl : Int32) : Prop :=
  inF K kn y.2.2.1 ∧ (∀ i, bt y.2.2.1 i = true → tl i = y.1 i) ∧ (∀ x, x < pc y.2.2.1 → od x = y.2.1 x) ∧ fd = nI (pc y.2.2.1) ∧ cl = y.2.2.2.2.2 ∧ tn = nI (T0 + y.2.2.2.2.1) ∧
  (∀ k, k < n → (∀ x, h ≤ x → x < y.2.2.2.2.1 → ¬ y.2.2.2.1 x = nI k) → wt k = 0) ∧ (∀ x k, h ≤ x → x < y.2.2.2.2.1 → k < n → y.2.2.2.1 x = nI k → wt k = nI (T0 + x + 1))
theorem qR_first {K n T0 h : Nat} {S : Nat → Int32} {y : QS} {wt : Nat → Int32} {tn : Int32} {kn tl od : Nat → Int32} {fd cl : Int32} (hn : n ≤ 60) (hT : T0 ≤ 40000) (hI : qInv K n S h y) (hR : qR K n T0 h y wt tn kn tl od fd cl) {r : Int32} (hr : fsP n wt r) : (r = -1 ∧ h = y.2.2.2.2.1) ∨ (h < y.2.2.2.2.1 ∧ ∃ j, j < n ∧ r = nI j ∧ y.2.2.2.1 h = nI j) := by
  obtain ⟨-, -, -, -, -, -, w1, w2⟩ := hR
  have hq := qInv_le hI
  obtain ⟨-, a2, a3, -, -, -⟩ := hI
  rcases hr with ⟨e, h0⟩ | ⟨j, hj, e, hp, hm⟩
  · left
    refine ⟨e, ?_⟩
    rcases Nat.lt_or_ge h y.2.2.2.2.1 with g | g
    · obtain ⟨k, b1, b2, -⟩ := a3 h g
      have h1 := w2 h k (Nat.le_refl h) g b1 b2
      exact absurd (by rw [h1]; exact nI_lt (a := 0) (by omega) (by omega)) (h0 k b1)
    · omega
  · right
    have hx : ∃ x, h ≤ x ∧ x < y.2.2.2.2.1 ∧ y.2.2.2.1 x = nI j := by
      refine Classical.byContradiction (fun hne => ?_)
      have h1 := w1 j hj (fun x q1 q2 q3 => hne ⟨x, q1, q2, q3⟩)
      rw [h1] at hp
      exact absurd hp (by decide)
    obtain ⟨x, x1, x2, x3⟩ := hx
    have hw := w2 x j x1 x2 hj x3
    have g : h < y.2.2.2.2.1 := by omega
    obtain ⟨k, b1, b2, -⟩ := a3 h g
    have hk := w2 h k (Nat.le_refl h) g b1 b2
    have hle := hm k b1 (by rw [hk]; exact nI_lt (a := 0) (by omega) (by omega))
    rw [hw, hk] at hle
    have hxh : x ≤ h := by
      have := (nI_leI (a := T0 + x + 1) (b := T0 + h + 1) (by omega) (by omega)).mp hle
      omega
    have : x = h := by omega
    subst this
    exact ⟨g, j, hj, e, x3⟩
end
section
theorem clr_s {f : Nat → Int32} {i : Nat} (h : ∀ j, j < i → f j = 0) : ∀ j, j < i + 1 → upd f i (vp_nar .boolean 0) j = 0 := by
  intro j hj
  by_cases q : j = i
  · subst q; rw [pk_us, nar0]
  · rw [pk_un q]; exact h j (by omega)
set_option maxHeartbeats 4000000 in
set_option maxRecDepth 100000 in
theorem c_X1_drawn (l : Launch) (dC : Nat → ClassId) (dI : Nat → Nat → Nat) (sz : Nat) (ad : Nat → Nat) (cI cZ : ClassId) (K : Nat) (row : Nat → Int32) (cm : Int32) (sd : Nat → Int32) (vl : Nat → Int32) (wt : Nat → Int32) (tn : Int32) (kn : Nat → Int32) (tl : Nat → Int32) (od : Nat → Int32) (fd : Int32) (cl : Int32) (inn : Nat → Int32) (stt : Int32) : Met l yX1_drawn wsX1_drawn ({ frames := 0, cells := 0, slots := 0, locals := 0 }) (va_Pc [.ref (ad 0)] (wB dC dI [(cI, .int), (cZ, .boolean)] sz (rW ad cI cZ K row cm sd vl wt tn kn tl od fd cl inn stt))) (va_Qi (fun r (_ : Unit) => r = nI (dr (ns stt))) (fun _ => oB dC dI [(cI, .int), (cZ, .boolean)] (va_A (rW ad cI cZ K row cm sd vl wt tn kn tl od fd cl inn stt) sz) (rW ad cI cZ K row cm sd vl wt tn kn tl od fd cl inn (ns stt))) (va_A (rW ad cI cZ K row cm sd vl wt tn kn tl od fd cl inn stt) sz)) 0 0 (va_A (rW ad cI cZ K row cm sd vl wt tn kn tl od fd cl inn stt) sz) := by
  refine Met.ofW (cc := cX1_drawn) (maxL := 1) (ret := (some .int)) (by decide) rfl ?_
  intro p e s m args below meth c s₁ B hml hv
  obtain ⟨rfl, hsz, hP, hK, hD0⟩ := hv
  have hx := B.exec
  have hb := B.bytes
  have hr := B.returns
  have hts := atoms_spec (ws := wsX1_drawn) B.pre
  have hown : s.vm.findClass RX1 = some m.cls := findClass_of_methodNamed B.named
  have hlocks := B.notSynchronized
  have hw0 : ∀ w ∈ wsX10, w ∈ wsX1_drawn := fun _ h => List.mem_cons_of_mem _ (List.mem_append_right _ h)
  subst hsz
  have hD := hD0.self (sz := s.heap.size)
  generalize hAe : va_A (rW ad cI cZ K row cm sd vl wt tn kn tl od fd cl inn stt) s.heap.size = A at hD ⊢
  have hA : ∀ q : Nat, s.heap.size ≤ q → A q := fun q h => by rw [← hAe]; exact Or.inr h
  have hS : va_S A s.heap s.heap [] := va_S.rf
  have hP : va_P (dC, dI) vwCl (rW ad cI cZ K row cm sd vl wt tn kn tl od fd cl inn stt) s.heap := hP
  have hl := lv_entry ([.ref (ad 0)]) (n := 1) (Nat.le_of_ble_eq_true rfl)
  rw [lg_entry_eq]
  generalize (lg_sl ([.ref (ad 0)]) ++ List.replicate (1 - (lg_sl ([.ref (ad 0)])).length) Slot.unset).toArray = ls at hl ⊢
  have hl : lv_has ls 1 [(0, .ref (ad 0))] := hl
  refine lv_aload_n hx hb dX1_drawn_0 rfl (lv_at hl 0 rfl) ?_
  refine lv_aload_n hx hb dX1_drawn_1 rfl (lv_at hl 0 rfl) ?_
  refine va_get (D := (dC, dI)) (ci := 1) (v := .int stt) (C := RX1) (T := TX1) (N := 14) hx hb hts hw0 hown hK hP 0 rfl rfl 13 (by decide) (hts (.fieldLink RX1 39 "DropCodeModel" "state" "I") (by decide +kernel)) (fun _ h9 => h9) rfl dX1_drawn_2 ?_
  refine lv_ldc hx hb hown (hts (.constant RX1 42 (1664525)) (by decide +kernel)) dX1_drawn_5 ?_
  refine lv_imul hx hb dX1_drawn_7 ?_
  refine lv_ldc hx hb hown (hts (.constant RX1 43 (1013904223)) (by decide +kernel)) dX1_drawn_8 ?_
  refine lv_iadd hx hb dX1_drawn_10 ?_
  refine lv_topi (fun z_1 ez_1 => ?_)
  have ez_1 : z_1 = ns stt := ez_1.trans (rfl)
  subst ez_1
  refine va_put (D := (dC, dI)) (ci := 1) (v := .int (ns stt)) (ty := .int) (C := RX1) (T := TX1) (N := 14) hx hb hts hw0 tyX1 tyX1_ok nmX1 hown hK hP hD hS 0 rfl rfl 13 (by decide) (hts (.fieldLink RX1 39 "DropCodeModel" "state" "I") (by decide +kernel)) (fun _ h9 => h9) rfl (by decide +kernel) rfl rfl (Nat.le_of_ble_eq_true rfl) dX1_drawn_11 (fun H locs hP hD hS => ?_)
  have hP : va_P (dC, dI) vwCl (rW ad cI cZ K row cm sd vl wt tn kn tl od fd cl inn (ns stt)) H := hP
  have hD : va_D A (rW ad cI cZ K row cm sd vl wt tn kn tl od fd cl inn (ns stt)) := hD
  refine lv_aload_n hx hb dX1_drawn_14 rfl (lv_at hl 0 rfl) ?_
  refine va_get (D := (dC, dI)) (ci := 1) (v := .int (ns stt)) (C := RX1) (T := TX1) (N := 14) hx hb hts hw0 hown hK hP 0 rfl rfl 13 (by decide) (hts (.fieldLink RX1 39 "DropCodeModel" "state" "I") (by decide +kernel)) (fun _ h9 => h9) rfl dX1_drawn_15 ?_
  refine lv_bipush (v := 16) hx hb dX1_drawn_18 (by decide) ?_
  refine lv_iushr (v := ((ns stt).toUInt32 >>> ((16 : Int32).toUInt32 &&& Int32.toUInt32 31)).toInt32) hx hb dX1_drawn_20 rfl ?_
  refine lv_topi (fun z_2 ez_2 => ?_)
  have ez_2 : z_2 = nI (dr (ns stt)) := ez_2.trans (dr_sh _)
  subst ez_2
  exact W.iret (v := nI (dr (ns stt))) hx hb hr (fun t ht hW => ⟨⟨nI (dr (ns stt)), (), rfl, rfl, by rw [ht]; exact hP, va_K.moved hW.alike hK, hD⟩, hS.F ht⟩) hS.2.2 dX1_drawn_21
set_option maxHeartbeats 4000000 in
set_option maxRecDepth 100000 in
theorem c_X1_draw (l : Launch) (dC : Nat → ClassId) (dI : Nat → Nat → Nat) (sz : Nat) (ad : Nat → Nat) (cI cZ : ClassId) (K : Nat) (row : Nat → Int32) (cm : Int32) (sd : Nat → Int32) (vl : Nat → Int32) (wt : Nat → Int32) (tn : Int32) (kn : Nat → Int32) (tl : Nat → Int32) (od : Nat → Int32) (fd : Int32) (cl : Int32) (inn : Nat → Int32) (stt : Int32) (hK1 : 1 ≤ K) (hK2 : K ≤ 32) (seed : Int32) : Met l yX1_draw wsX1_draw ({ frames := 1, cells := 0, slots := 0, locals := 20 }) (va_Pc [.ref (ad 0), .int seed] (wB dC dI [(cI, .int), (cZ, .boolean)] sz (rW ad cI cZ K row cm sd vl wt tn kn tl od fd cl inn stt))) (va_Qi (fun r (u : (Nat → Int32) × Int32) => r = nI (dg K (dr (ns seed))) ∧ inF K u.1 (setA K seed)) (fun u => oB dC dI [(cI, .int), (cZ, .boolean)] (va_A (rW ad cI cZ K row cm sd vl wt tn kn tl od fd cl inn stt) sz) (rW ad cI cZ K row cm sd vl wt tn kn tl od fd cl u.1 u.2)) (va_A (rW ad cI cZ K row cm sd vl wt tn kn tl od fd cl inn stt) sz)) 0 0 (va_A (rW ad cI cZ K row cm sd vl wt tn kn tl od fd cl inn stt) sz) := by
  refine Met.ofW (cc := cX1_draw) (maxL := 7) (ret := (some .int)) (by decide) rfl ?_
  intro p e s m args below meth c s₁ B hml hv
  obtain ⟨rfl, hsz, hP, hK, hD0⟩ := hv
  have hx := B.exec
  have hb := B.bytes
  have hr := B.returns
  have hts := atoms_spec (ws := wsX1_draw) B.pre
  have hown : s.vm.findClass RX1 = some m.cls := findClass_of_methodNamed B.named
  have hlocks := B.notSynchronized
  have hw0 : ∀ w ∈ wsX10, w ∈ wsX1_draw := fun _ h => List.mem_cons_of_mem _ (List.mem_append_right _ h)
  subst hsz
  have hD := hD0.self (sz := s.heap.size)
  generalize hAe : va_A (rW ad cI cZ K row cm sd vl wt tn kn tl od fd cl inn stt) s.heap.size = A at hD ⊢
  have hA : ∀ q : Nat, s.heap.size ≤ q → A q := fun q h => by rw [← hAe]; exact Or.inr h
  have hS : va_S A s.heap s.heap [] := va_S.rf
  have hP : va_P (dC, dI) vwCl (rW ad cI cZ K row cm sd vl wt tn kn tl od fd cl inn stt) s.heap := hP
  have hl := lv_entry ([.ref (ad 0), .int seed]) (n := 7) (Nat.le_of_ble_eq_true rfl)
  rw [lg_entry_eq]
  generalize (lg_sl ([.ref (ad 0), .int seed]) ++ List.replicate (7 - (lg_sl ([.ref (ad 0), .int seed])).length) Slot.unset).toArray = ls at hl ⊢
  have hl : lv_has ls 7 [(0, .ref (ad 0)), (1, .int seed)] := hl
  obtain ⟨N, hN, hset, hd, hlt⟩ := setA_ok hK1 hK2 seed
  rw [hset]
  rw [hset] at hd
  refine lv_aload_n hx hb dX1_draw_0 rfl (lv_at hl 0 rfl) ?_
  refine lv_iload_n hx hb dX1_draw_1 rfl (lv_at hl 1 rfl) ?_
  refine va_put (D := (dC, dI)) (ci := 1) (v := .int seed) (ty := .int) (C := RX1) (T := TX1) (N := 14) hx hb hts hw0 tyX1 tyX1_ok nmX1 hown hK hP hD hS 0 rfl rfl 13 (by decide) (hts (.fieldLink RX1 39 "DropCodeModel" "state" "I") (by decide +kernel)) (fun _ h9 => h9) rfl (by decide +kernel) rfl rfl (Nat.le_of_ble_eq_true rfl) dX1_draw_2 (fun H locs hP hD hS => ?_)
  have hP : va_P (dC, dI) vwCl (rW ad cI cZ K row cm sd vl wt tn kn tl od fd cl inn seed) H := hP
  have hD : va_D A (rW ad cI cZ K row cm sd vl wt tn kn tl od fd cl inn seed) := hD
  refine lv_aload_n hx hb dX1_draw_5 rfl (lv_at hl 0 rfl) ?_
  have hFc := va_free (wc := (rW ad cI cZ K row cm sd vl wt tn kn tl od fd cl inn seed)) hD hS hA [0, 1, 2, 3, 4, 5, 6, 7, 8] rfl
  refine va_calli (va_runV (As := []) (rest := []) ⟨hx, hb, hml, hown, hts⟩ (c_X1_drawn l dC dI H.size ad cI cZ K row cm sd vl wt tn kn tl od fd cl inn seed) (cwV 0 hts gX1_draw_X1_drawn rfl rfl rfl (by decide +kernel) ⟨Nat.le_of_ble_eq_true rfl, Nat.le_of_ble_eq_true rfl⟩) ⟨wFb, va_recv hK hP (ci := 1) (q0 := 0) rfl rfl, fun U hU hW => ⟨rfl, by rw [hU], by rw [hU]; exact hP, va_K.moved hW.alike hK, hD.weaken (fun _ _ _ _ => trivial)⟩⟩ rfl rfl hl.1 rfl (lv_room (Nat.le_of_ble_eq_true rfl)) dX1_draw_6 ⟨Nat.le_of_ble_eq_true rfl, Nat.le_of_ble_eq_true rfl⟩) hS (fun q _ h => hFc q h) hFc (fun r_1 u t H1 locs ht hvm hw hB hz1 hk1 hS => ?_)
  obtain ⟨hP1, hK1, hD1⟩ := hB
  rw [ht] at hP1
  obtain ⟨hP, hD⟩ := va_join (wr := []) (w1 := (rW ad cI cZ K row cm sd vl wt tn kn tl od fd cl inn (ns seed))) hP hD [0, 1, 2, 3, 4, 5, 6, 7, 8] [] rfl rfl (by decide) (by decide) hk1 hFc hP1 hD1
  clear hP1 hD1 hK1 hFc hk1 hz1
  generalize H1 = H at hP hS ⊢
  have hP : va_P (dC, dI) vwCl (rW ad cI cZ K row cm sd vl wt tn kn tl od fd cl inn (ns seed)) H := hP
  have hD : va_D A (rW ad cI cZ K row cm sd vl wt tn kn tl od fd cl inn (ns seed)) := hD
  subst hw
  refine lv_istore_n (lv' := [(2, .int (nI (dr (ns seed)))), (0, .ref (ad 0)), (1, .int seed)]) hx hb dX1_draw_9 rfl hl (by decide) rfl (fun ls hl => ?_)
  refine lv_ldc hx hb hown (hts (.constant RX1 48 (65536)) (by decide +kernel)) dX1_draw_10 ?_
  refine lv_aload_n hx hb dX1_draw_12 rfl (lv_at hl 1 rfl) ?_
  refine va_get (D := (dC, dI)) (ci := 1) (v := .int (nI K)) (C := RX1) (T := TX1) (N := 14) hx hb hts hw0 hown hK hP 0 rfl rfl 0 (by decide) (hts (.fieldLink RX1 35 "DropCodeModel" "words" "I") (by decide +kernel)) (fun _ h9 => h9) rfl dX1_draw_13 ?_
  refine lv_idiv hx hb dX1_draw_16 (nI_ne0 hK1 (by omega)) ?_
  refine lv_topi (fun z_2 ez_2 => ?_)
  have ez_2 : z_2 = nI (65536 / K) := ez_2.trans (pk_div (a := 65536) (by omega) hK1 (by omega))
  subst ez_2
  refine lv_istore_n (lv' := [(3, .int (nI (65536 / K))), (2, .int (nI (dr (ns seed)))), (0, .ref (ad 0)), (1, .int seed)]) hx hb dX1_draw_17 rfl hl (by decide) rfl (fun ls hl => ?_)
  refine lv_iconst (v := 1) hx hb dX1_draw_18 (by decide) ?_
  refine lv_istore (lv' := [(4, .int 1), (3, .int (nI (65536 / K))), (2, .int (nI (dr (ns seed)))), (0, .ref (ad 0)), (1, .int seed)]) hx hb dX1_draw_19 hl (by decide) rfl (fun ls hl => ?_)
  have kC : ∀ (m9 n : Nat) (f : Nat → Int32) (H : Heap) (locs : List Loc) (ls : Array Slot), N = n + m9 → inF K f (fl K (ns seed) n) → va_P (dC, dI) vwCl (rW ad cI cZ K row cm sd vl wt tn kn tl od fd cl f (st (ns seed) n)) H → va_D A (rW ad cI cZ K row cm sd vl wt tn kn tl od fd cl f (st (ns seed) n)) → va_S A s.heap H locs → lv_has ls 7 [(5, .int (nI (pc (fl K (ns seed) n)))), (4, .int (nI (dg K (dr (ns seed))))), (0, .ref (ad 0))] → W p l e (headSpec wsX1_draw ({ frames := 1, cells := 0, slots := 0, locals := 20 })).room s m ([.ref (ad 0), .int seed] : List Value).toArray below meth c H locs 0 0 (MQ below (va_Qi (fun r (u : (Nat → Int32) × Int32) => r = nI (dg K (dr (ns seed))) ∧ inF K u.1 (fl K (ns seed) N)) (fun u => oB dC dI [(cI, .int), (cZ, .boolean)] A (rW ad cI cZ K row cm sd vl wt tn kn tl od fd cl u.1 u.2)) A) ([.ref (ad 0), .int seed] : List Value).toArray s 0 0 A) (F0 m 83 ls []) := by
    intro m9
    induction m9 with
    | zero =>
      intro n f H locs ls hi hf hP hD hS hl
      have hnN : N = n := by omega
      refine lv_iload hx hb dX1_draw_83 (lv_at hl 0 rfl) ?_
      refine lv_iload hx hb dX1_draw_85 (lv_at hl 1 rfl) ?_
      refine lv_icmp_ge (tgt := 132) hx hb dX1_draw_87 (by decide) (fun c1 => ?_) (fun c1 => ?_)
      · skip
        rw [hnN]
        refine lv_iload hx hb dX1_draw_132 (lv_at hl 1 rfl) ?_
        exact W.iret (v := nI (dg K (dr (ns seed)))) hx hb hr (fun t ht hW => ⟨⟨nI (dg K (dr (ns seed))), (f, st (ns seed) n), rfl, ⟨rfl, hf⟩, by rw [ht]; exact hP, va_K.moved hW.alike hK, hD⟩, hS.F ht⟩) hS.2.2 dX1_draw_134
      · skip
        exact absurd (nI_le (by rw [← hnN]; exact hd) (by have := pc_le (fl K (ns seed) n); omega)) c1
    | succ m9 ih =>
      intro n f H locs ls hi hf hP hD hS hl
      refine lv_iload hx hb dX1_draw_83 (lv_at hl 0 rfl) ?_
      refine lv_iload hx hb dX1_draw_85 (lv_at hl 1 rfl) ?_
      refine lv_icmp_ge (tgt := 132) hx hb dX1_draw_87 (by decide) (fun c1 => ?_) (fun c1 => ?_)
      · skip
        exact absurd c1 (nI_ge (hlt n (by omega)) (by have := (dg_le (dr (ns seed)) hK1).2; omega))
      · skip
        obtain ⟨T, hT⟩ : ∃ T, T = dr (st (ns seed) (n + 1)) % K := ⟨_, rfl⟩
        have hTK : T < K := by rw [hT]; exact Nat.mod_lt _ hK1
        have hfl : fl K (ns seed) (n + 1) = fl K (ns seed) n ||| tw T := by rw [hT]; rfl
        refine lv_aload_n hx hb dX1_draw_90 rfl (lv_at hl 2 rfl) ?_
        have hFc := va_free (wc := (rW ad cI cZ K row cm sd vl wt tn kn tl od fd cl f (st (ns seed) n))) hD hS hA [0, 1, 2, 3, 4, 5, 6, 7, 8] rfl
        refine va_calli (va_runV (As := []) (rest := []) ⟨hx, hb, hml, hown, hts⟩ (c_X1_drawn l dC dI H.size ad cI cZ K row cm sd vl wt tn kn tl od fd cl f (st (ns seed) n)) (cwV 0 hts gX1_draw_X1_drawn rfl rfl rfl (by decide +kernel) ⟨Nat.le_of_ble_eq_true rfl, Nat.le_of_ble_eq_true rfl⟩) ⟨wFb, va_recv hK hP (ci := 1) (q0 := 0) rfl rfl, fun U hU hW => ⟨rfl, by rw [hU], by rw [hU]; exact hP, va_K.moved hW.alike hK, hD.weaken (fun _ _ _ _ => trivial)⟩⟩ rfl rfl hl.1 rfl (lv_room (Nat.le_of_ble_eq_true rfl)) dX1_draw_91 ⟨Nat.le_of_ble_eq_true rfl, Nat.le_of_ble_eq_true rfl⟩) hS (fun q _ h => hFc q h) hFc (fun r_3 u t H1 locs ht hvm hw hB hz1 hk1 hS => ?_)
        obtain ⟨hP1, hK1, hD1⟩ := hB
        rw [ht] at hP1
        obtain ⟨hP, hD⟩ := va_join (wr := []) (w1 := (rW ad cI cZ K row cm sd vl wt tn kn tl od fd cl f (ns (st (ns seed) n)))) hP hD [0, 1, 2, 3, 4, 5, 6, 7, 8] [] rfl rfl (by decide) (by decide) hk1 hFc hP1 hD1
        clear hP1 hD1 hK1 hFc hk1 hz1
        generalize H1 = H at hP hS ⊢
        have hP : va_P (dC, dI) vwCl (rW ad cI cZ K row cm sd vl wt tn kn tl od fd cl f (ns (st (ns seed) n))) H := hP
        have hD : va_D A (rW ad cI cZ K row cm sd vl wt tn kn tl od fd cl f (ns (st (ns seed) n))) := hD
        subst hw
        refine lv_aload_n hx hb dX1_draw_94 rfl (lv_at hl 2 rfl) ?_
        refine va_get (D := (dC, dI)) (ci := 1) (v := .int (nI K)) (C := RX1) (T := TX1) (N := 14) hx hb hts hw0 hown hK hP 0 rfl rfl 0 (by decide) (hts (.fieldLink RX1 35 "DropCodeModel" "words" "I") (by decide +kernel)) (fun _ h9 => h9) rfl dX1_draw_95 ?_
        refine lv_irem hx hb dX1_draw_98 (nI_ne0 hK1 (by omega)) ?_
        refine lv_topi (fun z_4 ez_4 => ?_)
        have ez_4 : z_4 = nI T := ez_4.trans (by rw [hT]; exact pk_rem (by have := dr_lt (ns (st (ns seed) n)); omega) hK1 (by omega))
        subst ez_4
        refine lv_istore (lv' := [(6, .int (nI T)), (5, .int (nI (pc (fl K (ns seed) n)))), (4, .int (nI (dg K (dr (ns seed))))), (0, .ref (ad 0))]) hx hb dX1_draw_99 hl (by decide) rfl (fun ls hl => ?_)
        refine lv_iload hx hb dX1_draw_101 (lv_at hl 1 rfl) ?_
        refine lv_aload_n hx hb dX1_draw_103 rfl (lv_at hl 3 rfl) ?_
        refine va_get (D := (dC, dI)) (ci := 1) (v := .ref (ad 8)) (C := RX1) (T := TX1) (N := 14) hx hb hts hw0 hown hK hP 0 rfl rfl 12 (by decide) (hts (.fieldLink RX1 32 "DropCodeModel" "in" "[Z") (by decide +kernel)) (fun _ h9 => h9) rfl dX1_draw_104 ?_
        refine lv_iload hx hb dX1_draw_107 (lv_at hl 0 rfl) ?_
        refine va_zald (i := nI T) hx hb hK hP 8 1 rfl rfl (vp_in_nI (by omega : T < 32) (by omega)) dX1_draw_109 ?_
        rw [nI_clamp (by omega)]
        refine lv_topi (fun z_5 ez_5 => ?_)
        have ez_5 : z_5 = bI (bt (fl K (ns seed) n) T) := ez_5.trans (hf T hTK)
        subst ez_5
        cases hbt : bt (fl K (ns seed) n) T with
        | false =>
          rw [bI_f]
          refine lv_if_eq (tgt := 117) hx hb dX1_draw_110 (by decide) (fun c3 => ?_) (fun c3 => ?_)
          · skip
            refine lv_iconst (v := 1) hx hb dX1_draw_117 (by decide) ?_
            refine lv_iadd hx hb dX1_draw_118 ?_
            refine lv_topi (fun z_6 ez_6 => ?_)
            have ez_6 : z_6 = nI (pc (fl K (ns seed) (n + 1))) := ez_6.trans (by rw [hfl, pc_or_tw (by omega), hbt]; exact nI_1 _)
            subst ez_6
            refine lv_istore (lv' := [(5, .int (nI (pc (fl K (ns seed) (n + 1))))), (6, .int (nI T)), (4, .int (nI (dg K (dr (ns seed))))), (0, .ref (ad 0))]) hx hb dX1_draw_119 hl (by decide) rfl (fun ls hl => ?_)
            refine lv_aload_n hx hb dX1_draw_121 rfl (lv_at hl 3 rfl) ?_
            refine va_get (D := (dC, dI)) (ci := 1) (v := .ref (ad 8)) (C := RX1) (T := TX1) (N := 14) hx hb hts hw0 hown hK hP 0 rfl rfl 12 (by decide) (hts (.fieldLink RX1 32 "DropCodeModel" "in" "[Z") (by decide +kernel)) (fun _ h9 => h9) rfl dX1_draw_122 ?_
            refine lv_iload hx hb dX1_draw_125 (lv_at hl 1 rfl) ?_
            refine lv_iconst (v := 1) hx hb dX1_draw_127 (by decide) ?_
            refine va_zast (i := nI T) hx hb hK hP hD hS 8 1 rfl rfl (vp_in_nI (by omega : T < 32) (by omega)) dX1_draw_128 (fun H locs hP hD hS => ?_)
            rw [nI_clamp (by omega)] at hP hD
            have hP : va_P (dC, dI) vwCl (rW ad cI cZ K row cm sd vl wt tn kn tl od fd cl (upd f T (vp_nar .boolean 1)) (ns (st (ns seed) n))) H := hP
            have hD : va_D A (rW ad cI cZ K row cm sd vl wt tn kn tl od fd cl (upd f T (vp_nar .boolean 1)) (ns (st (ns seed) n))) := hD
            refine lv_goto (tgt := 83) hx hb dX1_draw_129 (by decide) ?_
            exact ih (n + 1) _ _ _ ls (by omega) (by rw [hfl]; exact inF_up hK2 hTK hf) hP hD hS (lv_sub hl [0, 2, 3] rfl)
          · skip
            exact absurd rfl c3
        | true =>
          rw [bI_t]
          refine lv_if_eq (tgt := 117) hx hb dX1_draw_110 (by decide) (fun c3 => ?_) (fun c3 => ?_)
          · skip
            exact absurd c3 (by decide)
          · skip
            refine lv_iconst (v := 0) hx hb dX1_draw_113 (by decide) ?_
            refine lv_goto (tgt := 118) hx hb dX1_draw_114 (by decide) ?_
            refine lv_iadd hx hb dX1_draw_118 ?_
            refine lv_topi (fun z_6 ez_6 => ?_)
            have ez_6 : z_6 = nI (pc (fl K (ns seed) (n + 1))) := ez_6.trans (by rw [hfl, pc_or_tw (by omega), hbt]; exact Int32.add_zero _)
            subst ez_6
            refine lv_istore (lv' := [(5, .int (nI (pc (fl K (ns seed) (n + 1))))), (6, .int (nI T)), (4, .int (nI (dg K (dr (ns seed))))), (0, .ref (ad 0))]) hx hb dX1_draw_119 hl (by decide) rfl (fun ls hl => ?_)
            refine lv_aload_n hx hb dX1_draw_121 rfl (lv_at hl 3 rfl) ?_
            refine va_get (D := (dC, dI)) (ci := 1) (v := .ref (ad 8)) (C := RX1) (T := TX1) (N := 14) hx hb hts hw0 hown hK hP 0 rfl rfl 12 (by decide) (hts (.fieldLink RX1 32 "DropCodeModel" "in" "[Z") (by decide +kernel)) (fun _ h9 => h9) rfl dX1_draw_122 ?_
            refine lv_iload hx hb dX1_draw_125 (lv_at hl 1 rfl) ?_
            refine lv_iconst (v := 1) hx hb dX1_draw_127 (by decide) ?_
            refine va_zast (i := nI T) hx hb hK hP hD hS 8 1 rfl rfl (vp_in_nI (by omega : T < 32) (by omega)) dX1_draw_128 (fun H locs hP hD hS => ?_)
            rw [nI_clamp (by omega)] at hP hD
            have hP : va_P (dC, dI) vwCl (rW ad cI cZ K row cm sd vl wt tn kn tl od fd cl (upd f T (vp_nar .boolean 1)) (ns (st (ns seed) n))) H := hP
            have hD : va_D A (rW ad cI cZ K row cm sd vl wt tn kn tl od fd cl (upd f T (vp_nar .boolean 1)) (ns (st (ns seed) n))) := hD
            refine lv_goto (tgt := 83) hx hb dX1_draw_129 (by decide) ?_
            exact ih (n + 1) _ _ _ ls (by omega) (by rw [hfl]; exact inF_up hK2 hTK hf) hP hD hS (lv_sub hl [0, 2, 3] rfl)
  have kB : ∀ (m9 i : Nat) (f : Nat → Int32) (H : Heap) (locs : List Loc) (ls : Array Slot), K = i + m9 → (∀ j, j < i → f j = 0) → va_P (dC, dI) vwCl (rW ad cI cZ K row cm sd vl wt tn kn tl od fd cl f (ns seed)) H → va_D A (rW ad cI cZ K row cm sd vl wt tn kn tl od fd cl f (ns seed)) → va_S A s.heap H locs → lv_has ls 7 [(5, .int (nI i)), (4, .int (nI (dg K (dr (ns seed))))), (0, .ref (ad 0))] → W p l e (headSpec wsX1_draw ({ frames := 1, cells := 0, slots := 0, locals := 20 })).room s m ([.ref (ad 0), .int seed] : List Value).toArray below meth c H locs 0 0 (MQ below (va_Qi (fun r (u : (Nat → Int32) × Int32) => r = nI (dg K (dr (ns seed))) ∧ inF K u.1 (fl K (ns seed) N)) (fun u => oB dC dI [(cI, .int), (cZ, .boolean)] A (rW ad cI cZ K row cm sd vl wt tn kn tl od fd cl u.1 u.2)) A) ([.ref (ad 0), .int seed] : List Value).toArray s 0 0 A) (F0 m 57 ls []) := by
    intro m9
    induction m9 with
    | zero =>
      intro i f H locs ls hi hf hP hD hS hl
      refine lv_iload hx hb dX1_draw_57 (lv_at hl 0 rfl) ?_
      refine lv_aload_n hx hb dX1_draw_59 rfl (lv_at hl 2 rfl) ?_
      refine va_get (D := (dC, dI)) (ci := 1) (v := .int (nI K)) (C := RX1) (T := TX1) (N := 14) hx hb hts hw0 hown hK hP 0 rfl rfl 0 (by decide) (hts (.fieldLink RX1 35 "DropCodeModel" "words" "I") (by decide +kernel)) (fun _ h9 => h9) rfl dX1_draw_60 ?_
      refine lv_icmp_ge (tgt := 80) hx hb dX1_draw_63 (by decide) (fun c1 => ?_) (fun c1 => ?_)
      · skip
        refine lv_iconst (v := 0) hx hb dX1_draw_80 (by decide) ?_
        refine lv_topi (fun z_3 ez_3 => ?_)
        have ez_3 : z_3 = nI (pc (fl K (ns seed) 0)) := ez_3.trans (by rw [show fl K (ns seed) 0 = 0 from rfl, pc_0]; rfl)
        subst ez_3
        refine lv_istore (lv' := [(5, .int (nI (pc (fl K (ns seed) 0)))), (4, .int (nI (dg K (dr (ns seed))))), (0, .ref (ad 0))]) hx hb dX1_draw_81 hl (by decide) rfl (fun ls hl => ?_)
        exact kC N 0 f _ _ ls (by omega) (inF_0 (fun j hj => hf j (by omega))) hP hD hS (lv_sub hl [0, 1, 2] rfl)
      · skip
        exact absurd (nI_le (by omega) (by omega)) c1
    | succ m9 ih =>
      intro i f H locs ls hi hf hP hD hS hl
      have hiK : i < K := by omega
      refine lv_iload hx hb dX1_draw_57 (lv_at hl 0 rfl) ?_
      refine lv_aload_n hx hb dX1_draw_59 rfl (lv_at hl 2 rfl) ?_
      refine va_get (D := (dC, dI)) (ci := 1) (v := .int (nI K)) (C := RX1) (T := TX1) (N := 14) hx hb hts hw0 hown hK hP 0 rfl rfl 0 (by decide) (hts (.fieldLink RX1 35 "DropCodeModel" "words" "I") (by decide +kernel)) (fun _ h9 => h9) rfl dX1_draw_60 ?_
      refine lv_icmp_ge (tgt := 80) hx hb dX1_draw_63 (by decide) (fun c1 => ?_) (fun c1 => ?_)
      · skip
        exact absurd c1 (nI_ge hiK (by omega))
      · skip
        refine lv_aload_n hx hb dX1_draw_66 rfl (lv_at hl 2 rfl) ?_
        refine va_get (D := (dC, dI)) (ci := 1) (v := .ref (ad 8)) (C := RX1) (T := TX1) (N := 14) hx hb hts hw0 hown hK hP 0 rfl rfl 12 (by decide) (hts (.fieldLink RX1 32 "DropCodeModel" "in" "[Z") (by decide +kernel)) (fun _ h9 => h9) rfl dX1_draw_67 ?_
        refine lv_iload hx hb dX1_draw_70 (lv_at hl 0 rfl) ?_
        refine lv_iconst (v := 0) hx hb dX1_draw_72 (by decide) ?_
        refine va_zast (i := nI i) hx hb hK hP hD hS 8 1 rfl rfl (vp_in_nI (by omega : i < 32) (by omega)) dX1_draw_73 (fun H locs hP hD hS => ?_)
        rw [nI_clamp (by omega)] at hP hD
        have hP : va_P (dC, dI) vwCl (rW ad cI cZ K row cm sd vl wt tn kn tl od fd cl (upd f i (vp_nar .boolean 0)) (ns seed)) H := hP
        have hD : va_D A (rW ad cI cZ K row cm sd vl wt tn kn tl od fd cl (upd f i (vp_nar .boolean 0)) (ns seed)) := hD
        refine lv_iinc (v := nI (i + 1)) (lv' := [(5, .int (nI (i + 1))), (4, .int (nI (dg K (dr (ns seed))))), (0, .ref (ad 0))]) hx hb dX1_draw_74 hl (k := 0) rfl (nI_1 i) (by decide) rfl (fun ls hl => ?_)
        refine lv_goto (tgt := 57) hx hb dX1_draw_77 (by decide) ?_
        exact ih (i + 1) _ _ _ ls (by omega) (clr_s hf) hP hD hS (lv_sub hl [0, 1, 2] rfl)
  have hq := dr_lt (ns seed)
  have kA : ∀ (n d sum : Nat) (ls : Array Slot), 1 ≤ d → d ≤ K → K ≤ d + n → sum ≤ 65536 * d → dgF K (dr (ns seed)) n d sum = dg K (dr (ns seed)) → lv_has ls 7 [(4, .int (nI d)), (3, .int (nI sum)), (2, .int (nI (dr (ns seed)))), (0, .ref (ad 0))] → W p l e (headSpec wsX1_draw ({ frames := 1, cells := 0, slots := 0, locals := 20 })).room s m ([.ref (ad 0), .int seed] : List Value).toArray below meth c H locs 0 0 (MQ below (va_Qi (fun r (u : (Nat → Int32) × Int32) => r = nI (dg K (dr (ns seed))) ∧ inF K u.1 (fl K (ns seed) N)) (fun u => oB dC dI [(cI, .int), (cZ, .boolean)] A (rW ad cI cZ K row cm sd vl wt tn kn tl od fd cl u.1 u.2)) A) ([.ref (ad 0), .int seed] : List Value).toArray s 0 0 A) (F0 m 21 ls []) := by
    intro n
    induction n with
    | zero =>
      intro d sum ls hd1 hd2 hn hsum hv hl
      refine lv_iload hx hb dX1_draw_21 (lv_at hl 0 rfl) ?_
      refine lv_aload_n hx hb dX1_draw_23 rfl (lv_at hl 3 rfl) ?_
      refine va_get (D := (dC, dI)) (ci := 1) (v := .int (nI K)) (C := RX1) (T := TX1) (N := 14) hx hb hts hw0 hown hK hP 0 rfl rfl 0 (by decide) (hts (.fieldLink RX1 35 "DropCodeModel" "words" "I") (by decide +kernel)) (fun _ h9 => h9) rfl dX1_draw_24 ?_
      refine lv_icmp_ge (tgt := 54) hx hb dX1_draw_27 (by decide) (fun c1 => ?_) (fun c1 => ?_)
      · skip
        have hdd : d = dg K (dr (ns seed)) := hv
        rw [hdd] at hl
        refine lv_iconst (v := 0) hx hb dX1_draw_54 (by decide) ?_
        refine lv_istore (lv' := [(5, .int 0), (4, .int (nI (dg K (dr (ns seed))))), (3, .int (nI sum)), (2, .int (nI (dr (ns seed)))), (0, .ref (ad 0))]) hx hb dX1_draw_55 hl (by decide) rfl (fun ls hl => ?_)
        exact kB K 0 inn _ _ ls (by omega) (fun j hj => absurd hj (by omega)) hP hD hS (lv_sub hl [0, 1, 4] rfl)
      · skip
        exact absurd (nI_le (by omega) (by omega)) c1
    | succ n ih =>
      intro d sum ls hd1 hd2 hn hsum hv hl
      refine lv_iload hx hb dX1_draw_21 (lv_at hl 0 rfl) ?_
      refine lv_aload_n hx hb dX1_draw_23 rfl (lv_at hl 3 rfl) ?_
      refine va_get (D := (dC, dI)) (ci := 1) (v := .int (nI K)) (C := RX1) (T := TX1) (N := 14) hx hb hts hw0 hown hK hP 0 rfl rfl 0 (by decide) (hts (.fieldLink RX1 35 "DropCodeModel" "words" "I") (by decide +kernel)) (fun _ h9 => h9) rfl dX1_draw_24 ?_
      refine lv_icmp_ge (tgt := 54) hx hb dX1_draw_27 (by decide) (fun c1 => ?_) (fun c1 => ?_)
      · skip
        have hdK : ¬ d < K := fun a => absurd c1 (nI_ge a (by omega))
        have hdd : d = dg K (dr (ns seed)) := by rw [← hv, dgF_out (fun h => hdK h.1)]
        rw [hdd] at hl
        refine lv_iconst (v := 0) hx hb dX1_draw_54 (by decide) ?_
        refine lv_istore (lv' := [(5, .int 0), (4, .int (nI (dg K (dr (ns seed))))), (3, .int (nI sum)), (2, .int (nI (dr (ns seed)))), (0, .ref (ad 0))]) hx hb dX1_draw_55 hl (by decide) rfl (fun ls hl => ?_)
        exact kB K 0 inn _ _ ls (by omega) (fun j hj => absurd hj (by omega)) hP hD hS (lv_sub hl [0, 1, 4] rfl)
      · skip
        have hdK : d < K := by rcases Nat.lt_or_ge d K with a | a; exact a; exact absurd (nI_le a (by omega)) c1
        refine lv_iload_n hx hb dX1_draw_30 rfl (lv_at hl 2 rfl) ?_
        refine lv_iload_n hx hb dX1_draw_31 rfl (lv_at hl 1 rfl) ?_
        refine lv_icmp_lt (tgt := 54) hx hb dX1_draw_32 (by decide) (fun c2 => ?_) (fun c2 => ?_)
        · skip
          have hsq : ¬ sum ≤ dr (ns seed) := fun a => absurd c2 (nI_nlt a (by omega))
          have hdd : d = dg K (dr (ns seed)) := by rw [← hv, dgF_out (fun h => hsq h.2)]
          rw [hdd] at hl
          refine lv_iconst (v := 0) hx hb dX1_draw_54 (by decide) ?_
          refine lv_istore (lv' := [(5, .int 0), (4, .int (nI (dg K (dr (ns seed))))), (3, .int (nI sum)), (2, .int (nI (dr (ns seed)))), (0, .ref (ad 0))]) hx hb dX1_draw_55 hl (by decide) rfl (fun ls hl => ?_)
          exact kB K 0 inn _ _ ls (by omega) (fun j hj => absurd hj (by omega)) hP hD hS (lv_sub hl [0, 1, 4] rfl)
        · skip
          have hsq : sum ≤ dr (ns seed) := by rcases Nat.lt_or_ge (dr (ns seed)) sum with a | a; exact absurd (nI_lt a (by omega)) c2; exact a
          refine lv_iinc (v := nI (d + 1)) (lv' := [(4, .int (nI (d + 1))), (3, .int (nI sum)), (2, .int (nI (dr (ns seed)))), (0, .ref (ad 0))]) hx hb dX1_draw_35 hl (k := 0) rfl (nI_1 d) (by decide) rfl (fun ls hl => ?_)
          refine lv_iload_n hx hb dX1_draw_38 rfl (lv_at hl 1 rfl) ?_
          refine lv_ldc hx hb hown (hts (.constant RX1 48 (65536)) (by decide +kernel)) dX1_draw_39 ?_
          refine lv_iload hx hb dX1_draw_41 (lv_at hl 0 rfl) ?_
          refine lv_iload hx hb dX1_draw_43 (lv_at hl 0 rfl) ?_
          refine lv_iconst (v := 1) hx hb dX1_draw_45 (by decide) ?_
          refine lv_isub hx hb dX1_draw_46 ?_
          refine lv_topi (fun z_3 ez_3 => ?_)
          have ez_3 : z_3 = nI d := ez_3.trans (nI_pred d)
          subst ez_3
          refine lv_imul hx hb dX1_draw_47 ?_
          refine lv_topi (fun z_4 ez_4 => ?_)
          have ez_4 : z_4 = nI ((d + 1) * d) := ez_4.trans (pk_mul _ _)
          subst ez_4
          refine lv_idiv hx hb dX1_draw_48 (dg_ne d hd1 (by omega)) ?_
          refine lv_topi (fun z_5 ez_5 => ?_)
          have ez_5 : z_5 = nI (65536 / ((d + 1) * d)) := ez_5.trans (pk_div (a := 65536) (by omega) (dg_pos d hd1) (dg_sm d (by omega)))
          subst ez_5
          refine lv_iadd hx hb dX1_draw_49 ?_
          refine lv_topi (fun z_6 ez_6 => ?_)
          have ez_6 : z_6 = nI (sum + 65536 / ((d + 1) * d)) := ez_6.trans (nI_add _ _)
          subst ez_6
          refine lv_istore_n (lv' := [(3, .int (nI (sum + 65536 / ((d + 1) * d)))), (4, .int (nI (d + 1))), (2, .int (nI (dr (ns seed)))), (0, .ref (ad 0))]) hx hb dX1_draw_50 rfl hl (by decide) rfl (fun ls hl => ?_)
          refine lv_goto (tgt := 21) hx hb dX1_draw_51 (by decide) ?_
          exact ih (d + 1) (sum + 65536 / ((d + 1) * d)) ls (by omega) hdK (by omega) (dg_sum d sum hd1 hsum) (by rw [← hv, dgF_in hdK hsq]) (lv_sub hl [1, 0, 2, 3] rfl)
  exact kA K 1 (65536 / K) ls (Nat.le_refl 1) hK1 (by omega) (dg_s0 K) rfl (lv_sub hl [0, 1, 2, 3] rfl)
set_option maxHeartbeats 4000000 in
set_option maxRecDepth 100000 in
theorem c_X1_degree (l : Launch) (dC : Nat → ClassId) (dI : Nat → Nat → Nat) (sz : Nat) (ad : Nat → Nat) (cI cZ : ClassId) (K : Nat) (row : Nat → Int32) (cm : Int32) (sd : Nat → Int32) (vl : Nat → Int32) (wt : Nat → Int32) (tn : Int32) (kn : Nat → Int32) (tl : Nat → Int32) (od : Nat → Int32) (fd : Int32) (cl : Int32) (inn : Nat → Int32) (stt : Int32) (hK1 : 1 ≤ K) (hK2 : K ≤ 32) (seed : Int32) : Met l yX1_degree wsX1_degree ({ frames := 2, cells := 0, slots := 0, locals := 46 }) (va_Pc [.ref (ad 0), .int seed] (wB dC dI [(cI, .int), (cZ, .boolean)] sz (rW ad cI cZ K row cm sd vl wt tn kn tl od fd cl inn stt))) (va_Qi (fun r (u : (Nat → Int32) × Int32) => r = nI (dg K (dr (ns seed)))) (fun u => oB dC dI [(cI, .int), (cZ, .boolean)] (va_A (rW ad cI cZ K row cm sd vl wt tn kn tl od fd cl inn stt) sz) (rW ad cI cZ K row cm sd vl wt tn kn tl od fd cl u.1 u.2)) (va_A (rW ad cI cZ K row cm sd vl wt tn kn tl od fd cl inn stt) sz)) 0 0 (va_A (rW ad cI cZ K row cm sd vl wt tn kn tl od fd cl inn stt) sz) := by
  refine Met.ofW (cc := cX1_degree) (maxL := 2) (ret := (some .int)) (by decide) rfl ?_
  intro p e s m args below meth c s₁ B hml hv
  obtain ⟨rfl, hsz, hP, hK, hD0⟩ := hv
  have hx := B.exec
  have hb := B.bytes
  have hr := B.returns
  have hts := atoms_spec (ws := wsX1_degree) B.pre
  have hown : s.vm.findClass RX1 = some m.cls := findClass_of_methodNamed B.named
  have hlocks := B.notSynchronized
  have hw0 : ∀ w ∈ wsX10, w ∈ wsX1_degree := fun _ h => List.mem_cons_of_mem _ (List.mem_append_right _ h)
  subst hsz
  have hD := hD0.self (sz := s.heap.size)
  generalize hAe : va_A (rW ad cI cZ K row cm sd vl wt tn kn tl od fd cl inn stt) s.heap.size = A at hD ⊢
  have hA : ∀ q : Nat, s.heap.size ≤ q → A q := fun q h => by rw [← hAe]; exact Or.inr h
  have hS : va_S A s.heap s.heap [] := va_S.rf
  have hP : va_P (dC, dI) vwCl (rW ad cI cZ K row cm sd vl wt tn kn tl od fd cl inn stt) s.heap := hP
  have hl := lv_entry ([.ref (ad 0), .int seed]) (n := 2) (Nat.le_of_ble_eq_true rfl)
  rw [lg_entry_eq]
  generalize (lg_sl ([.ref (ad 0), .int seed]) ++ List.replicate (2 - (lg_sl ([.ref (ad 0), .int seed])).length) Slot.unset).toArray = ls at hl ⊢
  have hl : lv_has ls 2 [(0, .ref (ad 0)), (1, .int seed)] := hl
  refine lv_aload_n hx hb dX1_degree_0 rfl (lv_at hl 0 rfl) ?_
  refine lv_iload_n hx hb dX1_degree_1 rfl (lv_at hl 1 rfl) ?_
  have hFc := va_free (wc := (rW ad cI cZ K row cm sd vl wt tn kn tl od fd cl inn stt)) hD hS hA [0, 1, 2, 3, 4, 5, 6, 7, 8] rfl
  refine va_calli (va_runV (As := [.int seed]) (rest := []) ⟨hx, hb, hml, hown, hts⟩ (c_X1_draw l dC dI s.heap.size ad cI cZ K row cm sd vl wt tn kn tl od fd cl inn stt hK1 hK2 seed) (cwV 1 hts gX1_degree_X1_draw rfl rfl rfl (by decide +kernel) ⟨Nat.le_of_ble_eq_true rfl, Nat.le_of_ble_eq_true rfl⟩) ⟨wFb, va_recv hK hP (ci := 1) (q0 := 0) rfl rfl, fun U hU hW => ⟨rfl, by rw [hU], by rw [hU]; exact hP, va_K.moved hW.alike hK, hD.weaken (fun _ _ _ _ => trivial)⟩⟩ rfl rfl hl.1 rfl (lv_room (Nat.le_of_ble_eq_true rfl)) dX1_degree_2 ⟨Nat.le_of_ble_eq_true rfl, Nat.le_of_ble_eq_true rfl⟩) hS (fun q _ h => hFc q h) hFc (fun r_1 u_2 t H1 locs ht hvm hwu_2 hB hz1 hk1 hS => ?_)
  obtain ⟨hP1, hK1, hD1⟩ := hB
  rw [ht] at hP1
  obtain ⟨hP, hD⟩ := va_join (wr := []) (w1 := (rW ad cI cZ K row cm sd vl wt tn kn tl od fd cl u_2.1 u_2.2)) hP hD [0, 1, 2, 3, 4, 5, 6, 7, 8] [] rfl rfl (by decide) (by decide) hk1 hFc hP1 hD1
  clear hP1 hD1 hK1 hFc hk1 hz1
  generalize H1 = H at hP hS ⊢
  have hP : va_P (dC, dI) vwCl (rW ad cI cZ K row cm sd vl wt tn kn tl od fd cl u_2.1 u_2.2) H := hP
  have hD : va_D A (rW ad cI cZ K row cm sd vl wt tn kn tl od fd cl u_2.1 u_2.2) := hD
  obtain ⟨rfl, hinu_2⟩ := hwu_2
  exact W.iret (v := nI (dg K (dr (ns seed)))) hx hb hr (fun t ht hW => ⟨⟨nI (dg K (dr (ns seed))), u_2, rfl, rfl, by rw [ht]; exact hP, va_K.moved hW.alike hK, hD⟩, hS.F ht⟩) hS.2.2 dX1_degree_5
set_option maxHeartbeats 4000000 in
set_option maxRecDepth 100000 in
theorem c_X1_set (l : Launch) (dC : Nat → ClassId) (dI : Nat → Nat → Nat) (sz : Nat) (ad : Nat → Nat) (cI cZ : ClassId) (K : Nat) (row : Nat → Int32) (cm : Int32) (sd : Nat → Int32) (vl : Nat → Int32) (wt : Nat → Int32) (tn : Int32) (kn : Nat → Int32) (tl : Nat → Int32) (od : Nat → Int32) (fd : Int32) (cl : Int32) (inn : Nat → Int32) (stt : Int32) (hK1 : 1 ≤ K) (hK2 : K ≤ 32) (seed : Int32) : Met l yX1_set wsX1_set ({ frames := 2, cells := 0, slots := 0, locals := 46 }) (va_Pc [.ref (ad 0), .int seed] (wB dC dI [(cI, .int), (cZ, .boolean)] sz (rW ad cI cZ K row cm sd vl wt tn kn tl od fd cl inn stt))) (va_Qi (fun r (u : (Nat → Int32) × Int32) => r = setA K seed) (fun u => oB dC dI [(cI, .int), (cZ, .boolean)] (va_A (rW ad cI cZ K row cm sd vl wt tn kn tl od fd cl inn stt) sz) (rW ad cI cZ K row cm sd vl wt tn kn tl od fd cl u.1 u.2)) (va_A (rW ad cI cZ K row cm sd vl wt tn kn tl od fd cl inn stt) sz)) 0 0 (va_A (rW ad cI cZ K row cm sd vl wt tn kn tl od fd cl inn stt) sz) := by
  refine Met.ofW (cc := cX1_set) (maxL := 5) (ret := (some .int)) (by decide) rfl ?_
  intro p e s m args below meth c s₁ B hml hv
  obtain ⟨rfl, hsz, hP, hK, hD0⟩ := hv
  have hx := B.exec
  have hb := B.bytes
  have hr := B.returns
  have hts := atoms_spec (ws := wsX1_set) B.pre
  have hown : s.vm.findClass RX1 = some m.cls := findClass_of_methodNamed B.named
  have hlocks := B.notSynchronized
  have hw0 : ∀ w ∈ wsX10, w ∈ wsX1_set := fun _ h => List.mem_cons_of_mem _ (List.mem_append_right _ h)
  subst hsz
  have hD := hD0.self (sz := s.heap.size)
  generalize hAe : va_A (rW ad cI cZ K row cm sd vl wt tn kn tl od fd cl inn stt) s.heap.size = A at hD ⊢
  have hA : ∀ q : Nat, s.heap.size ≤ q → A q := fun q h => by rw [← hAe]; exact Or.inr h
  have hS : va_S A s.heap s.heap [] := va_S.rf
  have hP : va_P (dC, dI) vwCl (rW ad cI cZ K row cm sd vl wt tn kn tl od fd cl inn stt) s.heap := hP
  have hl := lv_entry ([.ref (ad 0), .int seed]) (n := 5) (Nat.le_of_ble_eq_true rfl)
  rw [lg_entry_eq]
  generalize (lg_sl ([.ref (ad 0), .int seed]) ++ List.replicate (5 - (lg_sl ([.ref (ad 0), .int seed])).length) Slot.unset).toArray = ls at hl ⊢
  have hl : lv_has ls 5 [(0, .ref (ad 0)), (1, .int seed)] := hl
  refine lv_aload_n hx hb dX1_set_0 rfl (lv_at hl 0 rfl) ?_
  refine lv_iload_n hx hb dX1_set_1 rfl (lv_at hl 1 rfl) ?_
  have hFc := va_free (wc := (rW ad cI cZ K row cm sd vl wt tn kn tl od fd cl inn stt)) hD hS hA [0, 1, 2, 3, 4, 5, 6, 7, 8] rfl
  refine va_calli (va_runV (As := [.int seed]) (rest := []) ⟨hx, hb, hml, hown, hts⟩ (c_X1_draw l dC dI s.heap.size ad cI cZ K row cm sd vl wt tn kn tl od fd cl inn stt hK1 hK2 seed) (cwV 1 hts gX1_set_X1_draw rfl rfl rfl (by decide +kernel) ⟨Nat.le_of_ble_eq_true rfl, Nat.le_of_ble_eq_true rfl⟩) ⟨wFb, va_recv hK hP (ci := 1) (q0 := 0) rfl rfl, fun U hU hW => ⟨rfl, by rw [hU], by rw [hU]; exact hP, va_K.moved hW.alike hK, hD.weaken (fun _ _ _ _ => trivial)⟩⟩ rfl rfl hl.1 rfl (lv_room (Nat.le_of_ble_eq_true rfl)) dX1_set_2 ⟨Nat.le_of_ble_eq_true rfl, Nat.le_of_ble_eq_true rfl⟩) hS (fun q _ h => hFc q h) hFc (fun r_1 u_2 t H1 locs ht hvm hwu_2 hB hz1 hk1 hS => ?_)
  obtain ⟨hP1, hK1, hD1⟩ := hB
  rw [ht] at hP1
  obtain ⟨hP, hD⟩ := va_join (wr := []) (w1 := (rW ad cI cZ K row cm sd vl wt tn kn tl od fd cl u_2.1 u_2.2)) hP hD [0, 1, 2, 3, 4, 5, 6, 7, 8] [] rfl rfl (by decide) (by decide) hk1 hFc hP1 hD1
  clear hP1 hD1 hK1 hFc hk1 hz1
  generalize H1 = H at hP hS ⊢
  have hP : va_P (dC, dI) vwCl (rW ad cI cZ K row cm sd vl wt tn kn tl od fd cl u_2.1 u_2.2) H := hP
  have hD : va_D A (rW ad cI cZ K row cm sd vl wt tn kn tl od fd cl u_2.1 u_2.2) := hD
  obtain ⟨rfl, hinu_2⟩ := hwu_2
  refine lv_istore_n (lv' := [(2, .int (nI (dg K (dr (ns seed))))), (0, .ref (ad 0)), (1, .int seed)]) hx hb dX1_set_5 rfl hl (by decide) rfl (fun ls hl => ?_)
  refine lv_iconst (v := 0) hx hb dX1_set_6 (by decide) ?_
  refine lv_istore_n (lv' := [(3, .int 0), (2, .int (nI (dg K (dr (ns seed))))), (0, .ref (ad 0)), (1, .int seed)]) hx hb dX1_set_7 rfl hl (by decide) rfl (fun ls hl => ?_)
  refine lv_iconst (v := 0) hx hb dX1_set_8 (by decide) ?_
  refine lv_istore (lv' := [(4, .int 0), (3, .int 0), (2, .int (nI (dg K (dr (ns seed))))), (0, .ref (ad 0)), (1, .int seed)]) hx hb dX1_set_9 hl (by decide) rfl (fun ls hl => ?_)
  have hbl : ∀ i, bt (setA K seed) i = true → i < K := fun i h => setA_lt hK1 hK2 _ h
  have key : ∀ (m9 i : Nat) (ls : Array Slot), K = i + m9 → lv_has ls 5 [(4, .int (nI i)), (3, .int (sbF (setA K seed) i)), (0, .ref (ad 0)), (1, .int seed)] → W p l e (headSpec wsX1_set ({ frames := 2, cells := 0, slots := 0, locals := 46 })).room s m ([.ref (ad 0), .int seed] : List Value).toArray below meth c H locs 0 0 (MQ below (va_Qi (fun r (u : (Nat → Int32) × Int32) => r = setA K seed) (fun u => oB dC dI [(cI, .int), (cZ, .boolean)] A (rW ad cI cZ K row cm sd vl wt tn kn tl od fd cl u.1 u.2)) A) ([.ref (ad 0), .int seed] : List Value).toArray s 0 0 A) (F0 m 11 ls []) := by
    intro m9
    induction m9 with
    | zero =>
      intro i ls hi hl
      have hiK : K = i := by omega
      refine lv_iload hx hb dX1_set_11 (lv_at hl 0 rfl) ?_
      refine lv_aload_n hx hb dX1_set_13 rfl (lv_at hl 2 rfl) ?_
      refine va_get (D := (dC, dI)) (ci := 1) (v := .int (nI K)) (C := RX1) (T := TX1) (N := 14) hx hb hts hw0 hown hK hP 0 rfl rfl 0 (by decide) (hts (.fieldLink RX1 35 "DropCodeModel" "words" "I") (by decide +kernel)) (fun _ h9 => h9) rfl dX1_set_14 ?_
      refine lv_icmp_ge (tgt := 47) hx hb dX1_set_17 (by decide) (fun c1 => ?_) (fun c1 => ?_)
      · skip
        refine lv_iload_n hx hb dX1_set_47 rfl (lv_at hl 1 rfl) ?_
        exact W.iret (v := sbF (setA K seed) i) hx hb hr (fun t ht hW => ⟨⟨sbF (setA K seed) i, u_2, rfl, by rw [← hiK]; exact sbF_all hK2 hbl, by rw [ht]; exact hP, va_K.moved hW.alike hK, hD⟩, hS.F ht⟩) hS.2.2 dX1_set_48
      · skip
        exact absurd (nI_le (by omega) (by omega)) c1
    | succ m9 ih =>
      intro i ls hi hl
      have hiK : i < K := by omega
      have hi32 : i < 32 := by omega
      refine lv_iload hx hb dX1_set_11 (lv_at hl 0 rfl) ?_
      refine lv_aload_n hx hb dX1_set_13 rfl (lv_at hl 2 rfl) ?_
      refine va_get (D := (dC, dI)) (ci := 1) (v := .int (nI K)) (C := RX1) (T := TX1) (N := 14) hx hb hts hw0 hown hK hP 0 rfl rfl 0 (by decide) (hts (.fieldLink RX1 35 "DropCodeModel" "words" "I") (by decide +kernel)) (fun _ h9 => h9) rfl dX1_set_14 ?_
      refine lv_icmp_ge (tgt := 47) hx hb dX1_set_17 (by decide) (fun c1 => ?_) (fun c1 => ?_)
      · skip
        exact absurd c1 (nI_ge hiK (by omega))
      · skip
        refine lv_iload_n hx hb dX1_set_20 rfl (lv_at hl 1 rfl) ?_
        refine lv_aload_n hx hb dX1_set_21 rfl (lv_at hl 2 rfl) ?_
        refine va_get (D := (dC, dI)) (ci := 1) (v := .ref (ad 8)) (C := RX1) (T := TX1) (N := 14) hx hb hts hw0 hown hK hP 0 rfl rfl 12 (by decide) (hts (.fieldLink RX1 32 "DropCodeModel" "in" "[Z") (by decide +kernel)) (fun _ h9 => h9) rfl dX1_set_22 ?_
        refine lv_iload hx hb dX1_set_25 (lv_at hl 0 rfl) ?_
        refine va_zald (i := nI i) hx hb hK hP 8 1 rfl rfl (vp_in_nI hi32 (by omega)) dX1_set_27 ?_
        rw [nI_clamp (by omega)]
        refine lv_topi (fun z_3 ez_3 => ?_)
        have ez_3 : z_3 = bI (bt (setA K seed) i) := ez_3.trans (hinu_2 i hiK)
        subst ez_3
        cases hbi : bt (setA K seed) i with
        | false =>
          rw [bI_f]
          refine lv_if_eq (tgt := 38) hx hb dX1_set_28 (by decide) (fun c_4 => ?_) (fun c_4 => ?_)
          · skip
            refine lv_iconst (v := 0) hx hb dX1_set_38 (by decide) ?_
            refine lv_ior hx hb dX1_set_39 ?_
            refine lv_topi (fun z_5 ez_5 => ?_)
            have ez_5 : z_5 = sbF (setA K seed) (i + 1) := ez_5.trans (by rw [sbF, hbi, if_neg Bool.false_ne_true])
            subst ez_5
            refine lv_istore_n (lv' := [(3, .int (sbF (setA K seed) (i + 1))), (4, .int (nI i)), (0, .ref (ad 0)), (1, .int seed)]) hx hb dX1_set_40 rfl hl (by decide) rfl (fun ls hl => ?_)
            refine lv_iinc (v := nI (i + 1)) (lv' := [(4, .int (nI (i + 1))), (3, .int (sbF (setA K seed) (i + 1))), (0, .ref (ad 0)), (1, .int seed)]) hx hb dX1_set_41 hl (k := 1) rfl (nI_1 i) (by decide) rfl (fun ls hl => ?_)
            refine lv_goto (tgt := 11) hx hb dX1_set_44 (by decide) ?_
            exact ih (i + 1) ls (by omega) (lv_sub hl [0, 1, 2, 3] rfl)
          · skip
            exact absurd rfl c_4
        | true =>
          rw [bI_t]
          refine lv_if_eq (tgt := 38) hx hb dX1_set_28 (by decide) (fun c_4 => ?_) (fun c_4 => ?_)
          · skip
            exact absurd c_4 (by decide)
          · skip
            refine lv_iconst (v := 1) hx hb dX1_set_31 (by decide) ?_
            refine lv_iload hx hb dX1_set_32 (lv_at hl 0 rfl) ?_
            refine lv_ishl hx hb dX1_set_34 ?_
            refine lv_topi (fun z_5 ez_5 => ?_)
            have ez_5 : z_5 = tw i := ez_5.trans (rfl)
            subst ez_5
            refine lv_goto (tgt := 39) hx hb dX1_set_35 (by decide) ?_
            refine lv_ior hx hb dX1_set_39 ?_
            refine lv_topi (fun z_6 ez_6 => ?_)
            have ez_6 : z_6 = sbF (setA K seed) (i + 1) := ez_6.trans (by rw [sbF, hbi, if_pos rfl])
            subst ez_6
            refine lv_istore_n (lv' := [(3, .int (sbF (setA K seed) (i + 1))), (4, .int (nI i)), (0, .ref (ad 0)), (1, .int seed)]) hx hb dX1_set_40 rfl hl (by decide) rfl (fun ls hl => ?_)
            refine lv_iinc (v := nI (i + 1)) (lv' := [(4, .int (nI (i + 1))), (3, .int (sbF (setA K seed) (i + 1))), (0, .ref (ad 0)), (1, .int seed)]) hx hb dX1_set_41 hl (k := 1) rfl (nI_1 i) (by decide) rfl (fun ls hl => ?_)
            refine lv_goto (tgt := 11) hx hb dX1_set_44 (by decide) ?_
            exact ih (i + 1) ls (by omega) (lv_sub hl [0, 1, 2, 3] rfl)
  exact key K 0 ls (by omega) (lv_sub hl [0, 1, 3, 4] rfl)
set_option maxHeartbeats 4000000 in
set_option maxRecDepth 100000 in
theorem c_X1_drop (l : Launch) (dC : Nat → ClassId) (dI : Nat → Nat → Nat) (sz : Nat) (ad : Nat → Nat) (cI cZ : ClassId) (K : Nat) (row : Nat → Int32) (cm : Int32) (sd : Nat → Int32) (vl : Nat → Int32) (wt : Nat → Int32) (tn : Int32) (kn : Nat → Int32) (tl : Nat → Int32) (od : Nat → Int32) (fd : Int32) (cl : Int32) (inn : Nat → Int32) (stt : Int32) (hK1 : 1 ≤ K) (hK2 : K ≤ 32) (seed : Int32) : Met l yX1_drop wsX1_drop ({ frames := 2, cells := 0, slots := 0, locals := 46 }) (va_Pc [.ref (ad 0), .int seed] (wB dC dI [(cI, .int), (cZ, .boolean)] sz (rW ad cI cZ K row cm sd vl wt tn kn tl od fd cl inn stt))) (va_Qi (fun r (u : (Nat → Int32) × Int32) => r = xf row (setA K seed) K) (fun u => oB dC dI [(cI, .int), (cZ, .boolean)] (va_A (rW ad cI cZ K row cm sd vl wt tn kn tl od fd cl inn stt) sz) (rW ad cI cZ K row cm sd vl wt tn kn tl od fd cl u.1 u.2)) (va_A (rW ad cI cZ K row cm sd vl wt tn kn tl od fd cl inn stt) sz)) 0 0 (va_A (rW ad cI cZ K row cm sd vl wt tn kn tl od fd cl inn stt) sz) := by
  refine Met.ofW (cc := cX1_drop) (maxL := 5) (ret := (some .int)) (by decide) rfl ?_
  intro p e s m args below meth c s₁ B hml hv
  obtain ⟨rfl, hsz, hP, hK, hD0⟩ := hv
  have hx := B.exec
  have hb := B.bytes
  have hr := B.returns
  have hts := atoms_spec (ws := wsX1_drop) B.pre
  have hown : s.vm.findClass RX1 = some m.cls := findClass_of_methodNamed B.named
  have hlocks := B.notSynchronized
  have hw0 : ∀ w ∈ wsX10, w ∈ wsX1_drop := fun _ h => List.mem_cons_of_mem _ (List.mem_append_right _ h)
  subst hsz
  have hD := hD0.self (sz := s.heap.size)
  generalize hAe : va_A (rW ad cI cZ K row cm sd vl wt tn kn tl od fd cl inn stt) s.heap.size = A at hD ⊢
  have hA : ∀ q : Nat, s.heap.size ≤ q → A q := fun q h => by rw [← hAe]; exact Or.inr h
  have hS : va_S A s.heap s.heap [] := va_S.rf
  have hP : va_P (dC, dI) vwCl (rW ad cI cZ K row cm sd vl wt tn kn tl od fd cl inn stt) s.heap := hP
  have hl := lv_entry ([.ref (ad 0), .int seed]) (n := 5) (Nat.le_of_ble_eq_true rfl)
  rw [lg_entry_eq]
  generalize (lg_sl ([.ref (ad 0), .int seed]) ++ List.replicate (5 - (lg_sl ([.ref (ad 0), .int seed])).length) Slot.unset).toArray = ls at hl ⊢
  have hl : lv_has ls 5 [(0, .ref (ad 0)), (1, .int seed)] := hl
  refine lv_aload_n hx hb dX1_drop_0 rfl (lv_at hl 0 rfl) ?_
  refine lv_iload_n hx hb dX1_drop_1 rfl (lv_at hl 1 rfl) ?_
  have hFc := va_free (wc := (rW ad cI cZ K row cm sd vl wt tn kn tl od fd cl inn stt)) hD hS hA [0, 1, 2, 3, 4, 5, 6, 7, 8] rfl
  refine va_calli (va_runV (As := [.int seed]) (rest := []) ⟨hx, hb, hml, hown, hts⟩ (c_X1_draw l dC dI s.heap.size ad cI cZ K row cm sd vl wt tn kn tl od fd cl inn stt hK1 hK2 seed) (cwV 1 hts gX1_drop_X1_draw rfl rfl rfl (by decide +kernel) ⟨Nat.le_of_ble_eq_true rfl, Nat.le_of_ble_eq_true rfl⟩) ⟨wFb, va_recv hK hP (ci := 1) (q0 := 0) rfl rfl, fun U hU hW => ⟨rfl, by rw [hU], by rw [hU]; exact hP, va_K.moved hW.alike hK, hD.weaken (fun _ _ _ _ => trivial)⟩⟩ rfl rfl hl.1 rfl (lv_room (Nat.le_of_ble_eq_true rfl)) dX1_drop_2 ⟨Nat.le_of_ble_eq_true rfl, Nat.le_of_ble_eq_true rfl⟩) hS (fun q _ h => hFc q h) hFc (fun r_1 u_2 t H1 locs ht hvm hwu_2 hB hz1 hk1 hS => ?_)
  obtain ⟨hP1, hK1, hD1⟩ := hB
  rw [ht] at hP1
  obtain ⟨hP, hD⟩ := va_join (wr := []) (w1 := (rW ad cI cZ K row cm sd vl wt tn kn tl od fd cl u_2.1 u_2.2)) hP hD [0, 1, 2, 3, 4, 5, 6, 7, 8] [] rfl rfl (by decide) (by decide) hk1 hFc hP1 hD1
  clear hP1 hD1 hK1 hFc hk1 hz1
  generalize H1 = H at hP hS ⊢
  have hP : va_P (dC, dI) vwCl (rW ad cI cZ K row cm sd vl wt tn kn tl od fd cl u_2.1 u_2.2) H := hP
  have hD : va_D A (rW ad cI cZ K row cm sd vl wt tn kn tl od fd cl u_2.1 u_2.2) := hD
  obtain ⟨rfl, hinu_2⟩ := hwu_2
  refine lv_istore_n (lv' := [(2, .int (nI (dg K (dr (ns seed))))), (0, .ref (ad 0)), (1, .int seed)]) hx hb dX1_drop_5 rfl hl (by decide) rfl (fun ls hl => ?_)
  refine lv_iconst (v := 0) hx hb dX1_drop_6 (by decide) ?_
  refine lv_istore_n (lv' := [(3, .int 0), (2, .int (nI (dg K (dr (ns seed))))), (0, .ref (ad 0)), (1, .int seed)]) hx hb dX1_drop_7 rfl hl (by decide) rfl (fun ls hl => ?_)
  refine lv_iconst (v := 0) hx hb dX1_drop_8 (by decide) ?_
  refine lv_istore (lv' := [(4, .int 0), (3, .int 0), (2, .int (nI (dg K (dr (ns seed))))), (0, .ref (ad 0)), (1, .int seed)]) hx hb dX1_drop_9 hl (by decide) rfl (fun ls hl => ?_)
  have hbl : ∀ i, bt (setA K seed) i = true → i < K := fun i h => setA_lt hK1 hK2 _ h
  have key : ∀ (m9 i : Nat) (ls : Array Slot), K = i + m9 → lv_has ls 5 [(4, .int (nI i)), (3, .int (xf row (setA K seed) i)), (0, .ref (ad 0)), (1, .int seed)] → W p l e (headSpec wsX1_drop ({ frames := 2, cells := 0, slots := 0, locals := 46 })).room s m ([.ref (ad 0), .int seed] : List Value).toArray below meth c H locs 0 0 (MQ below (va_Qi (fun r (u : (Nat → Int32) × Int32) => r = xf row (setA K seed) K) (fun u => oB dC dI [(cI, .int), (cZ, .boolean)] A (rW ad cI cZ K row cm sd vl wt tn kn tl od fd cl u.1 u.2)) A) ([.ref (ad 0), .int seed] : List Value).toArray s 0 0 A) (F0 m 11 ls []) := by
    intro m9
    induction m9 with
    | zero =>
      intro i ls hi hl
      have hiK : K = i := by omega
      refine lv_iload hx hb dX1_drop_11 (lv_at hl 0 rfl) ?_
      refine lv_aload_n hx hb dX1_drop_13 rfl (lv_at hl 2 rfl) ?_
      refine va_get (D := (dC, dI)) (ci := 1) (v := .int (nI K)) (C := RX1) (T := TX1) (N := 14) hx hb hts hw0 hown hK hP 0 rfl rfl 0 (by decide) (hts (.fieldLink RX1 35 "DropCodeModel" "words" "I") (by decide +kernel)) (fun _ h9 => h9) rfl dX1_drop_14 ?_
      refine lv_icmp_ge (tgt := 50) hx hb dX1_drop_17 (by decide) (fun c1 => ?_) (fun c1 => ?_)
      · skip
        refine lv_iload_n hx hb dX1_drop_50 rfl (lv_at hl 1 rfl) ?_
        exact W.iret (v := xf row (setA K seed) i) hx hb hr (fun t ht hW => ⟨⟨xf row (setA K seed) i, u_2, rfl, by rw [hiK], by rw [ht]; exact hP, va_K.moved hW.alike hK, hD⟩, hS.F ht⟩) hS.2.2 dX1_drop_51
      · skip
        exact absurd (nI_le (by omega) (by omega)) c1
    | succ m9 ih =>
      intro i ls hi hl
      have hiK : i < K := by omega
      have hi32 : i < 32 := by omega
      refine lv_iload hx hb dX1_drop_11 (lv_at hl 0 rfl) ?_
      refine lv_aload_n hx hb dX1_drop_13 rfl (lv_at hl 2 rfl) ?_
      refine va_get (D := (dC, dI)) (ci := 1) (v := .int (nI K)) (C := RX1) (T := TX1) (N := 14) hx hb hts hw0 hown hK hP 0 rfl rfl 0 (by decide) (hts (.fieldLink RX1 35 "DropCodeModel" "words" "I") (by decide +kernel)) (fun _ h9 => h9) rfl dX1_drop_14 ?_
      refine lv_icmp_ge (tgt := 50) hx hb dX1_drop_17 (by decide) (fun c1 => ?_) (fun c1 => ?_)
      · skip
        exact absurd c1 (nI_ge hiK (by omega))
      · skip
        refine lv_iload_n hx hb dX1_drop_20 rfl (lv_at hl 1 rfl) ?_
        refine lv_aload_n hx hb dX1_drop_21 rfl (lv_at hl 2 rfl) ?_
        refine va_get (D := (dC, dI)) (ci := 1) (v := .ref (ad 8)) (C := RX1) (T := TX1) (N := 14) hx hb hts hw0 hown hK hP 0 rfl rfl 12 (by decide) (hts (.fieldLink RX1 32 "DropCodeModel" "in" "[Z") (by decide +kernel)) (fun _ h9 => h9) rfl dX1_drop_22 ?_
        refine lv_iload hx hb dX1_drop_25 (lv_at hl 0 rfl) ?_
        refine va_zald (i := nI i) hx hb hK hP 8 1 rfl rfl (vp_in_nI hi32 (by omega)) dX1_drop_27 ?_
        rw [nI_clamp (by omega)]
        refine lv_topi (fun z_3 ez_3 => ?_)
        have ez_3 : z_3 = bI (bt (setA K seed) i) := ez_3.trans (hinu_2 i hiK)
        subst ez_3
        cases hbi : bt (setA K seed) i with
        | false =>
          rw [bI_f]
          refine lv_if_eq (tgt := 41) hx hb dX1_drop_28 (by decide) (fun c_4 => ?_) (fun c_4 => ?_)
          · skip
            refine lv_iconst (v := 0) hx hb dX1_drop_41 (by decide) ?_
            refine lv_ixor hx hb dX1_drop_42 ?_
            refine lv_topi (fun z_5 ez_5 => ?_)
            have ez_5 : z_5 = xf row (setA K seed) (i + 1) := ez_5.trans (by rw [xf, hbi, if_neg Bool.false_ne_true, xor0])
            subst ez_5
            refine lv_istore_n (lv' := [(3, .int (xf row (setA K seed) (i + 1))), (4, .int (nI i)), (0, .ref (ad 0)), (1, .int seed)]) hx hb dX1_drop_43 rfl hl (by decide) rfl (fun ls hl => ?_)
            refine lv_iinc (v := nI (i + 1)) (lv' := [(4, .int (nI (i + 1))), (3, .int (xf row (setA K seed) (i + 1))), (0, .ref (ad 0)), (1, .int seed)]) hx hb dX1_drop_44 hl (k := 1) rfl (nI_1 i) (by decide) rfl (fun ls hl => ?_)
            refine lv_goto (tgt := 11) hx hb dX1_drop_47 (by decide) ?_
            exact ih (i + 1) ls (by omega) (lv_sub hl [0, 1, 2, 3] rfl)
          · skip
            exact absurd rfl c_4
        | true =>
          rw [bI_t]
          refine lv_if_eq (tgt := 41) hx hb dX1_drop_28 (by decide) (fun c_4 => ?_) (fun c_4 => ?_)
          · skip
            exact absurd c_4 (by decide)
          · skip
            refine lv_aload_n hx hb dX1_drop_31 rfl (lv_at hl 2 rfl) ?_
            refine va_get (D := (dC, dI)) (ci := 1) (v := .ref (ad 1)) (C := RX1) (T := TX1) (N := 14) hx hb hts hw0 hown hK hP 0 rfl rfl 1 (by decide) (hts (.fieldLink RX1 7 "DropCodeModel" "row" "[I") (by decide +kernel)) (fun _ h9 => h9) rfl dX1_drop_32 ?_
            refine lv_iload hx hb dX1_drop_35 (lv_at hl 0 rfl) ?_
            refine va_iald (i := nI i) hx hb hK hP 1 0 rfl rfl (vp_in_nI hi32 (by omega)) dX1_drop_37 ?_
            rw [nI_clamp (by omega)]
            refine lv_goto (tgt := 42) hx hb dX1_drop_38 (by decide) ?_
            refine lv_ixor hx hb dX1_drop_42 ?_
            refine lv_topi (fun z_5 ez_5 => ?_)
            have ez_5 : z_5 = xf row (setA K seed) (i + 1) := ez_5.trans (by rw [xf, hbi, if_pos rfl])
            subst ez_5
            refine lv_istore_n (lv' := [(3, .int (xf row (setA K seed) (i + 1))), (4, .int (nI i)), (0, .ref (ad 0)), (1, .int seed)]) hx hb dX1_drop_43 rfl hl (by decide) rfl (fun ls hl => ?_)
            refine lv_iinc (v := nI (i + 1)) (lv' := [(4, .int (nI (i + 1))), (3, .int (xf row (setA K seed) (i + 1))), (0, .ref (ad 0)), (1, .int seed)]) hx hb dX1_drop_44 hl (k := 1) rfl (nI_1 i) (by decide) rfl (fun ls hl => ?_)
            refine lv_goto (tgt := 11) hx hb dX1_drop_47 (by decide) ?_
            exact ih (i + 1) ls (by omega) (lv_sub hl [0, 1, 2, 3] rfl)
  exact key K 0 ls (by omega) (lv_sub hl [0, 1, 3, 4] rfl)
set_option maxHeartbeats 4000000 in
set_option maxRecDepth 100000 in
theorem c_X1_isOpen (l : Launch) (dC : Nat → ClassId) (dI : Nat → Nat → Nat) (sz : Nat) (ad : Nat → Nat) (cI cZ : ClassId) (K : Nat) (row : Nat → Int32) (cm : Int32) (sd : Nat → Int32) (vl : Nat → Int32) (wt : Nat → Int32) (tn : Int32) (kn : Nat → Int32) (tl : Nat → Int32) (od : Nat → Int32) (fd : Int32) (cl : Int32) (inn : Nat → Int32) (stt : Int32) (hK1 : 1 ≤ K) (hK2 : K ≤ 32) (kb : Int32) (hkn : inF K kn kb) (j : Nat) (hj : j < 60) : Met l yX1_isOpen wsX1_isOpen ({ frames := 2, cells := 0, slots := 0, locals := 46 }) (va_Pc [.ref (ad 0), .int (nI j)] (wB dC dI [(cI, .int), (cZ, .boolean)] sz (rW ad cI cZ K row cm sd vl wt tn kn tl od fd cl inn stt))) (va_Qi (fun r (u : (Nat → Int32) × Int32) => r = nI (opn (setA K (sd j)) kb) ∧ inF K u.1 (setA K (sd j))) (fun u => oB dC dI [(cI, .int), (cZ, .boolean)] (va_A (rW ad cI cZ K row cm sd vl wt tn kn tl od fd cl inn stt) sz) (rW ad cI cZ K row cm sd vl wt tn kn tl od fd cl u.1 u.2)) (va_A (rW ad cI cZ K row cm sd vl wt tn kn tl od fd cl inn stt) sz)) 0 0 (va_A (rW ad cI cZ K row cm sd vl wt tn kn tl od fd cl inn stt) sz) := by
  refine Met.ofW (cc := cX1_isOpen) (maxL := 5) (ret := (some .int)) (by decide) rfl ?_
  intro p e s m args below meth c s₁ B hml hv
  obtain ⟨rfl, hsz, hP, hK, hD0⟩ := hv
  have hx := B.exec
  have hb := B.bytes
  have hr := B.returns
  have hts := atoms_spec (ws := wsX1_isOpen) B.pre
  have hown : s.vm.findClass RX1 = some m.cls := findClass_of_methodNamed B.named
  have hlocks := B.notSynchronized
  have hw0 : ∀ w ∈ wsX10, w ∈ wsX1_isOpen := fun _ h => List.mem_cons_of_mem _ (List.mem_append_right _ h)
  subst hsz
  have hD := hD0.self (sz := s.heap.size)
  generalize hAe : va_A (rW ad cI cZ K row cm sd vl wt tn kn tl od fd cl inn stt) s.heap.size = A at hD ⊢
  have hA : ∀ q : Nat, s.heap.size ≤ q → A q := fun q h => by rw [← hAe]; exact Or.inr h
  have hS : va_S A s.heap s.heap [] := va_S.rf
  have hP : va_P (dC, dI) vwCl (rW ad cI cZ K row cm sd vl wt tn kn tl od fd cl inn stt) s.heap := hP
  have hl := lv_entry ([.ref (ad 0), .int (nI j)]) (n := 5) (Nat.le_of_ble_eq_true rfl)
  rw [lg_entry_eq]
  generalize (lg_sl ([.ref (ad 0), .int (nI j)]) ++ List.replicate (5 - (lg_sl ([.ref (ad 0), .int (nI j)])).length) Slot.unset).toArray = ls at hl ⊢
  have hl : lv_has ls 5 [(0, .ref (ad 0)), (1, .int (nI j))] := hl
  refine lv_aload_n hx hb dX1_isOpen_0 rfl (lv_at hl 0 rfl) ?_
  refine lv_aload_n hx hb dX1_isOpen_1 rfl (lv_at hl 0 rfl) ?_
  refine va_get (D := (dC, dI)) (ci := 1) (v := .ref (ad 2)) (C := RX1) (T := TX1) (N := 14) hx hb hts hw0 hown hK hP 0 rfl rfl 3 (by decide) (hts (.fieldLink RX1 13 "DropCodeModel" "seeds" "[I") (by decide +kernel)) (fun _ h9 => h9) rfl dX1_isOpen_2 ?_
  refine lv_iload_n hx hb dX1_isOpen_5 rfl (lv_at hl 1 rfl) ?_
  refine va_iald (i := nI j) hx hb hK hP 2 0 rfl rfl (vp_in_nI hj (by omega)) dX1_isOpen_6 ?_
  rw [nI_clamp (by omega)]
  have hFc := va_free (wc := (rW ad cI cZ K row cm sd vl wt tn kn tl od fd cl inn stt)) hD hS hA [0, 1, 2, 3, 4, 5, 6, 7, 8] rfl
  refine va_calli (va_runV (As := [.int (sd j)]) (rest := []) ⟨hx, hb, hml, hown, hts⟩ (c_X1_draw l dC dI s.heap.size ad cI cZ K row cm sd vl wt tn kn tl od fd cl inn stt hK1 hK2 (sd j)) (cwV 1 hts gX1_isOpen_X1_draw rfl rfl rfl (by decide +kernel) ⟨Nat.le_of_ble_eq_true rfl, Nat.le_of_ble_eq_true rfl⟩) ⟨wFb, va_recv hK hP (ci := 1) (q0 := 0) rfl rfl, fun U hU hW => ⟨rfl, by rw [hU], by rw [hU]; exact hP, va_K.moved hW.alike hK, hD.weaken (fun _ _ _ _ => trivial)⟩⟩ rfl rfl hl.1 rfl (lv_room (Nat.le_of_ble_eq_true rfl)) dX1_isOpen_7 ⟨Nat.le_of_ble_eq_true rfl, Nat.le_of_ble_eq_true rfl⟩) hS (fun q _ h => hFc q h) hFc (fun r_1 u_2 t H1 locs ht hvm hwu_2 hB hz1 hk1 hS => ?_)
  obtain ⟨hP1, hK1, hD1⟩ := hB
  rw [ht] at hP1
  obtain ⟨hP, hD⟩ := va_join (wr := []) (w1 := (rW ad cI cZ K row cm sd vl wt tn kn tl od fd cl u_2.1 u_2.2)) hP hD [0, 1, 2, 3, 4, 5, 6, 7, 8] [] rfl rfl (by decide) (by decide) hk1 hFc hP1 hD1
  clear hP1 hD1 hK1 hFc hk1 hz1
  generalize H1 = H at hP hS ⊢
  have hP : va_P (dC, dI) vwCl (rW ad cI cZ K row cm sd vl wt tn kn tl od fd cl u_2.1 u_2.2) H := hP
  have hD : va_D A (rW ad cI cZ K row cm sd vl wt tn kn tl od fd cl u_2.1 u_2.2) := hD
  obtain ⟨rfl, hinu_2⟩ := hwu_2
  refine lv_istore_n (lv' := [(2, .int (nI (dg K (dr (ns (sd j)))))), (0, .ref (ad 0)), (1, .int (nI j))]) hx hb dX1_isOpen_10 rfl hl (by decide) rfl (fun ls hl => ?_)
  refine lv_iconst (v := 0) hx hb dX1_isOpen_11 (by decide) ?_
  refine lv_istore_n (lv' := [(3, .int 0), (2, .int (nI (dg K (dr (ns (sd j)))))), (0, .ref (ad 0)), (1, .int (nI j))]) hx hb dX1_isOpen_12 rfl hl (by decide) rfl (fun ls hl => ?_)
  refine lv_iconst (v := 0) hx hb dX1_isOpen_13 (by decide) ?_
  refine lv_istore (lv' := [(4, .int 0), (3, .int 0), (2, .int (nI (dg K (dr (ns (sd j)))))), (0, .ref (ad 0)), (1, .int (nI j))]) hx hb dX1_isOpen_14 hl (by decide) rfl (fun ls hl => ?_)
  have hbl : ∀ i, bt (setA K (sd j)) i = true → i < K := fun i h => setA_lt hK1 hK2 _ h
  have key : ∀ (m9 i : Nat) (ls : Array Slot), K = i + m9 → lv_has ls 5 [(4, .int (nI i)), (3, .int (nI (cn (bt (unk (setA K (sd j)) kb)) i))), (0, .ref (ad 0)), (1, .int (nI j))] → W p l e (headSpec wsX1_isOpen ({ frames := 2, cells := 0, slots := 0, locals := 46 })).room s m ([.ref (ad 0), .int (nI j)] : List Value).toArray below meth c H locs 0 0 (MQ below (va_Qi (fun r (u : (Nat → Int32) × Int32) => r = nI (opn (setA K (sd j)) kb) ∧ inF K u.1 (setA K (sd j))) (fun u => oB dC dI [(cI, .int), (cZ, .boolean)] A (rW ad cI cZ K row cm sd vl wt tn kn tl od fd cl u.1 u.2)) A) ([.ref (ad 0), .int (nI j)] : List Value).toArray s 0 0 A) (F0 m 16 ls []) := by
    intro m9
    induction m9 with
    | zero =>
      intro i ls hi hl
      have hiK : K = i := by omega
      refine lv_iload hx hb dX1_isOpen_16 (lv_at hl 0 rfl) ?_
      refine lv_aload_n hx hb dX1_isOpen_18 rfl (lv_at hl 2 rfl) ?_
      refine va_get (D := (dC, dI)) (ci := 1) (v := .int (nI K)) (C := RX1) (T := TX1) (N := 14) hx hb hts hw0 hown hK hP 0 rfl rfl 0 (by decide) (hts (.fieldLink RX1 35 "DropCodeModel" "words" "I") (by decide +kernel)) (fun _ h9 => h9) rfl dX1_isOpen_19 ?_
      refine lv_icmp_ge (tgt := 59) hx hb dX1_isOpen_22 (by decide) (fun c1 => ?_) (fun c1 => ?_)
      · skip
        refine lv_iload_n hx hb dX1_isOpen_59 rfl (lv_at hl 1 rfl) ?_
        exact W.iret (v := nI (cn (bt (unk (setA K (sd j)) kb)) i)) hx hb hr (fun t ht hW => ⟨⟨nI (cn (bt (unk (setA K (sd j)) kb)) i), u_2, rfl, ⟨by rw [← hiK, pc_K hK2 (unk_lt hbl)]; rfl, hinu_2⟩, by rw [ht]; exact hP, va_K.moved hW.alike hK, hD⟩, hS.F ht⟩) hS.2.2 dX1_isOpen_60
      · skip
        exact absurd (nI_le (by omega) (by omega)) c1
    | succ m9 ih =>
      intro i ls hi hl
      have hiK : i < K := by omega
      have hi32 : i < 32 := by omega
      refine lv_iload hx hb dX1_isOpen_16 (lv_at hl 0 rfl) ?_
      refine lv_aload_n hx hb dX1_isOpen_18 rfl (lv_at hl 2 rfl) ?_
      refine va_get (D := (dC, dI)) (ci := 1) (v := .int (nI K)) (C := RX1) (T := TX1) (N := 14) hx hb hts hw0 hown hK hP 0 rfl rfl 0 (by decide) (hts (.fieldLink RX1 35 "DropCodeModel" "words" "I") (by decide +kernel)) (fun _ h9 => h9) rfl dX1_isOpen_19 ?_
      refine lv_icmp_ge (tgt := 59) hx hb dX1_isOpen_22 (by decide) (fun c1 => ?_) (fun c1 => ?_)
      · skip
        exact absurd c1 (nI_ge hiK (by omega))
      · skip
        refine lv_iload_n hx hb dX1_isOpen_25 rfl (lv_at hl 1 rfl) ?_
        refine lv_aload_n hx hb dX1_isOpen_26 rfl (lv_at hl 2 rfl) ?_
        refine va_get (D := (dC, dI)) (ci := 1) (v := .ref (ad 8)) (C := RX1) (T := TX1) (N := 14) hx hb hts hw0 hown hK hP 0 rfl rfl 12 (by decide) (hts (.fieldLink RX1 32 "DropCodeModel" "in" "[Z") (by decide +kernel)) (fun _ h9 => h9) rfl dX1_isOpen_27 ?_
        refine lv_iload hx hb dX1_isOpen_30 (lv_at hl 0 rfl) ?_
        refine va_zald (i := nI i) hx hb hK hP 8 1 rfl rfl (vp_in_nI hi32 (by omega)) dX1_isOpen_32 ?_
        rw [nI_clamp (by omega)]
        refine lv_topi (fun z_3 ez_3 => ?_)
        have ez_3 : z_3 = bI (bt (setA K (sd j)) i) := ez_3.trans (hinu_2 i hiK)
        subst ez_3
        cases hbi : bt (setA K (sd j)) i with
        | false =>
          rw [bI_f]
          refine lv_if_eq (tgt := 50) hx hb dX1_isOpen_33 (by decide) (fun c_4 => ?_) (fun c_4 => ?_)
          · skip
            refine lv_iconst (v := 0) hx hb dX1_isOpen_50 (by decide) ?_
            refine lv_iadd hx hb dX1_isOpen_51 ?_
            refine lv_topi (fun z_5 ez_5 => ?_)
            have ez_5 : z_5 = nI (cn (bt (unk (setA K (sd j)) kb)) (i + 1)) := ez_5.trans (by rw [cn_no (by rw [bt_unk, hbi]; rfl)]; exact Int32.add_zero _)
            subst ez_5
            refine lv_istore_n (lv' := [(3, .int (nI (cn (bt (unk (setA K (sd j)) kb)) (i + 1)))), (4, .int (nI i)), (0, .ref (ad 0)), (1, .int (nI j))]) hx hb dX1_isOpen_52 rfl hl (by decide) rfl (fun ls hl => ?_)
            refine lv_iinc (v := nI (i + 1)) (lv' := [(4, .int (nI (i + 1))), (3, .int (nI (cn (bt (unk (setA K (sd j)) kb)) (i + 1)))), (0, .ref (ad 0)), (1, .int (nI j))]) hx hb dX1_isOpen_53 hl (k := 1) rfl (nI_1 i) (by decide) rfl (fun ls hl => ?_)
            refine lv_goto (tgt := 16) hx hb dX1_isOpen_56 (by decide) ?_
            exact ih (i + 1) ls (by omega) (lv_sub hl [0, 1, 2, 3] rfl)
          · skip
            exact absurd rfl c_4
        | true =>
          rw [bI_t]
          refine lv_if_eq (tgt := 50) hx hb dX1_isOpen_33 (by decide) (fun c_4 => ?_) (fun c_4 => ?_)
          · skip
            exact absurd c_4 (by decide)
          · skip
            refine lv_aload_n hx hb dX1_isOpen_36 rfl (lv_at hl 2 rfl) ?_
            refine va_get (D := (dC, dI)) (ci := 1) (v := .ref (ad 5)) (C := RX1) (T := TX1) (N := 14) hx hb hts hw0 hown hK hP 0 rfl rfl 7 (by decide) (hts (.fieldLink RX1 22 "DropCodeModel" "known" "[Z") (by decide +kernel)) (fun _ h9 => h9) rfl dX1_isOpen_37 ?_
            refine lv_iload hx hb dX1_isOpen_40 (lv_at hl 0 rfl) ?_
            refine va_zald (i := nI i) hx hb hK hP 5 1 rfl rfl (vp_in_nI hi32 (by omega)) dX1_isOpen_42 ?_
            rw [nI_clamp (by omega)]
            refine lv_topi (fun z_5 ez_5 => ?_)
            have ez_5 : z_5 = bI (bt kb i) := ez_5.trans (hkn i hiK)
            subst ez_5
            cases hki : bt kb i with
            | false =>
              rw [bI_f]
              refine lv_if_ne (tgt := 50) hx hb dX1_isOpen_43 (by decide) (fun c_6 => ?_) (fun c_6 => ?_)
              · skip
                exact absurd rfl c_6
              · skip
                refine lv_iconst (v := 1) hx hb dX1_isOpen_46 (by decide) ?_
                refine lv_goto (tgt := 51) hx hb dX1_isOpen_47 (by decide) ?_
                refine lv_iadd hx hb dX1_isOpen_51 ?_
                refine lv_topi (fun z_7 ez_7 => ?_)
                have ez_7 : z_7 = nI (cn (bt (unk (setA K (sd j)) kb)) (i + 1)) := ez_7.trans (by rw [cn_s (by rw [bt_unk, hbi, hki]; rfl)]; exact nI_1 _)
                subst ez_7
                refine lv_istore_n (lv' := [(3, .int (nI (cn (bt (unk (setA K (sd j)) kb)) (i + 1)))), (4, .int (nI i)), (0, .ref (ad 0)), (1, .int (nI j))]) hx hb dX1_isOpen_52 rfl hl (by decide) rfl (fun ls hl => ?_)
                refine lv_iinc (v := nI (i + 1)) (lv' := [(4, .int (nI (i + 1))), (3, .int (nI (cn (bt (unk (setA K (sd j)) kb)) (i + 1)))), (0, .ref (ad 0)), (1, .int (nI j))]) hx hb dX1_isOpen_53 hl (k := 1) rfl (nI_1 i) (by decide) rfl (fun ls hl => ?_)
                refine lv_goto (tgt := 16) hx hb dX1_isOpen_56 (by decide) ?_
                exact ih (i + 1) ls (by omega) (lv_sub hl [0, 1, 2, 3] rfl)
            | true =>
              rw [bI_t]
              refine lv_if_ne (tgt := 50) hx hb dX1_isOpen_43 (by decide) (fun c_6 => ?_) (fun c_6 => ?_)
              · skip
                refine lv_iconst (v := 0) hx hb dX1_isOpen_50 (by decide) ?_
                refine lv_iadd hx hb dX1_isOpen_51 ?_
                refine lv_topi (fun z_7 ez_7 => ?_)
                have ez_7 : z_7 = nI (cn (bt (unk (setA K (sd j)) kb)) (i + 1)) := ez_7.trans (by rw [cn_no (by rw [bt_unk, hbi, hki]; rfl)]; exact Int32.add_zero _)
                subst ez_7
                refine lv_istore_n (lv' := [(3, .int (nI (cn (bt (unk (setA K (sd j)) kb)) (i + 1)))), (4, .int (nI i)), (0, .ref (ad 0)), (1, .int (nI j))]) hx hb dX1_isOpen_52 rfl hl (by decide) rfl (fun ls hl => ?_)
                refine lv_iinc (v := nI (i + 1)) (lv' := [(4, .int (nI (i + 1))), (3, .int (nI (cn (bt (unk (setA K (sd j)) kb)) (i + 1)))), (0, .ref (ad 0)), (1, .int (nI j))]) hx hb dX1_isOpen_53 hl (k := 1) rfl (nI_1 i) (by decide) rfl (fun ls hl => ?_)
                refine lv_goto (tgt := 16) hx hb dX1_isOpen_56 (by decide) ?_
                exact ih (i + 1) ls (by omega) (lv_sub hl [0, 1, 2, 3] rfl)
              · skip
                exact absurd c_6 (by decide)
  exact key K 0 ls (by omega) (lv_sub hl [0, 1, 3, 4] rfl)
set_option maxHeartbeats 4000000 in
set_option maxRecDepth 100000 in
theorem c_X1_off (l : Launch) (dC : Nat → ClassId) (dI : Nat → Nat → Nat) (sz : Nat) (ad : Nat → Nat) (cI cZ : ClassId) (K : Nat) (row : Nat → Int32) (cm : Int32) (sd : Nat → Int32) (vl : Nat → Int32) (wt : Nat → Int32) (tn : Int32) (kn : Nat → Int32) (tl : Nat → Int32) (od : Nat → Int32) (fd : Int32) (cl : Int32) (inn : Nat → Int32) (stt : Int32) (hK1 : 1 ≤ K) (hK2 : K ≤ 32) (kb : Int32) (hkn : inF K kn kb) (j : Nat) (hj : j < 60) : Met l yX1_off wsX1_off ({ frames := 2, cells := 0, slots := 0, locals := 46 }) (va_Pc [.ref (ad 0), .int (nI j)] (wB dC dI [(cI, .int), (cZ, .boolean)] sz (rW ad cI cZ K row cm sd vl wt tn kn tl od fd cl inn stt))) (va_Qi (fun r (u : (Nat → Int32) × Int32) => r = vl j ^^^ xk K tl (setA K (sd j)) kb ∧ inF K u.1 (setA K (sd j))) (fun u => oB dC dI [(cI, .int), (cZ, .boolean)] (va_A (rW ad cI cZ K row cm sd vl wt tn kn tl od fd cl inn stt) sz) (rW ad cI cZ K row cm sd vl wt tn kn tl od fd cl u.1 u.2)) (va_A (rW ad cI cZ K row cm sd vl wt tn kn tl od fd cl inn stt) sz)) 0 0 (va_A (rW ad cI cZ K row cm sd vl wt tn kn tl od fd cl inn stt) sz) := by
  refine Met.ofW (cc := cX1_off) (maxL := 5) (ret := (some .int)) (by decide) rfl ?_
  intro p e s m args below meth c s₁ B hml hv
  obtain ⟨rfl, hsz, hP, hK, hD0⟩ := hv
  have hx := B.exec
  have hb := B.bytes
  have hr := B.returns
  have hts := atoms_spec (ws := wsX1_off) B.pre
  have hown : s.vm.findClass RX1 = some m.cls := findClass_of_methodNamed B.named
  have hlocks := B.notSynchronized
  have hw0 : ∀ w ∈ wsX10, w ∈ wsX1_off := fun _ h => List.mem_cons_of_mem _ (List.mem_append_right _ h)
  subst hsz
  have hD := hD0.self (sz := s.heap.size)
  generalize hAe : va_A (rW ad cI cZ K row cm sd vl wt tn kn tl od fd cl inn stt) s.heap.size = A at hD ⊢
  have hA : ∀ q : Nat, s.heap.size ≤ q → A q := fun q h => by rw [← hAe]; exact Or.inr h
  have hS : va_S A s.heap s.heap [] := va_S.rf
  have hP : va_P (dC, dI) vwCl (rW ad cI cZ K row cm sd vl wt tn kn tl od fd cl inn stt) s.heap := hP
  have hl := lv_entry ([.ref (ad 0), .int (nI j)]) (n := 5) (Nat.le_of_ble_eq_true rfl)
  rw [lg_entry_eq]
  generalize (lg_sl ([.ref (ad 0), .int (nI j)]) ++ List.replicate (5 - (lg_sl ([.ref (ad 0), .int (nI j)])).length) Slot.unset).toArray = ls at hl ⊢
  have hl : lv_has ls 5 [(0, .ref (ad 0)), (1, .int (nI j))] := hl
  refine lv_aload_n hx hb dX1_off_0 rfl (lv_at hl 0 rfl) ?_
  refine lv_aload_n hx hb dX1_off_1 rfl (lv_at hl 0 rfl) ?_
  refine va_get (D := (dC, dI)) (ci := 1) (v := .ref (ad 2)) (C := RX1) (T := TX1) (N := 14) hx hb hts hw0 hown hK hP 0 rfl rfl 3 (by decide) (hts (.fieldLink RX1 13 "DropCodeModel" "seeds" "[I") (by decide +kernel)) (fun _ h9 => h9) rfl dX1_off_2 ?_
  refine lv_iload_n hx hb dX1_off_5 rfl (lv_at hl 1 rfl) ?_
  refine va_iald (i := nI j) hx hb hK hP 2 0 rfl rfl (vp_in_nI hj (by omega)) dX1_off_6 ?_
  rw [nI_clamp (by omega)]
  have hFc := va_free (wc := (rW ad cI cZ K row cm sd vl wt tn kn tl od fd cl inn stt)) hD hS hA [0, 1, 2, 3, 4, 5, 6, 7, 8] rfl
  refine va_calli (va_runV (As := [.int (sd j)]) (rest := []) ⟨hx, hb, hml, hown, hts⟩ (c_X1_draw l dC dI s.heap.size ad cI cZ K row cm sd vl wt tn kn tl od fd cl inn stt hK1 hK2 (sd j)) (cwV 1 hts gX1_off_X1_draw rfl rfl rfl (by decide +kernel) ⟨Nat.le_of_ble_eq_true rfl, Nat.le_of_ble_eq_true rfl⟩) ⟨wFb, va_recv hK hP (ci := 1) (q0 := 0) rfl rfl, fun U hU hW => ⟨rfl, by rw [hU], by rw [hU]; exact hP, va_K.moved hW.alike hK, hD.weaken (fun _ _ _ _ => trivial)⟩⟩ rfl rfl hl.1 rfl (lv_room (Nat.le_of_ble_eq_true rfl)) dX1_off_7 ⟨Nat.le_of_ble_eq_true rfl, Nat.le_of_ble_eq_true rfl⟩) hS (fun q _ h => hFc q h) hFc (fun r_1 u_2 t H1 locs ht hvm hwu_2 hB hz1 hk1 hS => ?_)
  obtain ⟨hP1, hK1, hD1⟩ := hB
  rw [ht] at hP1
  obtain ⟨hP, hD⟩ := va_join (wr := []) (w1 := (rW ad cI cZ K row cm sd vl wt tn kn tl od fd cl u_2.1 u_2.2)) hP hD [0, 1, 2, 3, 4, 5, 6, 7, 8] [] rfl rfl (by decide) (by decide) hk1 hFc hP1 hD1
  clear hP1 hD1 hK1 hFc hk1 hz1
  generalize H1 = H at hP hS ⊢
  have hP : va_P (dC, dI) vwCl (rW ad cI cZ K row cm sd vl wt tn kn tl od fd cl u_2.1 u_2.2) H := hP
  have hD : va_D A (rW ad cI cZ K row cm sd vl wt tn kn tl od fd cl u_2.1 u_2.2) := hD
  obtain ⟨rfl, hinu_2⟩ := hwu_2
  refine lv_istore_n (lv' := [(2, .int (nI (dg K (dr (ns (sd j)))))), (0, .ref (ad 0)), (1, .int (nI j))]) hx hb dX1_off_10 rfl hl (by decide) rfl (fun ls hl => ?_)
  refine lv_aload_n hx hb dX1_off_11 rfl (lv_at hl 1 rfl) ?_
  refine va_get (D := (dC, dI)) (ci := 1) (v := .ref (ad 3)) (C := RX1) (T := TX1) (N := 14) hx hb hts hw0 hown hK hP 0 rfl rfl 4 (by decide) (hts (.fieldLink RX1 16 "DropCodeModel" "values" "[I") (by decide +kernel)) (fun _ h9 => h9) rfl dX1_off_12 ?_
  refine lv_iload_n hx hb dX1_off_15 rfl (lv_at hl 2 rfl) ?_
  refine va_iald (i := nI j) hx hb hK hP 3 0 rfl rfl (vp_in_nI hj (by omega)) dX1_off_16 ?_
  rw [nI_clamp (by omega)]
  refine lv_topi (fun z_3 ez_3 => ?_)
  have ez_3 : z_3 = vl j ^^^ xf tl (setA K (sd j) &&& kb) 0 := ez_3.trans ((xor0 _).symm)
  subst ez_3
  refine lv_istore_n (lv' := [(3, .int (vl j ^^^ xf tl (setA K (sd j) &&& kb) 0)), (2, .int (nI (dg K (dr (ns (sd j)))))), (0, .ref (ad 0)), (1, .int (nI j))]) hx hb dX1_off_17 rfl hl (by decide) rfl (fun ls hl => ?_)
  refine lv_iconst (v := 0) hx hb dX1_off_18 (by decide) ?_
  refine lv_istore (lv' := [(4, .int 0), (3, .int (vl j ^^^ xf tl (setA K (sd j) &&& kb) 0)), (2, .int (nI (dg K (dr (ns (sd j)))))), (0, .ref (ad 0)), (1, .int (nI j))]) hx hb dX1_off_19 hl (by decide) rfl (fun ls hl => ?_)
  have hbl : ∀ i, bt (setA K (sd j)) i = true → i < K := fun i h => setA_lt hK1 hK2 _ h
  have key : ∀ (m9 i : Nat) (ls : Array Slot), K = i + m9 → lv_has ls 5 [(4, .int (nI i)), (3, .int (vl j ^^^ xf tl (setA K (sd j) &&& kb) i)), (0, .ref (ad 0)), (1, .int (nI j))] → W p l e (headSpec wsX1_off ({ frames := 2, cells := 0, slots := 0, locals := 46 })).room s m ([.ref (ad 0), .int (nI j)] : List Value).toArray below meth c H locs 0 0 (MQ below (va_Qi (fun r (u : (Nat → Int32) × Int32) => r = vl j ^^^ xk K tl (setA K (sd j)) kb ∧ inF K u.1 (setA K (sd j))) (fun u => oB dC dI [(cI, .int), (cZ, .boolean)] A (rW ad cI cZ K row cm sd vl wt tn kn tl od fd cl u.1 u.2)) A) ([.ref (ad 0), .int (nI j)] : List Value).toArray s 0 0 A) (F0 m 21 ls []) := by
    intro m9
    induction m9 with
    | zero =>
      intro i ls hi hl
      have hiK : K = i := by omega
      refine lv_iload hx hb dX1_off_21 (lv_at hl 0 rfl) ?_
      refine lv_aload_n hx hb dX1_off_23 rfl (lv_at hl 2 rfl) ?_
      refine va_get (D := (dC, dI)) (ci := 1) (v := .int (nI K)) (C := RX1) (T := TX1) (N := 14) hx hb hts hw0 hown hK hP 0 rfl rfl 0 (by decide) (hts (.fieldLink RX1 35 "DropCodeModel" "words" "I") (by decide +kernel)) (fun _ h9 => h9) rfl dX1_off_24 ?_
      refine lv_icmp_ge (tgt := 70) hx hb dX1_off_27 (by decide) (fun c1 => ?_) (fun c1 => ?_)
      · skip
        refine lv_iload_n hx hb dX1_off_70 rfl (lv_at hl 1 rfl) ?_
        exact W.iret (v := vl j ^^^ xf tl (setA K (sd j) &&& kb) i) hx hb hr (fun t ht hW => ⟨⟨vl j ^^^ xf tl (setA K (sd j) &&& kb) i, u_2, rfl, ⟨by rw [← hiK]; rfl, hinu_2⟩, by rw [ht]; exact hP, va_K.moved hW.alike hK, hD⟩, hS.F ht⟩) hS.2.2 dX1_off_71
      · skip
        exact absurd (nI_le (by omega) (by omega)) c1
    | succ m9 ih =>
      intro i ls hi hl
      have hiK : i < K := by omega
      have hi32 : i < 32 := by omega
      refine lv_iload hx hb dX1_off_21 (lv_at hl 0 rfl) ?_
      refine lv_aload_n hx hb dX1_off_23 rfl (lv_at hl 2 rfl) ?_
      refine va_get (D := (dC, dI)) (ci := 1) (v := .int (nI K)) (C := RX1) (T := TX1) (N := 14) hx hb hts hw0 hown hK hP 0 rfl rfl 0 (by decide) (hts (.fieldLink RX1 35 "DropCodeModel" "words" "I") (by decide +kernel)) (fun _ h9 => h9) rfl dX1_off_24 ?_
      refine lv_icmp_ge (tgt := 70) hx hb dX1_off_27 (by decide) (fun c1 => ?_) (fun c1 => ?_)
      · skip
        exact absurd c1 (nI_ge hiK (by omega))
      · skip
        refine lv_iload_n hx hb dX1_off_30 rfl (lv_at hl 1 rfl) ?_
        refine lv_aload_n hx hb dX1_off_31 rfl (lv_at hl 2 rfl) ?_
        refine va_get (D := (dC, dI)) (ci := 1) (v := .ref (ad 8)) (C := RX1) (T := TX1) (N := 14) hx hb hts hw0 hown hK hP 0 rfl rfl 12 (by decide) (hts (.fieldLink RX1 32 "DropCodeModel" "in" "[Z") (by decide +kernel)) (fun _ h9 => h9) rfl dX1_off_32 ?_
        refine lv_iload hx hb dX1_off_35 (lv_at hl 0 rfl) ?_
        refine va_zald (i := nI i) hx hb hK hP 8 1 rfl rfl (vp_in_nI hi32 (by omega)) dX1_off_37 ?_
        rw [nI_clamp (by omega)]
        refine lv_topi (fun z_4 ez_4 => ?_)
        have ez_4 : z_4 = bI (bt (setA K (sd j)) i) := ez_4.trans (hinu_2 i hiK)
        subst ez_4
        cases hbi : bt (setA K (sd j)) i with
        | false =>
          rw [bI_f]
          refine lv_if_eq (tgt := 61) hx hb dX1_off_38 (by decide) (fun c_5 => ?_) (fun c_5 => ?_)
          · skip
            refine lv_iconst (v := 0) hx hb dX1_off_61 (by decide) ?_
            refine lv_ixor hx hb dX1_off_62 ?_
            refine lv_topi (fun z_6 ez_6 => ?_)
            have ez_6 : z_6 = vl j ^^^ xf tl (setA K (sd j) &&& kb) (i + 1) := ez_6.trans (by rw [xf, b_and, hbi, Bool.false_and, if_neg Bool.false_ne_true, xor0])
            subst ez_6
            refine lv_istore_n (lv' := [(3, .int (vl j ^^^ xf tl (setA K (sd j) &&& kb) (i + 1))), (4, .int (nI i)), (0, .ref (ad 0)), (1, .int (nI j))]) hx hb dX1_off_63 rfl hl (by decide) rfl (fun ls hl => ?_)
            refine lv_iinc (v := nI (i + 1)) (lv' := [(4, .int (nI (i + 1))), (3, .int (vl j ^^^ xf tl (setA K (sd j) &&& kb) (i + 1))), (0, .ref (ad 0)), (1, .int (nI j))]) hx hb dX1_off_64 hl (k := 1) rfl (nI_1 i) (by decide) rfl (fun ls hl => ?_)
            refine lv_goto (tgt := 21) hx hb dX1_off_67 (by decide) ?_
            exact ih (i + 1) ls (by omega) (lv_sub hl [0, 1, 2, 3] rfl)
          · skip
            exact absurd rfl c_5
        | true =>
          rw [bI_t]
          refine lv_if_eq (tgt := 61) hx hb dX1_off_38 (by decide) (fun c_5 => ?_) (fun c_5 => ?_)
          · skip
            exact absurd c_5 (by decide)
          · skip
            refine lv_aload_n hx hb dX1_off_41 rfl (lv_at hl 2 rfl) ?_
            refine va_get (D := (dC, dI)) (ci := 1) (v := .ref (ad 5)) (C := RX1) (T := TX1) (N := 14) hx hb hts hw0 hown hK hP 0 rfl rfl 7 (by decide) (hts (.fieldLink RX1 22 "DropCodeModel" "known" "[Z") (by decide +kernel)) (fun _ h9 => h9) rfl dX1_off_42 ?_
            refine lv_iload hx hb dX1_off_45 (lv_at hl 0 rfl) ?_
            refine va_zald (i := nI i) hx hb hK hP 5 1 rfl rfl (vp_in_nI hi32 (by omega)) dX1_off_47 ?_
            rw [nI_clamp (by omega)]
            refine lv_topi (fun z_6 ez_6 => ?_)
            have ez_6 : z_6 = bI (bt kb i) := ez_6.trans (hkn i hiK)
            subst ez_6
            cases hki : bt kb i with
            | false =>
              rw [bI_f]
              refine lv_if_eq (tgt := 61) hx hb dX1_off_48 (by decide) (fun c_7 => ?_) (fun c_7 => ?_)
              · skip
                refine lv_iconst (v := 0) hx hb dX1_off_61 (by decide) ?_
                refine lv_ixor hx hb dX1_off_62 ?_
                refine lv_topi (fun z_8 ez_8 => ?_)
                have ez_8 : z_8 = vl j ^^^ xf tl (setA K (sd j) &&& kb) (i + 1) := ez_8.trans (by rw [xf, b_and, hbi, hki, Bool.and_false, if_neg Bool.false_ne_true, xor0])
                subst ez_8
                refine lv_istore_n (lv' := [(3, .int (vl j ^^^ xf tl (setA K (sd j) &&& kb) (i + 1))), (4, .int (nI i)), (0, .ref (ad 0)), (1, .int (nI j))]) hx hb dX1_off_63 rfl hl (by decide) rfl (fun ls hl => ?_)
                refine lv_iinc (v := nI (i + 1)) (lv' := [(4, .int (nI (i + 1))), (3, .int (vl j ^^^ xf tl (setA K (sd j) &&& kb) (i + 1))), (0, .ref (ad 0)), (1, .int (nI j))]) hx hb dX1_off_64 hl (k := 1) rfl (nI_1 i) (by decide) rfl (fun ls hl => ?_)
                refine lv_goto (tgt := 21) hx hb dX1_off_67 (by decide) ?_
                exact ih (i + 1) ls (by omega) (lv_sub hl [0, 1, 2, 3] rfl)
              · skip
                exact absurd rfl c_7
            | true =>
              rw [bI_t]
              refine lv_if_eq (tgt := 61) hx hb dX1_off_48 (by decide) (fun c_7 => ?_) (fun c_7 => ?_)
              · skip
                exact absurd c_7 (by decide)
              · skip
                refine lv_aload_n hx hb dX1_off_51 rfl (lv_at hl 2 rfl) ?_
                refine va_get (D := (dC, dI)) (ci := 1) (v := .ref (ad 6)) (C := RX1) (T := TX1) (N := 14) hx hb hts hw0 hown hK hP 0 rfl rfl 8 (by decide) (hts (.fieldLink RX1 26 "DropCodeModel" "told" "[I") (by decide +kernel)) (fun _ h9 => h9) rfl dX1_off_52 ?_
                refine lv_iload hx hb dX1_off_55 (lv_at hl 0 rfl) ?_
                refine va_iald (i := nI i) hx hb hK hP 6 0 rfl rfl (vp_in_nI hi32 (by omega)) dX1_off_57 ?_
                rw [nI_clamp (by omega)]
                refine lv_goto (tgt := 62) hx hb dX1_off_58 (by decide) ?_
                refine lv_ixor hx hb dX1_off_62 ?_
                refine lv_topi (fun z_8 ez_8 => ?_)
                have ez_8 : z_8 = vl j ^^^ xf tl (setA K (sd j) &&& kb) (i + 1) := ez_8.trans (by rw [xf, b_and, hbi, hki, Bool.and_true, if_pos rfl, xor_ass])
                subst ez_8
                refine lv_istore_n (lv' := [(3, .int (vl j ^^^ xf tl (setA K (sd j) &&& kb) (i + 1))), (4, .int (nI i)), (0, .ref (ad 0)), (1, .int (nI j))]) hx hb dX1_off_63 rfl hl (by decide) rfl (fun ls hl => ?_)
                refine lv_iinc (v := nI (i + 1)) (lv' := [(4, .int (nI (i + 1))), (3, .int (vl j ^^^ xf tl (setA K (sd j) &&& kb) (i + 1))), (0, .ref (ad 0)), (1, .int (nI j))]) hx hb dX1_off_64 hl (k := 1) rfl (nI_1 i) (by decide) rfl (fun ls hl => ?_)
                refine lv_goto (tgt := 21) hx hb dX1_off_67 (by decide) ?_
                exact ih (i + 1) ls (by omega) (lv_sub hl [0, 1, 2, 3] rfl)
  exact key K 0 ls (by omega) (lv_sub hl [0, 1, 3, 4] rfl)
end
section
/-! ===== a word becomes known, in the reference's own numbers ===== -/
theorem xf_learn {w : Nat → Int32} {S kb v : Int32} {i : Nat} (hi : i < 32) (hS : bt S i = true) (hk : bt kb i = false) : ∀ n, xf (upd w i v) (S &&& (kb ||| tw i)) n = if i < n then xf w (S &&& kb) n ^^^ v else xf w (S &&& kb) n := by
  have hb : ∀ x, bt (S &&& (kb ||| tw i)) x = (bt (S &&& kb) x || decide (x = i)) := by
    intro x
    rw [b_and, b_and, bt_or_tw hi]
    by_cases q : x = i
    · subst q; rw [hS]; simp
    · simp [q]
  intro n
  induction n with
  | zero => rw [if_neg (by omega)]; rfl
  | succ n ih =>
    rw [xf, ih, hb]
    by_cases q : n = i
    · subst q
      have h0 : bt (S &&& kb) n = false := by rw [b_and, hk, Bool.and_false]
      have e1 : (bt (S &&& kb) n || decide (n = n)) = true := by simp
      rw [e1, if_pos rfl, if_neg (Nat.lt_irrefl n), pk_us, if_pos (Nat.lt_succ_self n), xf, h0, if_neg Bool.false_ne_true]
    · rw [pk_un q, xf]
      have h1 : (decide (n = i) : Bool) = false := decide_eq_false q
      rw [h1, Bool.or_false]
      cases hbn : bt (S &&& kb) n with
      | false =>
        rw [if_neg Bool.false_ne_true, if_neg Bool.false_ne_true]
        by_cases g : i < n
        · rw [if_pos g, if_pos (by omega)]
        · rw [if_neg g, if_neg (by omega)]
      | true =>
        rw [if_pos rfl, if_pos rfl]
        by_cases g : i < n
        · rw [if_pos g, if_pos (by omega)]
          refine b_ext (fun z _ => ?_)
          rw [b_xor, b_xor, b_xor, b_xor]
          cases bt (xf w (S &&& kb) n) z <;> cases bt v z <;> cases bt (w n) z <;> rfl
        · rw [if_neg g, if_neg (by omega)]
theorem xk_congr {K : Nat} {w w' : Nat → Int32} {S kb : Int32} (h : ∀ i, bt kb i = true → w i = w' i) : xk K w S kb = xk K w' S kb := by
  unfold xk
  refine xf_congr (fun i _ hb => ?_)
  rw [b_and, Bool.and_eq_true] at hb
  exact h i hb.2
/-- the drop that told a word agrees -/
theorem off_self {K : Nat} {w : Nat → Int32} {S kb V : Int32} {i : Nat} (hi : i < 32) (hiK : i < K) (hS : bt S i = true) (hk : bt kb i = false) : V ^^^ xk K (upd w i (V ^^^ xk K w S kb)) S (kb ||| tw i) = 0 := by
  unfold xk
  rw [xf_learn hi hS hk, if_pos hiK]
  refine b_ext (fun z _ => ?_)
  rw [b_xor, b_xor, b_xor, b_0]
  cases bt V z <;> cases bt (xf w (S &&& kb) K) z <;> rfl
section QRS
variable {K n T0 h : Nat} {S V : Nat → Int32} {y : QS} {wt : Nat → Int32} {tn : Int32} {kn tl od : Nat → Int32} {fd cl : Int32}
/-- no drop that is now open by none, and waits no more, clashes -/
theorem qR_nc (hn : n ≤ 60) (hT : T0 ≤ 40000) (hI : qInv K n S h y) (hR : qR K n T0 h y wt tn kn tl od fd cl) {j i : Nat} (hj : j < n) (hi : i < 32) (hiK : i < K) (e2 : bt (S j) i = true) (e3 : bt y.2.2.1 i = false) :
    ∀ k, k < n → bt (S k) i = true → opn (S k) (y.2.2.1 ||| tw i) = 0 → upd wt j 0 k = 0 → V k ^^^ xk K (upd tl i (V j ^^^ xk K tl (S j) y.2.2.1)) (S k) (y.2.2.1 ||| tw i) = 0 := by
  intro k hk hb ho hw
  by_cases q : k = j
  · subst q
    exact off_self hi hiK e2 e3
  · exfalso
    have hq := qInv_le hI
    rw [pk_un q] at hw
    have h1 := opn_learn (S := S k) hi e3
    rw [ho, hb, if_pos rfl] at h1
    obtain ⟨x, x1, x2, x3⟩ := hI.2.2.2.1 k hk h1
    have h2 := hR.2.2.2.2.2.2.2 x k x1 x2 hk x3
    rw [h2] at hw
    exact nI_ne0 (by omega) (by omega) hw
/-- a drop goes out and is open by none -/
theorem qR_out {cl' : Int32} (hn : n ≤ 60) (hI : qInv K n S h y) (hR : qR K n T0 h y wt tn kn tl od fd cl) (hh : h < y.2.2.2.2.1) {j : Nat} (hj : j < n) (ej : y.2.2.2.1 h = nI j) (hu : unk (S j) y.2.2.1 = 0) (hV : cl' = clA K y.1 (S j) y.2.2.1 (V j) cl) : qR K n T0 (h + 1) (tkF K n S V j y) (upd wt j 0) tn kn tl od fd cl' := by
  obtain ⟨kw, ko, kb, qu, q, c0⟩ := y
  obtain ⟨r1, r2, r3, r4, r5, r6, r7, r8⟩ := hR
  have hu : unk (S j) kb = 0 := hu
  have r5 : cl = c0 := r5
  have ht : tkF K n S V j (kw, ko, kb, qu, q, c0) = (kw, ko, kb, qu, q, clA K kw (S j) kb (V j) c0) := if_pos hu
  have hinj : ∀ x y, x < q → y < q → qu x = qu y → x = y := hI.2.2.2.2.2
  have hh : h < q := hh
  have ej : qu h = nI j := ej
  rw [ht]
  refine ⟨r1, r2, r3, r4, by rw [hV, r5], r6, ?_, ?_⟩
  · intro k hk hx
    by_cases g : k = j
    · subst g; exact pk_us
    · rw [pk_un g]
      refine r7 k hk (fun x x1 x2 x3 => ?_)
      have x3 : qu x = nI k := x3
      by_cases e : x = h
      · subst e
        exact g (nI_nj (by omega) (by omega) (x3.symm.trans ej))
      · exact hx x (by omega) x2 x3
  · intro x k x1 x2 hk x3
    have x2 : x < q := x2
    have x3 : qu x = nI k := x3
    have g : k ≠ j := by
      intro e
      subst e
      have := hinj x h x2 hh (x3.trans ej.symm)
      omega
    rw [pk_un g]
    exact r8 x k (by omega) x2 hk x3
/-- a drop goes out and tells a word -/
theorem qR_learn (hK : K ≤ 32) (hn : n ≤ 60) (hI : qInv K n S h y) (hR : qR K n T0 h y wt tn kn tl od fd cl) (hh : h < y.2.2.2.2.1) {j i : Nat} (hj : j < n) (ej : y.2.2.2.1 h = nI j) (hi : i < 32) (hiK : i < K) (e1 : unk (S j) y.2.2.1 = tw i) (e3 : bt y.2.2.1 i = false) :
    qR K n T0 (h + 1) (tkF K n S V j y) (awA (upd wt j 0) (T0 + y.2.2.2.2.1) (eqP i S (y.2.2.1 ||| tw i)) n) (nI (T0 + y.2.2.2.2.1 + cn (eqP i S (y.2.2.1 ||| tw i)) n)) (upd kn i (vp_nar .boolean 1)) (upd tl i (V j ^^^ xk K tl (S j) y.2.2.1)) (upd od (pc y.2.2.1) (nI i)) (nI (pc y.2.2.1 + 1)) cl := by
  obtain ⟨kw, ko, kb, qu, q, c0⟩ := y
  obtain ⟨r1, r2, r3, r4, r5, r6, r7, r8⟩ := hR
  obtain ⟨a1, a2, a3, a4, a5, a6⟩ := hI
  have hu : ¬ unk (S j) kb = 0 := by rw [show unk (S j) kb = tw i from e1]; exact tw_ne0 i hi
  have e1 : unk (S j) kb = tw i := e1
  have e3 : bt kb i = false := e3
  have ht : tkF K n S V j (kw, ko, kb, qu, q, c0) = (upd kw i (V j ^^^ xk K kw (S j) kb), upd ko (pc kb) (nI i), kb ||| tw i, eqA i S (kb ||| tw i) qu q n, q + cn (eqP i S (kb ||| tw i)) n, c0) := by
    show (if _ then _ else _) = _
    rw [if_neg hu, e1, lo_tw i hi]
  have hh : h < q := hh
  have ej : qu h = nI j := ej
  have a3 : ∀ x, x < q → ∃ j, j < n ∧ qu x = nI j ∧ opn (S j) kb ≤ 1 := a3
  have a6 : ∀ x y, x < q → y < q → qu x = qu y → x = y := a6
  have r2 : ∀ i, bt kb i = true → tl i = kw i := r2
  have r7 : ∀ k, k < n → (∀ x, h ≤ x → x < q → ¬ qu x = nI k) → wt k = 0 := r7
  have r8 : ∀ x k, h ≤ x → x < q → k < n → qu x = nI k → wt k = nI (T0 + x + 1) := r8
  have hpc : pc (kb ||| tw i) = pc kb + 1 := by rw [pc_or_tw hi, e3, if_neg Bool.false_ne_true]
  have hP2 : ∀ k, eqP i S (kb ||| tw i) k = true → opn (S k) kb = 2 := by
    intro k hp
    unfold eqP at hp
    rw [Bool.and_eq_true, decide_eq_true_iff] at hp
    rw [opn_learn hi e3, hp.2, hp.1]; rfl
  rw [ht]
  refine ⟨inF_up hK hiK r1, ?_, ?_, ?_, r5, ?_, ?_, ?_⟩
  · intro i' hb
    show upd tl i _ i' = upd kw i _ i'
    by_cases g : i' = i
    · subst g; rw [pk_us, pk_us, xk_congr r2]
    · rw [pk_un g, pk_un g]
      refine r2 i' ?_
      have hb : bt (kb ||| tw i) i' = true := hb
      rw [bt_or_tw hi] at hb
      simpa [g] using hb
  · intro x hx
    have hx : x < pc (kb ||| tw i) := hx
    show upd od (pc kb) _ x = upd ko (pc kb) _ x
    by_cases g : x = pc kb
    · subst g; rw [pk_us, pk_us]
    · rw [pk_un g, pk_un g]
      exact r3 x (show x < pc kb by omega)
  · show nI (pc kb + 1) = nI (pc (kb ||| tw i))
    rw [hpc]
  · show nI (T0 + q + cn (eqP i S (kb ||| tw i)) n) = nI (T0 + (q + cn (eqP i S (kb ||| tw i)) n))
    rw [Nat.add_assoc]
  · intro k hk hx
    have hx : ∀ x, h + 1 ≤ x → x < q + cn (eqP i S (kb ||| tw i)) n → ¬ eqA i S (kb ||| tw i) qu q n x = nI k := hx
    show awA (upd wt j 0) (T0 + q) (eqP i S (kb ||| tw i)) n k = 0
    cases hp : eqP i S (kb ||| tw i) k with
    | true =>
      exfalso
      have h3 := cn_s hp
      have h4 := cn_k (f := eqP i S (kb ||| tw i)) hk
      exact hx _ (by omega) (by omega) (eqA_new hk hp)
    | false =>
      rw [awA_no hp]
      by_cases g : k = j
      · subst g; exact pk_us
      · rw [pk_un g]
        refine r7 k hk (fun x x1 x2 x3 => ?_)
        by_cases e : x = h
        · subst e
          exact g (nI_nj (by omega) (by omega) (x3.symm.trans ej))
        · exact hx x (by omega) (by omega) (by rw [eqA_old x2]; exact x3)
  · intro x k x1 x2 hk x3
    have y2 : x < q + cn (eqP i S (kb ||| tw i)) n := x2
    have y3 : eqA i S (kb ||| tw i) qu q n x = nI k := x3
    clear x3 x2
    show awA (upd wt j 0) (T0 + q) (eqP i S (kb ||| tw i)) n k = nI (T0 + x + 1)
    rcases Nat.lt_or_ge x q with g | g
    · rw [eqA_old g] at y3
      obtain ⟨k', b1, b2, b3⟩ := a3 x g
      have hkk : k' = k := nI_nj (by omega) (by omega) (b2.symm.trans y3)
      subst hkk
      have hp : eqP i S (kb ||| tw i) k' = false := by
        cases hp : eqP i S (kb ||| tw i) k' with
        | false => rfl
        | true => have := hP2 k' hp; omega
      have gk : k' ≠ j := by
        intro e
        subst e
        have := a6 x h g hh (y3.trans ej.symm)
        omega
      rw [awA_no hp, pk_un gk]
      exact r8 x k' (by omega) g b1 y3
    · obtain ⟨k', b1, b2, b3⟩ := eqA_all g y2
      rw [b3, eqA_new b1 b2] at y3
      have hkk : k' = k := nI_nj (by omega) (by omega) y3
      subst hkk
      rw [awA_yes b1 b2, b3]
      congr 1
      omega
end QRS
/-- at rest -/
def rR (K n T0 : Nat) (kw ko : Nat → Int32) (kb cl0 : Int32) (wt : Nat → Int32) (tn : Int32) (kn tl od : Nat → Int32) (fd cl : Int32) : Prop :=
  inF K kn kb ∧ (∀ i, bt kb i = true → tl i = kw i) ∧ (∀ x, x < pc kb → od x = ko x) ∧ fd = nI (pc kb) ∧ cl = cl0 ∧ tn = nI T0 ∧ (∀ k, k < n → wt k = 0)
theorem qR_rest {K n T0 h : Nat} {y : QS} {wt : Nat → Int32} {tn : Int32} {kn tl od : Nat → Int32} {fd cl : Int32} (hh : h = y.2.2.2.2.1) (hR : qR K n T0 h y wt tn kn tl od fd cl) : rR K n (T0 + y.2.2.2.2.1) y.1 y.2.1 y.2.2.1 y.2.2.2.2.2 wt tn kn tl od fd cl := by
  obtain ⟨r1, r2, r3, r4, r5, r6, r7, r8⟩ := hR
  exact ⟨r1, r2, r3, r4, r5, r6, fun k hk => r7 k hk (fun x x1 x2 _ => by omega)⟩
theorem rest_qR {K n T0 : Nat} {S V kw ko : Nat → Int32} {kb : Int32} {qu : Nat → Int32} {cl0 : Int32} {wt : Nat → Int32} {tn : Int32} {kn tl od : Nat → Int32} {fd cl cl' : Int32} (hR : rR K n T0 kw ko kb cl0 wt tn kn tl od fd cl) (h1 : ¬ opn (S n) kb = 1) (hc : cl' = if opn (S n) kb = 0 then clA K kw (S n) kb (V n) cl else cl) : qR K (n + 1) T0 0 (rcI K n S V kw ko kb qu cl0) (upd wt n 0) tn kn tl od fd cl' := by
  obtain ⟨r1, r2, r3, r4, r5, r6, r7⟩ := hR
  have hz : ∀ x : Nat, ¬ x < (rcI K n S V kw ko kb qu cl0).2.2.2.2.1 := by
    intro x
    show ¬ x < (if opn (S n) kb = 1 then 1 else 0)
    rw [if_neg h1]; omega
  refine ⟨r1, r2, r3, r4, ?_, ?_, ?_, fun x k _ x2 => absurd x2 (hz x)⟩
  · show cl' = (if opn (S n) kb = 0 then clA K kw (S n) kb (V n) cl0 else cl0)
    rw [hc, r5]
  · show tn = nI (T0 + (if opn (S n) kb = 1 then 1 else 0))
    rw [if_neg h1, r6]; rfl
  · intro k hk _
    by_cases g : k = n
    · subst g; exact pk_us
    · rw [pk_un g]; exact r7 k (by omega)
theorem rest_qR1 {K n T0 : Nat} (hn : n < 60) {S V kw ko : Nat → Int32} {kb : Int32} {qu : Nat → Int32} {cl0 : Int32} {wt : Nat → Int32} {tn : Int32} {kn tl od : Nat → Int32} {fd cl : Int32} (hR : rR K n T0 kw ko kb cl0 wt tn kn tl od fd cl) (h1 : opn (S n) kb = 1) : qR K (n + 1) T0 0 (rcI K n S V kw ko kb qu cl0) (upd (upd wt n 0) n (nI (T0 + 1))) (nI (T0 + 1)) kn tl od fd cl := by
  obtain ⟨r1, r2, r3, r4, r5, r6, r7⟩ := hR
  rw [rc_1 h1]
  refine ⟨r1, r2, r3, r4, r5, rfl, ?_, ?_⟩
  · intro k hk hx
    have hx : ∀ x, 0 ≤ x → x < 1 → ¬ upd qu 0 (nI n) x = nI k := hx
    by_cases g : k = n
    · subst g; exact absurd (pk_us : upd qu 0 (nI k) 0 = nI k) (hx 0 (Nat.le_refl 0) (by omega))
    · rw [pk_un g, pk_un g]; exact r7 k (by omega)
  · intro x k _ x2 hk x3
    have x2 : x < 1 := x2
    have x3 : upd qu 0 (nI n) x = nI k := x3
    have : x = 0 := by omega
    subst this
    rw [pk_us] at x3
    have : n = k := nI_nj (by omega) (by omega) x3
    subst this
    rw [pk_us]
end
section
theorem fs_skip {k : Nat} {wt : Nat → Int32} {x : Int32} (h : fsP k wt x) (h0 : ¬ 0 < wt k) : fsP (k + 1) wt x := by
  rcases h with ⟨e, a⟩ | ⟨j, hj, e, hp, hm⟩
  · refine Or.inl ⟨e, fun i hi => ?_⟩
    by_cases q : i = k
    · subst q; exact h0
    · exact a i (by omega)
  · refine Or.inr ⟨j, by omega, e, hp, fun i hi hi0 => ?_⟩
    by_cases q : i = k
    · subst q; exact absurd hi0 h0
    · exact hm i (by omega) hi0
theorem fs_new {k : Nat} {wt : Nat → Int32} {x : Int32} (h : fsP k wt x) (hx : x = -1) (hp : 0 < wt k) (hk : k < 60 := by omega) : fsP (k + 1) wt (nI k) := by
  rcases h with ⟨_, a⟩ | ⟨j, hj, e, _, _⟩
  · refine Or.inr ⟨k, by omega, rfl, hp, fun i hi hi0 => ?_⟩
    by_cases q : i = k
    · subst q; exact Int32.le_refl _
    · exact absurd hi0 (a i (by omega))
  · exfalso
    rw [e] at hx
    have h1 := nI_pos (n := j) (by omega)
    rw [hx] at h1
    exact h1 (by decide)
theorem fs_get {k : Nat} {wt : Nat → Int32} {x : Int32} (h : fsP k wt x) (hx : ¬ x = -1) : ∃ j, j < k ∧ x = nI j ∧ 0 < wt j ∧ ∀ i, i < k → 0 < wt i → wt j ≤ wt i := by
  rcases h with ⟨e, _⟩ | h
  · exact absurd e hx
  · exact h
theorem fs_keep {k j : Nat} {wt : Nat → Int32} (hj : j < k) (hp : 0 < wt j) (hm : ∀ i, i < k → 0 < wt i → wt j ≤ wt i) (h : wt j ≤ wt k) : fsP (k + 1) wt (nI j) := by
  refine Or.inr ⟨j, by omega, rfl, hp, fun i hi hi0 => ?_⟩
  by_cases q : i = k
  · subst q; exact h
  · exact hm i (by omega) hi0
theorem fs_take {k j : Nat} {wt : Nat → Int32} (hm : ∀ i, i < k → 0 < wt i → wt j ≤ wt i) (hp : 0 < wt k) (h : wt k < wt j) : fsP (k + 1) wt (nI k) := by
  refine Or.inr ⟨k, by omega, rfl, hp, fun i hi hi0 => ?_⟩
  by_cases q : i = k
  · subst q; exact Int32.le_refl _
  · exact Int32.le_of_lt (Int32.lt_of_lt_of_le h (hm i (by omega) hi0))
set_option maxHeartbeats 4000000 in
set_option maxRecDepth 100000 in
theorem c_X1_drops (l : Launch) (dC : Nat → ClassId) (dI : Nat → Nat → Nat) (ad : Nat → Nat) (cI cZ : ClassId) (K : Nat) (row : Nat → Int32) (cm : Int32) (sd : Nat → Int32) (vl : Nat → Int32) (wt : Nat → Int32) (tn : Int32) (kn : Nat → Int32) (tl : Nat → Int32) (od : Nat → Int32) (fd : Int32) (cl : Int32) (inn : Nat → Int32) (stt : Int32) : Met l yX1_drops wsX1_drops ({ frames := 0, cells := 0, slots := 0, locals := 0 }) (va_Pc [.ref (ad 0)] (rB dC dI [(cI, .int), (cZ, .boolean)] (rW ad cI cZ K row cm sd vl wt tn kn tl od fd cl inn stt))) (vp_Si (fun r => r = cm)) 0 0 (fun _ => False) := by
  refine Met.ofW (cc := cX1_drops) (maxL := 1) (ret := (some .int)) (by decide) rfl ?_
  intro p e s m args below meth c s₁ B hml hv
  obtain ⟨rfl, hP, hK⟩ := hv
  have hx := B.exec
  have hb := B.bytes
  have hr := B.returns
  have hts := atoms_spec (ws := wsX1_drops) B.pre
  have hown : s.vm.findClass RX1 = some m.cls := findClass_of_methodNamed B.named
  have hlocks := B.notSynchronized
  have hw0 : ∀ w ∈ wsX10, w ∈ wsX1_drops := fun _ h => List.mem_cons_of_mem _ (List.mem_append_right _ h)
  have hl := lv_entry ([.ref (ad 0)]) (n := 1) (Nat.le_of_ble_eq_true rfl)
  rw [lg_entry_eq]
  generalize (lg_sl ([.ref (ad 0)]) ++ List.replicate (1 - (lg_sl ([.ref (ad 0)])).length) Slot.unset).toArray = ls at hl ⊢
  have hl : lv_has ls 1 [(0, .ref (ad 0))] := hl
  refine lv_aload_n hx hb dX1_drops_0 rfl (lv_at hl 0 rfl) ?_
  refine va_get (D := (dC, dI)) (ci := 1) (v := .int cm) (C := RX1) (T := TX1) (N := 14) hx hb hts hw0 hown hK hP 0 rfl rfl 2 (by decide) (hts (.fieldLink RX1 56 "DropCodeModel" "came" "I") (by decide +kernel)) (fun _ h9 => h9) rfl dX1_drops_1 ?_
  exact W.iret (v := cm) hx hb hr (fun t ht hW => ⟨cm, rfl, rfl, ht⟩) (fun _ h9 => by cases h9) dX1_drops_4
set_option maxHeartbeats 4000000 in
set_option maxRecDepth 100000 in
theorem c_X1_count (l : Launch) (dC : Nat → ClassId) (dI : Nat → Nat → Nat) (ad : Nat → Nat) (cI cZ : ClassId) (K : Nat) (row : Nat → Int32) (cm : Int32) (sd : Nat → Int32) (vl : Nat → Int32) (wt : Nat → Int32) (tn : Int32) (kn : Nat → Int32) (tl : Nat → Int32) (od : Nat → Int32) (fd : Int32) (cl : Int32) (inn : Nat → Int32) (stt : Int32) : Met l yX1_count wsX1_count ({ frames := 0, cells := 0, slots := 0, locals := 0 }) (va_Pc [.ref (ad 0)] (rB dC dI [(cI, .int), (cZ, .boolean)] (rW ad cI cZ K row cm sd vl wt tn kn tl od fd cl inn stt))) (vp_Si (fun r => r = fd)) 0 0 (fun _ => False) := by
  refine Met.ofW (cc := cX1_count) (maxL := 1) (ret := (some .int)) (by decide) rfl ?_
  intro p e s m args below meth c s₁ B hml hv
  obtain ⟨rfl, hP, hK⟩ := hv
  have hx := B.exec
  have hb := B.bytes
  have hr := B.returns
  have hts := atoms_spec (ws := wsX1_count) B.pre
  have hown : s.vm.findClass RX1 = some m.cls := findClass_of_methodNamed B.named
  have hlocks := B.notSynchronized
  have hw0 : ∀ w ∈ wsX10, w ∈ wsX1_count := fun _ h => List.mem_cons_of_mem _ (List.mem_append_right _ h)
  have hl := lv_entry ([.ref (ad 0)]) (n := 1) (Nat.le_of_ble_eq_true rfl)
  rw [lg_entry_eq]
  generalize (lg_sl ([.ref (ad 0)]) ++ List.replicate (1 - (lg_sl ([.ref (ad 0)])).length) Slot.unset).toArray = ls at hl ⊢
  have hl : lv_has ls 1 [(0, .ref (ad 0))] := hl
  refine lv_aload_n hx hb dX1_count_0 rfl (lv_at hl 0 rfl) ?_
  refine va_get (D := (dC, dI)) (ci := 1) (v := .int fd) (C := RX1) (T := TX1) (N := 14) hx hb hts hw0 hown hK hP 0 rfl rfl 10 (by decide) (hts (.fieldLink RX1 62 "DropCodeModel" "found" "I") (by decide +kernel)) (fun _ h9 => h9) rfl dX1_count_1 ?_
  exact W.iret (v := fd) hx hb hr (fun t ht hW => ⟨fd, rfl, rfl, ht⟩) (fun _ h9 => by cases h9) dX1_count_4
set_option maxHeartbeats 4000000 in
set_option maxRecDepth 100000 in
theorem c_X1_clashes (l : Launch) (dC : Nat → ClassId) (dI : Nat → Nat → Nat) (ad : Nat → Nat) (cI cZ : ClassId) (K : Nat) (row : Nat → Int32) (cm : Int32) (sd : Nat → Int32) (vl : Nat → Int32) (wt : Nat → Int32) (tn : Int32) (kn : Nat → Int32) (tl : Nat → Int32) (od : Nat → Int32) (fd : Int32) (cl : Int32) (inn : Nat → Int32) (stt : Int32) : Met l yX1_clashes wsX1_clashes ({ frames := 0, cells := 0, slots := 0, locals := 0 }) (va_Pc [.ref (ad 0)] (rB dC dI [(cI, .int), (cZ, .boolean)] (rW ad cI cZ K row cm sd vl wt tn kn tl od fd cl inn stt))) (vp_Si (fun r => r = cl)) 0 0 (fun _ => False) := by
  refine Met.ofW (cc := cX1_clashes) (maxL := 1) (ret := (some .int)) (by decide) rfl ?_
  intro p e s m args below meth c s₁ B hml hv
  obtain ⟨rfl, hP, hK⟩ := hv
  have hx := B.exec
  have hb := B.bytes
  have hr := B.returns
  have hts := atoms_spec (ws := wsX1_clashes) B.pre
  have hown : s.vm.findClass RX1 = some m.cls := findClass_of_methodNamed B.named
  have hlocks := B.notSynchronized
  have hw0 : ∀ w ∈ wsX10, w ∈ wsX1_clashes := fun _ h => List.mem_cons_of_mem _ (List.mem_append_right _ h)
  have hl := lv_entry ([.ref (ad 0)]) (n := 1) (Nat.le_of_ble_eq_true rfl)
  rw [lg_entry_eq]
  generalize (lg_sl ([.ref (ad 0)]) ++ List.replicate (1 - (lg_sl ([.ref (ad 0)])).length) Slot.unset).toArray = ls at hl ⊢
  have hl : lv_has ls 1 [(0, .ref (ad 0))] := hl
  refine lv_aload_n hx hb dX1_clashes_0 rfl (lv_at hl 0 rfl) ?_
  refine va_get (D := (dC, dI)) (ci := 1) (v := .int cl) (C := RX1) (T := TX1) (N := 14) hx hb hts hw0 hown hK hP 0 rfl rfl 11 (by decide) (hts (.fieldLink RX1 72 "DropCodeModel" "clashes" "I") (by decide +kernel)) (fun _ h9 => h9) rfl dX1_clashes_1 ?_
  exact W.iret (v := cl) hx hb hr (fun t ht hW => ⟨cl, rfl, rfl, ht⟩) (fun _ h9 => by cases h9) dX1_clashes_4
set_option maxHeartbeats 4000000 in
set_option maxRecDepth 100000 in
theorem c_X1_put (l : Launch) (dC : Nat → ClassId) (dI : Nat → Nat → Nat) (sz : Nat) (ad : Nat → Nat) (cI cZ : ClassId) (K : Nat) (row : Nat → Int32) (cm : Int32) (sd : Nat → Int32) (vl : Nat → Int32) (wt : Nat → Int32) (tn : Int32) (kn : Nat → Int32) (tl : Nat → Int32) (od : Nat → Int32) (fd : Int32) (cl : Int32) (inn : Nat → Int32) (stt : Int32) (hK1 : 1 ≤ K) (hK2 : K ≤ 32) (i v : Int32) : Met l yX1_put wsX1_put ({ frames := 0, cells := 0, slots := 0, locals := 0 }) (va_Pc [.ref (ad 0), .int i, .int v] (wB dC dI [(cI, .int), (cZ, .boolean)] sz (rW ad cI cZ K row cm sd vl wt tn kn tl od fd cl inn stt))) (va_Qi (fun r (_ : Unit) => r = (if inR K i then 1 else -1)) (fun _ => oB dC dI [(cI, .int), (cZ, .boolean)] (va_A (rW ad cI cZ K row cm sd vl wt tn kn tl od fd cl inn stt) sz) (rW ad cI cZ K (ptF K row i v) cm sd vl wt tn kn tl od fd cl inn stt)) (va_A (rW ad cI cZ K row cm sd vl wt tn kn tl od fd cl inn stt) sz)) 0 0 (va_A (rW ad cI cZ K row cm sd vl wt tn kn tl od fd cl inn stt) sz) := by
  refine Met.ofW (cc := cX1_put) (maxL := 3) (ret := (some .int)) (by decide) rfl ?_
  intro p e s m args below meth c s₁ B hml hv
  obtain ⟨rfl, hsz, hP, hK, hD0⟩ := hv
  have hx := B.exec
  have hb := B.bytes
  have hr := B.returns
  have hts := atoms_spec (ws := wsX1_put) B.pre
  have hown : s.vm.findClass RX1 = some m.cls := findClass_of_methodNamed B.named
  have hlocks := B.notSynchronized
  have hw0 : ∀ w ∈ wsX10, w ∈ wsX1_put := fun _ h => List.mem_cons_of_mem _ (List.mem_append_right _ h)
  subst hsz
  have hD := hD0.self (sz := s.heap.size)
  generalize hAe : va_A (rW ad cI cZ K row cm sd vl wt tn kn tl od fd cl inn stt) s.heap.size = A at hD ⊢
  have hA : ∀ q : Nat, s.heap.size ≤ q → A q := fun q h => by rw [← hAe]; exact Or.inr h
  have hS : va_S A s.heap s.heap [] := va_S.rf
  have hP : va_P (dC, dI) vwCl (rW ad cI cZ K row cm sd vl wt tn kn tl od fd cl inn stt) s.heap := hP
  have hl := lv_entry ([.ref (ad 0), .int i, .int v]) (n := 3) (Nat.le_of_ble_eq_true rfl)
  rw [lg_entry_eq]
  generalize (lg_sl ([.ref (ad 0), .int i, .int v]) ++ List.replicate (3 - (lg_sl ([.ref (ad 0), .int i, .int v])).length) Slot.unset).toArray = ls at hl ⊢
  have hl : lv_has ls 3 [(0, .ref (ad 0)), (1, .int i), (2, .int v)] := hl
  refine lv_iload_n hx hb dX1_put_0 rfl (lv_at hl 1 rfl) ?_
  refine lv_if_lt (tgt := 12) hx hb dX1_put_1 (by decide) (fun c1 => ?_) (fun c1 => ?_)
  · skip
    rw [show ptF K row i v = row by rw [ptF, if_neg (fun q => inR_neg q c1)]]
    refine lv_iconst (v := (-1)) hx hb dX1_put_12 (by decide) ?_
    exact W.iret (v := (-1)) hx hb hr (fun t ht hW => ⟨⟨(-1), (), rfl, by rw [if_neg (fun q => inR_neg q c1)], by rw [ht]; exact hP, va_K.moved hW.alike hK, hD⟩, hS.F ht⟩) hS.2.2 dX1_put_13
  · skip
    refine lv_iload_n hx hb dX1_put_4 rfl (lv_at hl 1 rfl) ?_
    refine lv_aload_n hx hb dX1_put_5 rfl (lv_at hl 0 rfl) ?_
    refine va_get (D := (dC, dI)) (ci := 1) (v := .int (nI K)) (C := RX1) (T := TX1) (N := 14) hx hb hts hw0 hown hK hP 0 rfl rfl 0 (by decide) (hts (.fieldLink RX1 35 "DropCodeModel" "words" "I") (by decide +kernel)) (fun _ h9 => h9) rfl dX1_put_6 ?_
    refine lv_icmp_lt (tgt := 14) hx hb dX1_put_9 (by decide) (fun c2 => ?_) (fun c2 => ?_)
    · skip
      have h : inR K i := ⟨Int32.not_lt.mp c1, c2⟩
      obtain ⟨j, hj, rfl⟩ := inR_ix (by omega) h
      rw [show ptF K row (nI j) v = upd row j v by rw [ptF, if_pos h, nI_clamp (by omega)]]
      refine lv_aload_n hx hb dX1_put_14 rfl (lv_at hl 0 rfl) ?_
      refine va_get (D := (dC, dI)) (ci := 1) (v := .ref (ad 1)) (C := RX1) (T := TX1) (N := 14) hx hb hts hw0 hown hK hP 0 rfl rfl 1 (by decide) (hts (.fieldLink RX1 7 "DropCodeModel" "row" "[I") (by decide +kernel)) (fun _ h9 => h9) rfl dX1_put_15 ?_
      refine lv_iload_n hx hb dX1_put_18 rfl (lv_at hl 1 rfl) ?_
      refine lv_iload_n hx hb dX1_put_19 rfl (lv_at hl 2 rfl) ?_
      refine va_iast (i := nI j) hx hb hK hP hD hS 1 0 rfl rfl (vp_in_nI (by omega : j < 32) (by omega)) dX1_put_20 (fun H locs hP hD hS => ?_)
      rw [nI_clamp (by omega)] at hP hD
      have hP : va_P (dC, dI) vwCl (rW ad cI cZ K (upd row j v) cm sd vl wt tn kn tl od fd cl inn stt) H := hP
      have hD : va_D A (rW ad cI cZ K (upd row j v) cm sd vl wt tn kn tl od fd cl inn stt) := hD
      refine lv_iconst (v := 1) hx hb dX1_put_21 (by decide) ?_
      exact W.iret (v := 1) hx hb hr (fun t ht hW => ⟨⟨1, (), rfl, by rw [if_pos h], by rw [ht]; exact hP, va_K.moved hW.alike hK, hD⟩, hS.F ht⟩) hS.2.2 dX1_put_22
    · skip
      rw [show ptF K row i v = row by rw [ptF, if_neg (fun q => c2 q.2)]]
      refine lv_iconst (v := (-1)) hx hb dX1_put_12 (by decide) ?_
      exact W.iret (v := (-1)) hx hb hr (fun t ht hW => ⟨⟨(-1), (), rfl, by rw [if_neg (fun q => c2 q.2)], by rw [ht]; exact hP, va_K.moved hW.alike hK, hD⟩, hS.F ht⟩) hS.2.2 dX1_put_13
set_option maxHeartbeats 4000000 in
set_option maxRecDepth 100000 in
theorem c_X1_known (l : Launch) (dC : Nat → ClassId) (dI : Nat → Nat → Nat) (ad : Nat → Nat) (cI cZ : ClassId) (K : Nat) (row : Nat → Int32) (cm : Int32) (sd : Nat → Int32) (vl : Nat → Int32) (wt : Nat → Int32) (tn : Int32) (kn : Nat → Int32) (tl : Nat → Int32) (od : Nat → Int32) (fd : Int32) (cl : Int32) (inn : Nat → Int32) (stt : Int32) (hK1 : 1 ≤ K) (hK2 : K ≤ 32) (kb : Int32) (hkn : inF K kn kb) (i : Int32) : Met l yX1_known wsX1_known ({ frames := 0, cells := 0, slots := 0, locals := 0 }) (va_Pc [.ref (ad 0), .int i] (rB dC dI [(cI, .int), (cZ, .boolean)] (rW ad cI cZ K row cm sd vl wt tn kn tl od fd cl inn stt))) (vp_Si (fun r => r = knF K kb i)) 0 0 (fun _ => False) := by
  refine Met.ofW (cc := cX1_known) (maxL := 2) (ret := (some .int)) (by decide) rfl ?_
  intro p e s m args below meth c s₁ B hml hv
  obtain ⟨rfl, hP, hK⟩ := hv
  have hx := B.exec
  have hb := B.bytes
  have hr := B.returns
  have hts := atoms_spec (ws := wsX1_known) B.pre
  have hown : s.vm.findClass RX1 = some m.cls := findClass_of_methodNamed B.named
  have hlocks := B.notSynchronized
  have hw0 : ∀ w ∈ wsX10, w ∈ wsX1_known := fun _ h => List.mem_cons_of_mem _ (List.mem_append_right _ h)
  have hl := lv_entry ([.ref (ad 0), .int i]) (n := 2) (Nat.le_of_ble_eq_true rfl)
  rw [lg_entry_eq]
  generalize (lg_sl ([.ref (ad 0), .int i]) ++ List.replicate (2 - (lg_sl ([.ref (ad 0), .int i])).length) Slot.unset).toArray = ls at hl ⊢
  have hl : lv_has ls 2 [(0, .ref (ad 0)), (1, .int i)] := hl
  refine lv_iload_n hx hb dX1_known_0 rfl (lv_at hl 1 rfl) ?_
  refine lv_if_lt (tgt := 12) hx hb dX1_known_1 (by decide) (fun c1 => ?_) (fun c1 => ?_)
  · skip
    refine lv_iconst (v := (-1)) hx hb dX1_known_12 (by decide) ?_
    refine lv_goto (tgt := 30) hx hb dX1_known_13 (by decide) ?_
    exact W.iret (v := (-1)) hx hb hr (fun t ht hW => ⟨(-1), rfl, by show (-1 : Int32) = knF K kb i; rw [knF, if_neg (fun q => inR_neg q c1)], ht⟩) (fun _ h9 => by cases h9) dX1_known_30
  · skip
    refine lv_iload_n hx hb dX1_known_4 rfl (lv_at hl 1 rfl) ?_
    refine lv_aload_n hx hb dX1_known_5 rfl (lv_at hl 0 rfl) ?_
    refine va_get (D := (dC, dI)) (ci := 1) (v := .int (nI K)) (C := RX1) (T := TX1) (N := 14) hx hb hts hw0 hown hK hP 0 rfl rfl 0 (by decide) (hts (.fieldLink RX1 35 "DropCodeModel" "words" "I") (by decide +kernel)) (fun _ h9 => h9) rfl dX1_known_6 ?_
    refine lv_icmp_lt (tgt := 16) hx hb dX1_known_9 (by decide) (fun c2 => ?_) (fun c2 => ?_)
    · skip
      have h : inR K i := ⟨Int32.not_lt.mp c1, c2⟩
      obtain ⟨j, hj, rfl⟩ := inR_ix (by omega) h
      refine lv_aload_n hx hb dX1_known_16 rfl (lv_at hl 0 rfl) ?_
      refine va_get (D := (dC, dI)) (ci := 1) (v := .ref (ad 5)) (C := RX1) (T := TX1) (N := 14) hx hb hts hw0 hown hK hP 0 rfl rfl 7 (by decide) (hts (.fieldLink RX1 22 "DropCodeModel" "known" "[Z") (by decide +kernel)) (fun _ h9 => h9) rfl dX1_known_17 ?_
      refine lv_iload_n hx hb dX1_known_20 rfl (lv_at hl 1 rfl) ?_
      refine va_zald (i := nI j) hx hb hK hP 5 1 rfl rfl (vp_in_nI (by omega : j < 32) (by omega)) dX1_known_21 ?_
      rw [nI_clamp (by omega)]
      refine lv_topi (fun z_1 ez_1 => ?_)
      have ez_1 : z_1 = bI (bt kb j) := ez_1.trans (hkn j hj)
      subst ez_1
      cases hb9 : bt kb j with
      | false =>
        rw [bI_f]
        refine lv_if_eq (tgt := 29) hx hb dX1_known_22 (by decide) (fun c_2 => ?_) (fun c_2 => ?_)
        · skip
          refine lv_iconst (v := 0) hx hb dX1_known_29 (by decide) ?_
          exact W.iret (v := 0) hx hb hr (fun t ht hW => ⟨0, rfl, by show (0 : Int32) = knF K kb (nI j); rw [knF, if_pos h, nI_clamp (by omega), hb9]; rfl, ht⟩) (fun _ h9 => by cases h9) dX1_known_30
        · skip
          exact absurd rfl c_2
      | true =>
        rw [bI_t]
        refine lv_if_eq (tgt := 29) hx hb dX1_known_22 (by decide) (fun c_2 => ?_) (fun c_2 => ?_)
        · skip
          exact absurd c_2 (by decide)
        · skip
          refine lv_iconst (v := 1) hx hb dX1_known_25 (by decide) ?_
          refine lv_goto (tgt := 30) hx hb dX1_known_26 (by decide) ?_
          exact W.iret (v := 1) hx hb hr (fun t ht hW => ⟨1, rfl, by show (1 : Int32) = knF K kb (nI j); rw [knF, if_pos h, nI_clamp (by omega), hb9]; rfl, ht⟩) (fun _ h9 => by cases h9) dX1_known_30
    · skip
      refine lv_iconst (v := (-1)) hx hb dX1_known_12 (by decide) ?_
      refine lv_goto (tgt := 30) hx hb dX1_known_13 (by decide) ?_
      exact W.iret (v := (-1)) hx hb hr (fun t ht hW => ⟨(-1), rfl, by show (-1 : Int32) = knF K kb i; rw [knF, if_neg (fun q => c2 q.2)], ht⟩) (fun _ h9 => by cases h9) dX1_known_30
set_option maxHeartbeats 4000000 in
set_option maxRecDepth 100000 in
theorem c_X1_word (l : Launch) (dC : Nat → ClassId) (dI : Nat → Nat → Nat) (ad : Nat → Nat) (cI cZ : ClassId) (K : Nat) (row : Nat → Int32) (cm : Int32) (sd : Nat → Int32) (vl : Nat → Int32) (wt : Nat → Int32) (tn : Int32) (kn : Nat → Int32) (tl : Nat → Int32) (od : Nat → Int32) (fd : Int32) (cl : Int32) (inn : Nat → Int32) (stt : Int32) (hK1 : 1 ≤ K) (hK2 : K ≤ 32) (kb : Int32) (hkn : inF K kn kb) (i : Int32) : Met l yX1_word wsX1_word ({ frames := 0, cells := 0, slots := 0, locals := 0 }) (va_Pc [.ref (ad 0), .int i] (rB dC dI [(cI, .int), (cZ, .boolean)] (rW ad cI cZ K row cm sd vl wt tn kn tl od fd cl inn stt))) (vp_Si (fun r => r = wdF K kb tl i)) 0 0 (fun _ => False) := by
  refine Met.ofW (cc := cX1_word) (maxL := 2) (ret := (some .int)) (by decide) rfl ?_
  intro p e s m args below meth c s₁ B hml hv
  obtain ⟨rfl, hP, hK⟩ := hv
  have hx := B.exec
  have hb := B.bytes
  have hr := B.returns
  have hts := atoms_spec (ws := wsX1_word) B.pre
  have hown : s.vm.findClass RX1 = some m.cls := findClass_of_methodNamed B.named
  have hlocks := B.notSynchronized
  have hw0 : ∀ w ∈ wsX10, w ∈ wsX1_word := fun _ h => List.mem_cons_of_mem _ (List.mem_append_right _ h)
  have hl := lv_entry ([.ref (ad 0), .int i]) (n := 2) (Nat.le_of_ble_eq_true rfl)
  rw [lg_entry_eq]
  generalize (lg_sl ([.ref (ad 0), .int i]) ++ List.replicate (2 - (lg_sl ([.ref (ad 0), .int i])).length) Slot.unset).toArray = ls at hl ⊢
  have hl : lv_has ls 2 [(0, .ref (ad 0)), (1, .int i)] := hl
  refine lv_iload_n hx hb dX1_word_0 rfl (lv_at hl 1 rfl) ?_
  refine lv_if_lt (tgt := 21) hx hb dX1_word_1 (by decide) (fun c1 => ?_) (fun c1 => ?_)
  · skip
    refine lv_iconst (v := 0) hx hb dX1_word_21 (by decide) ?_
    refine lv_goto (tgt := 31) hx hb dX1_word_22 (by decide) ?_
    exact W.iret (v := 0) hx hb hr (fun t ht hW => ⟨0, rfl, by show (0 : Int32) = wdF K kb tl i; rw [wdF, if_neg (fun q9 => (fun q => inR_neg q c1) q9.1)], ht⟩) (fun _ h9 => by cases h9) dX1_word_31
  · skip
    refine lv_iload_n hx hb dX1_word_4 rfl (lv_at hl 1 rfl) ?_
    refine lv_aload_n hx hb dX1_word_5 rfl (lv_at hl 0 rfl) ?_
    refine va_get (D := (dC, dI)) (ci := 1) (v := .int (nI K)) (C := RX1) (T := TX1) (N := 14) hx hb hts hw0 hown hK hP 0 rfl rfl 0 (by decide) (hts (.fieldLink RX1 35 "DropCodeModel" "words" "I") (by decide +kernel)) (fun _ h9 => h9) rfl dX1_word_6 ?_
    refine lv_icmp_ge (tgt := 21) hx hb dX1_word_9 (by decide) (fun c2 => ?_) (fun c2 => ?_)
    · skip
      refine lv_iconst (v := 0) hx hb dX1_word_21 (by decide) ?_
      refine lv_goto (tgt := 31) hx hb dX1_word_22 (by decide) ?_
      exact W.iret (v := 0) hx hb hr (fun t ht hW => ⟨0, rfl, by show (0 : Int32) = wdF K kb tl i; rw [wdF, if_neg (fun q9 => (fun q => inR_ge q c2) q9.1)], ht⟩) (fun _ h9 => by cases h9) dX1_word_31
    · skip
      have h : inR K i := inR_of c1 c2
      obtain ⟨j, hj, rfl⟩ := inR_ix (by omega) h
      refine lv_aload_n hx hb dX1_word_12 rfl (lv_at hl 0 rfl) ?_
      refine va_get (D := (dC, dI)) (ci := 1) (v := .ref (ad 5)) (C := RX1) (T := TX1) (N := 14) hx hb hts hw0 hown hK hP 0 rfl rfl 7 (by decide) (hts (.fieldLink RX1 22 "DropCodeModel" "known" "[Z") (by decide +kernel)) (fun _ h9 => h9) rfl dX1_word_13 ?_
      refine lv_iload_n hx hb dX1_word_16 rfl (lv_at hl 1 rfl) ?_
      refine va_zald (i := nI j) hx hb hK hP 5 1 rfl rfl (vp_in_nI (by omega : j < 32) (by omega)) dX1_word_17 ?_
      rw [nI_clamp (by omega)]
      refine lv_topi (fun z_1 ez_1 => ?_)
      have ez_1 : z_1 = bI (bt kb j) := ez_1.trans (hkn j hj)
      subst ez_1
      cases hb9 : bt kb j with
      | false =>
        rw [bI_f]
        refine lv_if_ne (tgt := 25) hx hb dX1_word_18 (by decide) (fun c_2 => ?_) (fun c_2 => ?_)
        · skip
          exact absurd rfl c_2
        · skip
          refine lv_iconst (v := 0) hx hb dX1_word_21 (by decide) ?_
          refine lv_goto (tgt := 31) hx hb dX1_word_22 (by decide) ?_
          exact W.iret (v := 0) hx hb hr (fun t ht hW => ⟨0, rfl, by show (0 : Int32) = wdF K kb tl (nI j); rw [wdF, if_neg (by rw [nI_clamp (by omega), hb9]; exact fun q => Bool.false_ne_true q.2)], ht⟩) (fun _ h9 => by cases h9) dX1_word_31
      | true =>
        rw [bI_t]
        refine lv_if_ne (tgt := 25) hx hb dX1_word_18 (by decide) (fun c_2 => ?_) (fun c_2 => ?_)
        · skip
          refine lv_aload_n hx hb dX1_word_25 rfl (lv_at hl 0 rfl) ?_
          refine va_get (D := (dC, dI)) (ci := 1) (v := .ref (ad 6)) (C := RX1) (T := TX1) (N := 14) hx hb hts hw0 hown hK hP 0 rfl rfl 8 (by decide) (hts (.fieldLink RX1 26 "DropCodeModel" "told" "[I") (by decide +kernel)) (fun _ h9 => h9) rfl dX1_word_26 ?_
          refine lv_iload_n hx hb dX1_word_29 rfl (lv_at hl 1 rfl) ?_
          refine va_iald (i := nI j) hx hb hK hP 6 0 rfl rfl (vp_in_nI (by omega : j < 32) (by omega)) dX1_word_30 ?_
          rw [nI_clamp (by omega)]
          exact W.iret (v := tl j) hx hb hr (fun t ht hW => ⟨tl j, rfl, by show tl j = wdF K kb tl (nI j); rw [wdF, if_pos (by rw [nI_clamp (by omega)]; exact ⟨h, hb9⟩), nI_clamp (by omega)], ht⟩) (fun _ h9 => by cases h9) dX1_word_31
        · skip
          exact absurd c_2 (by decide)
set_option maxHeartbeats 4000000 in
set_option maxRecDepth 100000 in
theorem c_X1_order (l : Launch) (dC : Nat → ClassId) (dI : Nat → Nat → Nat) (ad : Nat → Nat) (cI cZ : ClassId) (K : Nat) (row : Nat → Int32) (cm : Int32) (sd : Nat → Int32) (vl : Nat → Int32) (wt : Nat → Int32) (tn : Int32) (kn : Nat → Int32) (tl : Nat → Int32) (od : Nat → Int32) (cl : Int32) (inn : Nat → Int32) (stt : Int32) (F : Nat) (hF : F ≤ 32) (i : Int32) : Met l yX1_order wsX1_order ({ frames := 0, cells := 0, slots := 0, locals := 0 }) (va_Pc [.ref (ad 0), .int i] (rB dC dI [(cI, .int), (cZ, .boolean)] (rW ad cI cZ K row cm sd vl wt tn kn tl od (nI F) cl inn stt))) (vp_Si (fun r => r = odF F od i)) 0 0 (fun _ => False) := by
  refine Met.ofW (cc := cX1_order) (maxL := 2) (ret := (some .int)) (by decide) rfl ?_
  intro p e s m args below meth c s₁ B hml hv
  obtain ⟨rfl, hP, hK⟩ := hv
  have hx := B.exec
  have hb := B.bytes
  have hr := B.returns
  have hts := atoms_spec (ws := wsX1_order) B.pre
  have hown : s.vm.findClass RX1 = some m.cls := findClass_of_methodNamed B.named
  have hlocks := B.notSynchronized
  have hw0 : ∀ w ∈ wsX10, w ∈ wsX1_order := fun _ h => List.mem_cons_of_mem _ (List.mem_append_right _ h)
  have hl := lv_entry ([.ref (ad 0), .int i]) (n := 2) (Nat.le_of_ble_eq_true rfl)
  rw [lg_entry_eq]
  generalize (lg_sl ([.ref (ad 0), .int i]) ++ List.replicate (2 - (lg_sl ([.ref (ad 0), .int i])).length) Slot.unset).toArray = ls at hl ⊢
  have hl : lv_has ls 2 [(0, .ref (ad 0)), (1, .int i)] := hl
  refine lv_iload_n hx hb dX1_order_0 rfl (lv_at hl 1 rfl) ?_
  refine lv_if_lt (tgt := 12) hx hb dX1_order_1 (by decide) (fun c1 => ?_) (fun c1 => ?_)
  · skip
    refine lv_iconst (v := (-1)) hx hb dX1_order_12 (by decide) ?_
    refine lv_goto (tgt := 22) hx hb dX1_order_13 (by decide) ?_
    exact W.iret (v := (-1)) hx hb hr (fun t ht hW => ⟨(-1), rfl, by show (-1 : Int32) = odF F od i; rw [odF, if_neg (fun q => inR_neg q c1)], ht⟩) (fun _ h9 => by cases h9) dX1_order_22
  · skip
    refine lv_iload_n hx hb dX1_order_4 rfl (lv_at hl 1 rfl) ?_
    refine lv_aload_n hx hb dX1_order_5 rfl (lv_at hl 0 rfl) ?_
    refine va_get (D := (dC, dI)) (ci := 1) (v := .int (nI F)) (C := RX1) (T := TX1) (N := 14) hx hb hts hw0 hown hK hP 0 rfl rfl 10 (by decide) (hts (.fieldLink RX1 62 "DropCodeModel" "found" "I") (by decide +kernel)) (fun _ h9 => h9) rfl dX1_order_6 ?_
    refine lv_icmp_lt (tgt := 16) hx hb dX1_order_9 (by decide) (fun c2 => ?_) (fun c2 => ?_)
    · skip
      have h : inR F i := ⟨Int32.not_lt.mp c1, c2⟩
      obtain ⟨j, hj, rfl⟩ := inR_ix (by omega) h
      refine lv_aload_n hx hb dX1_order_16 rfl (lv_at hl 0 rfl) ?_
      refine va_get (D := (dC, dI)) (ci := 1) (v := .ref (ad 7)) (C := RX1) (T := TX1) (N := 14) hx hb hts hw0 hown hK hP 0 rfl rfl 9 (by decide) (hts (.fieldLink RX1 29 "DropCodeModel" "order" "[I") (by decide +kernel)) (fun _ h9 => h9) rfl dX1_order_17 ?_
      refine lv_iload_n hx hb dX1_order_20 rfl (lv_at hl 1 rfl) ?_
      refine va_iald (i := nI j) hx hb hK hP 7 0 rfl rfl (vp_in_nI (by omega : j < 32) (by omega)) dX1_order_21 ?_
      rw [nI_clamp (by omega)]
      exact W.iret (v := od j) hx hb hr (fun t ht hW => ⟨od j, rfl, by show od j = odF F od (nI j); rw [odF, if_pos h, nI_clamp (by omega)], ht⟩) (fun _ h9 => by cases h9) dX1_order_22
    · skip
      refine lv_iconst (v := (-1)) hx hb dX1_order_12 (by decide) ?_
      refine lv_goto (tgt := 22) hx hb dX1_order_13 (by decide) ?_
      exact W.iret (v := (-1)) hx hb hr (fun t ht hW => ⟨(-1), rfl, by show (-1 : Int32) = odF F od i; rw [odF, if_neg (fun q => c2 q.2)], ht⟩) (fun _ h9 => by cases h9) dX1_order_22
set_option maxHeartbeats 4000000 in
set_option maxRecDepth 100000 in
theorem c_X1_open (l : Launch) (dC : Nat → ClassId) (dI : Nat → Nat → Nat) (sz : Nat) (ad : Nat → Nat) (cI cZ : ClassId) (K : Nat) (row : Nat → Int32) (sd : Nat → Int32) (vl : Nat → Int32) (wt : Nat → Int32) (tn : Int32) (kn : Nat → Int32) (tl : Nat → Int32) (od : Nat → Int32) (fd : Int32) (cl : Int32) (inn : Nat → Int32) (stt : Int32) (hK1 : 1 ≤ K) (hK2 : K ≤ 32) (n : Nat) (hn : n ≤ 60) (kb : Int32) (hkn : inF K kn kb) (i : Int32) : Met l yX1_open wsX1_open ({ frames := 3, cells := 0, slots := 0, locals := 70 }) (va_Pc [.ref (ad 0), .int i] (wB dC dI [(cI, .int), (cZ, .boolean)] sz (rW ad cI cZ K row (nI n) sd vl wt tn kn tl od fd cl inn stt))) (va_Qi (fun r (u : (Nat → Int32) × Int32) => r = opF n (fun k => setA K (sd k)) kb i) (fun u => oB dC dI [(cI, .int), (cZ, .boolean)] (va_A (rW ad cI cZ K row (nI n) sd vl wt tn kn tl od fd cl inn stt) sz) (rW ad cI cZ K row (nI n) sd vl wt tn kn tl od fd cl u.1 u.2)) (va_A (rW ad cI cZ K row (nI n) sd vl wt tn kn tl od fd cl inn stt) sz)) 0 0 (va_A (rW ad cI cZ K row (nI n) sd vl wt tn kn tl od fd cl inn stt) sz) := by
  refine Met.ofW (cc := cX1_open) (maxL := 2) (ret := (some .int)) (by decide) rfl ?_
  intro p e s m args below meth c s₁ B hml hv
  obtain ⟨rfl, hsz, hP, hK, hD0⟩ := hv
  have hx := B.exec
  have hb := B.bytes
  have hr := B.returns
  have hts := atoms_spec (ws := wsX1_open) B.pre
  have hown : s.vm.findClass RX1 = some m.cls := findClass_of_methodNamed B.named
  have hlocks := B.notSynchronized
  have hw0 : ∀ w ∈ wsX10, w ∈ wsX1_open := fun _ h => List.mem_cons_of_mem _ (List.mem_append_right _ h)
  subst hsz
  have hD := hD0.self (sz := s.heap.size)
  generalize hAe : va_A (rW ad cI cZ K row (nI n) sd vl wt tn kn tl od fd cl inn stt) s.heap.size = A at hD ⊢
  have hA : ∀ q : Nat, s.heap.size ≤ q → A q := fun q h => by rw [← hAe]; exact Or.inr h
  have hS : va_S A s.heap s.heap [] := va_S.rf
  have hP : va_P (dC, dI) vwCl (rW ad cI cZ K row (nI n) sd vl wt tn kn tl od fd cl inn stt) s.heap := hP
  have hl := lv_entry ([.ref (ad 0), .int i]) (n := 2) (Nat.le_of_ble_eq_true rfl)
  rw [lg_entry_eq]
  generalize (lg_sl ([.ref (ad 0), .int i]) ++ List.replicate (2 - (lg_sl ([.ref (ad 0), .int i])).length) Slot.unset).toArray = ls at hl ⊢
  have hl : lv_has ls 2 [(0, .ref (ad 0)), (1, .int i)] := hl
  refine lv_iload_n hx hb dX1_open_0 rfl (lv_at hl 1 rfl) ?_
  refine lv_if_lt (tgt := 12) hx hb dX1_open_1 (by decide) (fun c1 => ?_) (fun c1 => ?_)
  · skip
    refine lv_iconst (v := (-1)) hx hb dX1_open_12 (by decide) ?_
    refine lv_goto (tgt := 21) hx hb dX1_open_13 (by decide) ?_
    exact W.iret (v := (-1)) hx hb hr (fun t ht hW => ⟨⟨(-1), (inn, stt), rfl, by show (-1 : Int32) = opF n _ kb i; rw [opF, if_neg (fun q => inR_neg q c1)], by rw [ht]; exact hP, va_K.moved hW.alike hK, hD⟩, hS.F ht⟩) hS.2.2 dX1_open_21
  · skip
    refine lv_iload_n hx hb dX1_open_4 rfl (lv_at hl 1 rfl) ?_
    refine lv_aload_n hx hb dX1_open_5 rfl (lv_at hl 0 rfl) ?_
    refine va_get (D := (dC, dI)) (ci := 1) (v := .int (nI n)) (C := RX1) (T := TX1) (N := 14) hx hb hts hw0 hown hK hP 0 rfl rfl 2 (by decide) (hts (.fieldLink RX1 56 "DropCodeModel" "came" "I") (by decide +kernel)) (fun _ h9 => h9) rfl dX1_open_6 ?_
    refine lv_icmp_lt (tgt := 16) hx hb dX1_open_9 (by decide) (fun c2 => ?_) (fun c2 => ?_)
    · skip
      have h : inR n i := ⟨Int32.not_lt.mp c1, c2⟩
      obtain ⟨j, hj, rfl⟩ := inR_ix (by omega) h
      refine lv_aload_n hx hb dX1_open_16 rfl (lv_at hl 0 rfl) ?_
      refine lv_iload_n hx hb dX1_open_17 rfl (lv_at hl 1 rfl) ?_
      have hFc := va_free (wc := (rW ad cI cZ K row (nI n) sd vl wt tn kn tl od fd cl inn stt)) hD hS hA [0, 1, 2, 3, 4, 5, 6, 7, 8] rfl
      refine va_calli (va_runV (As := [.int (nI j)]) (rest := []) ⟨hx, hb, hml, hown, hts⟩ (c_X1_isOpen l dC dI s.heap.size ad cI cZ K row (nI n) sd vl wt tn kn tl od fd cl inn stt hK1 hK2 kb hkn j (by omega)) (cwV 1 hts gX1_open_X1_isOpen rfl rfl rfl (by decide +kernel) ⟨Nat.le_of_ble_eq_true rfl, Nat.le_of_ble_eq_true rfl⟩) ⟨wFb, va_recv hK hP (ci := 1) (q0 := 0) rfl rfl, fun U hU hW => ⟨rfl, by rw [hU], by rw [hU]; exact hP, va_K.moved hW.alike hK, hD.weaken (fun _ _ _ _ => trivial)⟩⟩ rfl rfl hl.1 rfl (lv_room (Nat.le_of_ble_eq_true rfl)) dX1_open_18 ⟨Nat.le_of_ble_eq_true rfl, Nat.le_of_ble_eq_true rfl⟩) hS (fun q _ h => hFc q h) hFc (fun r_1 u_2 t H1 locs ht hvm hwu_2 hB hz1 hk1 hS => ?_)
      obtain ⟨hP1, hK1, hD1⟩ := hB
      rw [ht] at hP1
      obtain ⟨hP, hD⟩ := va_join (wr := []) (w1 := (rW ad cI cZ K row (nI n) sd vl wt tn kn tl od fd cl u_2.1 u_2.2)) hP hD [0, 1, 2, 3, 4, 5, 6, 7, 8] [] rfl rfl (by decide) (by decide) hk1 hFc hP1 hD1
      clear hP1 hD1 hK1 hFc hk1 hz1
      generalize H1 = H at hP hS ⊢
      have hP : va_P (dC, dI) vwCl (rW ad cI cZ K row (nI n) sd vl wt tn kn tl od fd cl u_2.1 u_2.2) H := hP
      have hD : va_D A (rW ad cI cZ K row (nI n) sd vl wt tn kn tl od fd cl u_2.1 u_2.2) := hD
      obtain ⟨rfl, hinu_2⟩ := hwu_2
      exact W.iret (v := nI (opn (setA K (sd j)) kb)) hx hb hr (fun t ht hW => ⟨⟨nI (opn (setA K (sd j)) kb), u_2, rfl, by show nI _ = opF n _ kb (nI j); rw [opF, if_pos h, nI_clamp (by omega)], by rw [ht]; exact hP, va_K.moved hW.alike hK, hD⟩, hS.F ht⟩) hS.2.2 dX1_open_21
    · skip
      refine lv_iconst (v := (-1)) hx hb dX1_open_12 (by decide) ?_
      refine lv_goto (tgt := 21) hx hb dX1_open_13 (by decide) ?_
      exact W.iret (v := (-1)) hx hb hr (fun t ht hW => ⟨⟨(-1), (inn, stt), rfl, by show (-1 : Int32) = opF n _ kb i; rw [opF, if_neg (fun q => c2 q.2)], by rw [ht]; exact hP, va_K.moved hW.alike hK, hD⟩, hS.F ht⟩) hS.2.2 dX1_open_21
set_option maxHeartbeats 4000000 in
set_option maxRecDepth 100000 in
theorem c_X1_forget (l : Launch) (dC : Nat → ClassId) (dI : Nat → Nat → Nat) (sz : Nat) (ad : Nat → Nat) (cI cZ : ClassId) (K : Nat) (row : Nat → Int32) (cm : Int32) (sd : Nat → Int32) (vl : Nat → Int32) (wt : Nat → Int32) (tn : Int32) (kn : Nat → Int32) (tl : Nat → Int32) (od : Nat → Int32) (fd : Int32) (cl : Int32) (inn : Nat → Int32) (stt : Int32) (hK1 : 1 ≤ K) (hK2 : K ≤ 32) : Met l yX1_forget wsX1_forget ({ frames := 0, cells := 0, slots := 0, locals := 0 }) (va_Pc [.ref (ad 0)] (wB dC dI [(cI, .int), (cZ, .boolean)] sz (rW ad cI cZ K row cm sd vl wt tn kn tl od fd cl inn stt))) (va_Qi (fun r (u : Nat → Int32) => r = cm ∧ inF K u 0) (fun u => oB dC dI [(cI, .int), (cZ, .boolean)] (va_A (rW ad cI cZ K row cm sd vl wt tn kn tl od fd cl inn stt) sz) (rW ad cI cZ K row 0 sd vl wt tn u tl od 0 0 inn stt)) (va_A (rW ad cI cZ K row cm sd vl wt tn kn tl od fd cl inn stt) sz)) 0 0 (va_A (rW ad cI cZ K row cm sd vl wt tn kn tl od fd cl inn stt) sz) := by
  refine Met.ofW (cc := cX1_forget) (maxL := 3) (ret := (some .int)) (by decide) rfl ?_
  intro p e s m args below meth c s₁ B hml hv
  obtain ⟨rfl, hsz, hP, hK, hD0⟩ := hv
  have hx := B.exec
  have hb := B.bytes
  have hr := B.returns
  have hts := atoms_spec (ws := wsX1_forget) B.pre
  have hown : s.vm.findClass RX1 = some m.cls := findClass_of_methodNamed B.named
  have hlocks := B.notSynchronized
  have hw0 : ∀ w ∈ wsX10, w ∈ wsX1_forget := fun _ h => List.mem_cons_of_mem _ (List.mem_append_right _ h)
  subst hsz
  have hD := hD0.self (sz := s.heap.size)
  generalize hAe : va_A (rW ad cI cZ K row cm sd vl wt tn kn tl od fd cl inn stt) s.heap.size = A at hD ⊢
  have hA : ∀ q : Nat, s.heap.size ≤ q → A q := fun q h => by rw [← hAe]; exact Or.inr h
  have hS : va_S A s.heap s.heap [] := va_S.rf
  have hP : va_P (dC, dI) vwCl (rW ad cI cZ K row cm sd vl wt tn kn tl od fd cl inn stt) s.heap := hP
  have hl := lv_entry ([.ref (ad 0)]) (n := 3) (Nat.le_of_ble_eq_true rfl)
  rw [lg_entry_eq]
  generalize (lg_sl ([.ref (ad 0)]) ++ List.replicate (3 - (lg_sl ([.ref (ad 0)])).length) Slot.unset).toArray = ls at hl ⊢
  have hl : lv_has ls 3 [(0, .ref (ad 0))] := hl
  refine lv_aload_n hx hb dX1_forget_0 rfl (lv_at hl 0 rfl) ?_
  refine va_get (D := (dC, dI)) (ci := 1) (v := .int cm) (C := RX1) (T := TX1) (N := 14) hx hb hts hw0 hown hK hP 0 rfl rfl 2 (by decide) (hts (.fieldLink RX1 56 "DropCodeModel" "came" "I") (by decide +kernel)) (fun _ h9 => h9) rfl dX1_forget_1 ?_
  refine lv_istore_n (lv' := [(1, .int cm), (0, .ref (ad 0))]) hx hb dX1_forget_4 rfl hl (by decide) rfl (fun ls hl => ?_)
  refine lv_aload_n hx hb dX1_forget_5 rfl (lv_at hl 1 rfl) ?_
  refine lv_iconst (v := 0) hx hb dX1_forget_6 (by decide) ?_
  refine va_put (D := (dC, dI)) (ci := 1) (v := .int 0) (ty := .int) (C := RX1) (T := TX1) (N := 14) hx hb hts hw0 tyX1 tyX1_ok nmX1 hown hK hP hD hS 0 rfl rfl 2 (by decide) (hts (.fieldLink RX1 56 "DropCodeModel" "came" "I") (by decide +kernel)) (fun _ h9 => h9) rfl (by decide +kernel) rfl rfl (Nat.le_of_ble_eq_true rfl) dX1_forget_7 (fun H locs hP hD hS => ?_)
  have hP : va_P (dC, dI) vwCl (rW ad cI cZ K row 0 sd vl wt tn kn tl od fd cl inn stt) H := hP
  have hD : va_D A (rW ad cI cZ K row 0 sd vl wt tn kn tl od fd cl inn stt) := hD
  refine lv_aload_n hx hb dX1_forget_10 rfl (lv_at hl 1 rfl) ?_
  refine lv_iconst (v := 0) hx hb dX1_forget_11 (by decide) ?_
  refine va_put (D := (dC, dI)) (ci := 1) (v := .int 0) (ty := .int) (C := RX1) (T := TX1) (N := 14) hx hb hts hw0 tyX1 tyX1_ok nmX1 hown hK hP hD hS 0 rfl rfl 10 (by decide) (hts (.fieldLink RX1 62 "DropCodeModel" "found" "I") (by decide +kernel)) (fun _ h9 => h9) rfl (by decide +kernel) rfl rfl (Nat.le_of_ble_eq_true rfl) dX1_forget_12 (fun H locs hP hD hS => ?_)
  have hP : va_P (dC, dI) vwCl (rW ad cI cZ K row 0 sd vl wt tn kn tl od 0 cl inn stt) H := hP
  have hD : va_D A (rW ad cI cZ K row 0 sd vl wt tn kn tl od 0 cl inn stt) := hD
  refine lv_aload_n hx hb dX1_forget_15 rfl (lv_at hl 1 rfl) ?_
  refine lv_iconst (v := 0) hx hb dX1_forget_16 (by decide) ?_
  refine va_put (D := (dC, dI)) (ci := 1) (v := .int 0) (ty := .int) (C := RX1) (T := TX1) (N := 14) hx hb hts hw0 tyX1 tyX1_ok nmX1 hown hK hP hD hS 0 rfl rfl 11 (by decide) (hts (.fieldLink RX1 72 "DropCodeModel" "clashes" "I") (by decide +kernel)) (fun _ h9 => h9) rfl (by decide +kernel) rfl rfl (Nat.le_of_ble_eq_true rfl) dX1_forget_17 (fun H locs hP hD hS => ?_)
  have hP : va_P (dC, dI) vwCl (rW ad cI cZ K row 0 sd vl wt tn kn tl od 0 0 inn stt) H := hP
  have hD : va_D A (rW ad cI cZ K row 0 sd vl wt tn kn tl od 0 0 inn stt) := hD
  refine lv_iconst (v := 0) hx hb dX1_forget_20 (by decide) ?_
  refine lv_istore_n (lv' := [(2, .int 0), (1, .int cm), (0, .ref (ad 0))]) hx hb dX1_forget_21 rfl hl (by decide) rfl (fun ls hl => ?_)
  have key : ∀ (m9 i : Nat) (f : Nat → Int32) (H : Heap) (locs : List Loc) (ls : Array Slot), K = i + m9 → (∀ j, j < i → f j = 0) → va_P (dC, dI) vwCl (rW ad cI cZ K row 0 sd vl wt tn f tl od 0 0 inn stt) H → va_D A (rW ad cI cZ K row 0 sd vl wt tn f tl od 0 0 inn stt) → va_S A s.heap H locs → lv_has ls 3 [(2, .int (nI i)), (1, .int cm), (0, .ref (ad 0))] → W p l e (headSpec wsX1_forget ({ frames := 0, cells := 0, slots := 0, locals := 0 })).room s m ([.ref (ad 0)] : List Value).toArray below meth c H locs 0 0 (MQ below (va_Qi (fun r (u : Nat → Int32) => r = cm ∧ inF K u 0) (fun u => oB dC dI [(cI, .int), (cZ, .boolean)] A (rW ad cI cZ K row 0 sd vl wt tn u tl od 0 0 inn stt)) A) ([.ref (ad 0)] : List Value).toArray s 0 0 A) (F0 m 22 ls []) := by
    intro m9
    induction m9 with
    | zero =>
      intro i f H locs ls hi hf hP hD hS hl
      refine lv_iload_n hx hb dX1_forget_22 rfl (lv_at hl 0 rfl) ?_
      refine lv_aload_n hx hb dX1_forget_23 rfl (lv_at hl 2 rfl) ?_
      refine va_get (D := (dC, dI)) (ci := 1) (v := .int (nI K)) (C := RX1) (T := TX1) (N := 14) hx hb hts hw0 hown hK hP 0 rfl rfl 0 (by decide) (hts (.fieldLink RX1 35 "DropCodeModel" "words" "I") (by decide +kernel)) (fun _ h9 => h9) rfl dX1_forget_24 ?_
      refine lv_icmp_ge (tgt := 43) hx hb dX1_forget_27 (by decide) (fun c1 => ?_) (fun c1 => ?_)
      · skip
        refine lv_iload_n hx hb dX1_forget_43 rfl (lv_at hl 1 rfl) ?_
        exact W.iret (v := cm) hx hb hr (fun t ht hW => ⟨⟨cm, f, rfl, ⟨rfl, inF_0 (fun j hj => hf j (by omega))⟩, by rw [ht]; exact hP, va_K.moved hW.alike hK, hD⟩, hS.F ht⟩) hS.2.2 dX1_forget_44
      · skip
        exact absurd (nI_le (by omega) (by omega)) c1
    | succ m9 ih =>
      intro i f H locs ls hi hf hP hD hS hl
      have hiK : i < K := by omega
      refine lv_iload_n hx hb dX1_forget_22 rfl (lv_at hl 0 rfl) ?_
      refine lv_aload_n hx hb dX1_forget_23 rfl (lv_at hl 2 rfl) ?_
      refine va_get (D := (dC, dI)) (ci := 1) (v := .int (nI K)) (C := RX1) (T := TX1) (N := 14) hx hb hts hw0 hown hK hP 0 rfl rfl 0 (by decide) (hts (.fieldLink RX1 35 "DropCodeModel" "words" "I") (by decide +kernel)) (fun _ h9 => h9) rfl dX1_forget_24 ?_
      refine lv_icmp_ge (tgt := 43) hx hb dX1_forget_27 (by decide) (fun c1 => ?_) (fun c1 => ?_)
      · skip
        exact absurd c1 (nI_ge hiK (by omega))
      · skip
        refine lv_aload_n hx hb dX1_forget_30 rfl (lv_at hl 2 rfl) ?_
        refine va_get (D := (dC, dI)) (ci := 1) (v := .ref (ad 5)) (C := RX1) (T := TX1) (N := 14) hx hb hts hw0 hown hK hP 0 rfl rfl 7 (by decide) (hts (.fieldLink RX1 22 "DropCodeModel" "known" "[Z") (by decide +kernel)) (fun _ h9 => h9) rfl dX1_forget_31 ?_
        refine lv_iload_n hx hb dX1_forget_34 rfl (lv_at hl 0 rfl) ?_
        refine lv_iconst (v := 0) hx hb dX1_forget_35 (by decide) ?_
        refine va_zast (i := nI i) hx hb hK hP hD hS 5 1 rfl rfl (vp_in_nI (by omega : i < 32) (by omega)) dX1_forget_36 (fun H locs hP hD hS => ?_)
        rw [nI_clamp (by omega)] at hP hD
        have hP : va_P (dC, dI) vwCl (rW ad cI cZ K row 0 sd vl wt tn (upd f i (vp_nar .boolean 0)) tl od 0 0 inn stt) H := hP
        have hD : va_D A (rW ad cI cZ K row 0 sd vl wt tn (upd f i (vp_nar .boolean 0)) tl od 0 0 inn stt) := hD
        refine lv_iinc (v := nI (i + 1)) (lv' := [(2, .int (nI (i + 1))), (1, .int cm), (0, .ref (ad 0))]) hx hb dX1_forget_37 hl (k := 0) rfl (nI_1 i) (by decide) rfl (fun ls hl => ?_)
        refine lv_goto (tgt := 22) hx hb dX1_forget_40 (by decide) ?_
        exact ih (i + 1) _ _ _ ls (by omega) (clr_s hf) hP hD hS (lv_sub hl [0, 1, 2] rfl)
  exact key K 0 kn _ _ ls (by omega) (fun j hj => absurd hj (by omega)) hP hD hS (lv_sub hl [0, 1, 2] rfl)
set_option maxHeartbeats 4000000 in
set_option maxRecDepth 100000 in
theorem c_X1_await (l : Launch) (dC : Nat → ClassId) (dI : Nat → Nat → Nat) (sz : Nat) (ad : Nat → Nat) (cI cZ : ClassId) (K : Nat) (row : Nat → Int32) (cm : Int32) (sd : Nat → Int32) (vl : Nat → Int32) (wt : Nat → Int32) (kn : Nat → Int32) (tl : Nat → Int32) (od : Nat → Int32) (fd : Int32) (cl : Int32) (inn : Nat → Int32) (stt : Int32) (T : Nat) (j : Nat) (hj : j < 60) : Met l yX1_await wsX1_await ({ frames := 0, cells := 0, slots := 0, locals := 0 }) (va_Pc [.ref (ad 0), .int (nI j)] (wB dC dI [(cI, .int), (cZ, .boolean)] sz (rW ad cI cZ K row cm sd vl wt (nI T) kn tl od fd cl inn stt))) (va_Qv (fun (_ : Unit) => True) (fun _ => oB dC dI [(cI, .int), (cZ, .boolean)] (va_A (rW ad cI cZ K row cm sd vl wt (nI T) kn tl od fd cl inn stt) sz) (rW ad cI cZ K row cm sd vl (upd wt j (nI (T + 1))) (nI (T + 1)) kn tl od fd cl inn stt)) (va_A (rW ad cI cZ K row cm sd vl wt (nI T) kn tl od fd cl inn stt) sz)) 0 0 (va_A (rW ad cI cZ K row cm sd vl wt (nI T) kn tl od fd cl inn stt) sz) := by
  refine Met.ofW (cc := cX1_await) (maxL := 2) (ret := none) (by decide) rfl ?_
  intro p e s m args below meth c s₁ B hml hv
  obtain ⟨rfl, hsz, hP, hK, hD0⟩ := hv
  have hx := B.exec
  have hb := B.bytes
  have hr := B.returns
  have hts := atoms_spec (ws := wsX1_await) B.pre
  have hown : s.vm.findClass RX1 = some m.cls := findClass_of_methodNamed B.named
  have hlocks := B.notSynchronized
  have hw0 : ∀ w ∈ wsX10, w ∈ wsX1_await := fun _ h => List.mem_cons_of_mem _ (List.mem_append_right _ h)
  subst hsz
  have hD := hD0.self (sz := s.heap.size)
  generalize hAe : va_A (rW ad cI cZ K row cm sd vl wt (nI T) kn tl od fd cl inn stt) s.heap.size = A at hD ⊢
  have hA : ∀ q : Nat, s.heap.size ≤ q → A q := fun q h => by rw [← hAe]; exact Or.inr h
  have hS : va_S A s.heap s.heap [] := va_S.rf
  have hP : va_P (dC, dI) vwCl (rW ad cI cZ K row cm sd vl wt (nI T) kn tl od fd cl inn stt) s.heap := hP
  have hl := lv_entry ([.ref (ad 0), .int (nI j)]) (n := 2) (Nat.le_of_ble_eq_true rfl)
  rw [lg_entry_eq]
  generalize (lg_sl ([.ref (ad 0), .int (nI j)]) ++ List.replicate (2 - (lg_sl ([.ref (ad 0), .int (nI j)])).length) Slot.unset).toArray = ls at hl ⊢
  have hl : lv_has ls 2 [(0, .ref (ad 0)), (1, .int (nI j))] := hl
  refine lv_aload_n hx hb dX1_await_0 rfl (lv_at hl 0 rfl) ?_
  refine lv_dup hx hb dX1_await_1 rfl ?_
  refine va_get (D := (dC, dI)) (ci := 1) (v := .int (nI T)) (C := RX1) (T := TX1) (N := 14) hx hb hts hw0 hown hK hP 0 rfl rfl 6 (by decide) (hts (.fieldLink RX1 53 "DropCodeModel" "turns" "I") (by decide +kernel)) (fun _ h9 => h9) rfl dX1_await_2 ?_
  refine lv_iconst (v := 1) hx hb dX1_await_5 (by decide) ?_
  refine lv_iadd hx hb dX1_await_6 ?_
  refine lv_topi (fun z_1 ez_1 => ?_)
  have ez_1 : z_1 = nI (T + 1) := ez_1.trans (nI_1 T)
  subst ez_1
  refine va_put (D := (dC, dI)) (ci := 1) (v := .int (nI (T + 1))) (ty := .int) (C := RX1) (T := TX1) (N := 14) hx hb hts hw0 tyX1 tyX1_ok nmX1 hown hK hP hD hS 0 rfl rfl 6 (by decide) (hts (.fieldLink RX1 53 "DropCodeModel" "turns" "I") (by decide +kernel)) (fun _ h9 => h9) rfl (by decide +kernel) rfl rfl (Nat.le_of_ble_eq_true rfl) dX1_await_7 (fun H locs hP hD hS => ?_)
  have hP : va_P (dC, dI) vwCl (rW ad cI cZ K row cm sd vl wt (nI (T + 1)) kn tl od fd cl inn stt) H := hP
  have hD : va_D A (rW ad cI cZ K row cm sd vl wt (nI (T + 1)) kn tl od fd cl inn stt) := hD
  refine lv_aload_n hx hb dX1_await_10 rfl (lv_at hl 0 rfl) ?_
  refine va_get (D := (dC, dI)) (ci := 1) (v := .ref (ad 4)) (C := RX1) (T := TX1) (N := 14) hx hb hts hw0 hown hK hP 0 rfl rfl 5 (by decide) (hts (.fieldLink RX1 19 "DropCodeModel" "waits" "[I") (by decide +kernel)) (fun _ h9 => h9) rfl dX1_await_11 ?_
  refine lv_iload_n hx hb dX1_await_14 rfl (lv_at hl 1 rfl) ?_
  refine lv_aload_n hx hb dX1_await_15 rfl (lv_at hl 0 rfl) ?_
  refine va_get (D := (dC, dI)) (ci := 1) (v := .int (nI (T + 1))) (C := RX1) (T := TX1) (N := 14) hx hb hts hw0 hown hK hP 0 rfl rfl 6 (by decide) (hts (.fieldLink RX1 53 "DropCodeModel" "turns" "I") (by decide +kernel)) (fun _ h9 => h9) rfl dX1_await_16 ?_
  refine va_iast (i := nI j) hx hb hK hP hD hS 4 0 rfl rfl (vp_in_nI hj (by omega)) dX1_await_19 (fun H locs hP hD hS => ?_)
  rw [nI_clamp (by omega)] at hP hD
  have hP : va_P (dC, dI) vwCl (rW ad cI cZ K row cm sd vl (upd wt j (nI (T + 1))) (nI (T + 1)) kn tl od fd cl inn stt) H := hP
  have hD : va_D A (rW ad cI cZ K row cm sd vl (upd wt j (nI (T + 1))) (nI (T + 1)) kn tl od fd cl inn stt) := hD
  exact W.vret hx hb hr (fun t ht hW => ⟨⟨(), rfl, trivial, by rw [ht]; exact hP, va_K.moved hW.alike hK, hD⟩, hS.F ht⟩) hS.2.2 dX1_await_20
set_option maxHeartbeats 4000000 in
set_option maxRecDepth 100000 in
theorem c_X1_first (l : Launch) (dC : Nat → ClassId) (dI : Nat → Nat → Nat) (ad : Nat → Nat) (cI cZ : ClassId) (K : Nat) (row : Nat → Int32) (sd : Nat → Int32) (vl : Nat → Int32) (wt : Nat → Int32) (tn : Int32) (kn : Nat → Int32) (tl : Nat → Int32) (od : Nat → Int32) (fd : Int32) (cl : Int32) (inn : Nat → Int32) (stt : Int32) (n : Nat) (hn : n ≤ 60) : Met l yX1_first wsX1_first ({ frames := 0, cells := 0, slots := 0, locals := 0 }) (va_Pc [.ref (ad 0)] (rB dC dI [(cI, .int), (cZ, .boolean)] (rW ad cI cZ K row (nI n) sd vl wt tn kn tl od fd cl inn stt))) (vp_Si (fun r => fsP n wt r)) 0 0 (fun _ => False) := by
  refine Met.ofW (cc := cX1_first) (maxL := 3) (ret := (some .int)) (by decide) rfl ?_
  intro p e s m args below meth c s₁ B hml hv
  obtain ⟨rfl, hP, hK⟩ := hv
  have hx := B.exec
  have hb := B.bytes
  have hr := B.returns
  have hts := atoms_spec (ws := wsX1_first) B.pre
  have hown : s.vm.findClass RX1 = some m.cls := findClass_of_methodNamed B.named
  have hlocks := B.notSynchronized
  have hw0 : ∀ w ∈ wsX10, w ∈ wsX1_first := fun _ h => List.mem_cons_of_mem _ (List.mem_append_right _ h)
  have hl := lv_entry ([.ref (ad 0)]) (n := 3) (Nat.le_of_ble_eq_true rfl)
  rw [lg_entry_eq]
  generalize (lg_sl ([.ref (ad 0)]) ++ List.replicate (3 - (lg_sl ([.ref (ad 0)])).length) Slot.unset).toArray = ls at hl ⊢
  have hl : lv_has ls 3 [(0, .ref (ad 0))] := hl
  refine lv_iconst (v := (-1)) hx hb dX1_first_0 (by decide) ?_
  refine lv_istore_n (lv' := [(1, .int (-1)), (0, .ref (ad 0))]) hx hb dX1_first_1 rfl hl (by decide) rfl (fun ls hl => ?_)
  refine lv_iconst (v := 0) hx hb dX1_first_2 (by decide) ?_
  refine lv_istore_n (lv' := [(2, .int 0), (1, .int (-1)), (0, .ref (ad 0))]) hx hb dX1_first_3 rfl hl (by decide) rfl (fun ls hl => ?_)
  have key : ∀ (m9 k : Nat) (x : Int32) (ls : Array Slot), n = k + m9 → fsP k wt x → lv_has ls 3 [(2, .int (nI k)), (1, .int x), (0, .ref (ad 0))] → W p l e (headSpec wsX1_first ({ frames := 0, cells := 0, slots := 0, locals := 0 })).room s m ([.ref (ad 0)] : List Value).toArray below meth c s.heap [] 0 0 (MQ below (vp_Si (fun r => fsP n wt r)) ([.ref (ad 0)] : List Value).toArray s 0 0 (fun _ => False)) (F0 m 4 ls []) := by
    intro m9
    induction m9 with
    | zero =>
      intro k x ls hk hx9 hl
      have hkn : n = k := by omega
      refine lv_iload_n hx hb dX1_first_4 rfl (lv_at hl 0 rfl) ?_
      refine lv_aload_n hx hb dX1_first_5 rfl (lv_at hl 2 rfl) ?_
      refine va_get (D := (dC, dI)) (ci := 1) (v := .int (nI n)) (C := RX1) (T := TX1) (N := 14) hx hb hts hw0 hown hK hP 0 rfl rfl 2 (by decide) (hts (.fieldLink RX1 56 "DropCodeModel" "came" "I") (by decide +kernel)) (fun _ h9 => h9) rfl dX1_first_6 ?_
      refine lv_icmp_ge (tgt := 53) hx hb dX1_first_9 (by decide) (fun c1 => ?_) (fun c1 => ?_)
      · skip
        refine lv_iload_n hx hb dX1_first_53 rfl (lv_at hl 1 rfl) ?_
        exact W.iret (v := x) hx hb hr (fun t ht hW => ⟨x, rfl, by rw [hkn]; exact hx9, ht⟩) (fun _ h9 => by cases h9) dX1_first_54
      · skip
        exact absurd (nI_le (by omega) (by omega)) c1
    | succ m9 ih =>
      intro k x ls hk hx9 hl
      have hkn : k < n := by omega
      have hk60 : k < 60 := by omega
      refine lv_iload_n hx hb dX1_first_4 rfl (lv_at hl 0 rfl) ?_
      refine lv_aload_n hx hb dX1_first_5 rfl (lv_at hl 2 rfl) ?_
      refine va_get (D := (dC, dI)) (ci := 1) (v := .int (nI n)) (C := RX1) (T := TX1) (N := 14) hx hb hts hw0 hown hK hP 0 rfl rfl 2 (by decide) (hts (.fieldLink RX1 56 "DropCodeModel" "came" "I") (by decide +kernel)) (fun _ h9 => h9) rfl dX1_first_6 ?_
      refine lv_icmp_ge (tgt := 53) hx hb dX1_first_9 (by decide) (fun c1 => ?_) (fun c1 => ?_)
      · skip
        exact absurd c1 (nI_ge hkn (by omega))
      · skip
        refine lv_aload_n hx hb dX1_first_12 rfl (lv_at hl 2 rfl) ?_
        refine va_get (D := (dC, dI)) (ci := 1) (v := .ref (ad 4)) (C := RX1) (T := TX1) (N := 14) hx hb hts hw0 hown hK hP 0 rfl rfl 5 (by decide) (hts (.fieldLink RX1 19 "DropCodeModel" "waits" "[I") (by decide +kernel)) (fun _ h9 => h9) rfl dX1_first_13 ?_
        refine lv_iload_n hx hb dX1_first_16 rfl (lv_at hl 0 rfl) ?_
        refine va_iald (i := nI k) hx hb hK hP 4 0 rfl rfl (vp_in_nI hk60 (by omega)) dX1_first_17 ?_
        rw [nI_clamp (by omega)]
        refine lv_if_le (tgt := 45) hx hb dX1_first_18 (by decide) (fun c2 => ?_) (fun c2 => ?_)
        · skip
          refine lv_iload_n hx hb dX1_first_45 rfl (lv_at hl 1 rfl) ?_
          refine lv_istore_n (lv' := [(1, .int x), (2, .int (nI k)), (0, .ref (ad 0))]) hx hb dX1_first_46 rfl hl (by decide) rfl (fun ls hl => ?_)
          refine lv_iinc (v := nI (k + 1)) (lv' := [(2, .int (nI (k + 1))), (1, .int x), (0, .ref (ad 0))]) hx hb dX1_first_47 hl (k := 1) rfl (nI_1 k) (by decide) rfl (fun ls hl => ?_)
          refine lv_goto (tgt := 4) hx hb dX1_first_50 (by decide) ?_
          exact ih (k + 1) x ls (by omega) (fs_skip hx9 (Int32.not_lt.mpr c2)) (lv_sub hl [0, 1, 2] rfl)
        · skip
          have hp9 : 0 < wt k := Int32.not_le.mp c2
          refine lv_iload_n hx hb dX1_first_21 rfl (lv_at hl 1 rfl) ?_
          refine lv_iconst (v := (-1)) hx hb dX1_first_22 (by decide) ?_
          refine lv_icmp_eq (tgt := 41) hx hb dX1_first_23 (by decide) (fun c3 => ?_) (fun c3 => ?_)
          · skip
            refine lv_iload_n hx hb dX1_first_41 rfl (lv_at hl 0 rfl) ?_
            refine lv_goto (tgt := 46) hx hb dX1_first_42 (by decide) ?_
            refine lv_istore_n (lv' := [(1, .int (nI k)), (2, .int (nI k)), (0, .ref (ad 0))]) hx hb dX1_first_46 rfl hl (by decide) rfl (fun ls hl => ?_)
            refine lv_iinc (v := nI (k + 1)) (lv' := [(2, .int (nI (k + 1))), (1, .int (nI k)), (0, .ref (ad 0))]) hx hb dX1_first_47 hl (k := 1) rfl (nI_1 k) (by decide) rfl (fun ls hl => ?_)
            refine lv_goto (tgt := 4) hx hb dX1_first_50 (by decide) ?_
            exact ih (k + 1) (nI k) ls (by omega) (fs_new hx9 c3 hp9) (lv_sub hl [0, 1, 2] rfl)
          · skip
            obtain ⟨j, hj, rfl, hp, hm⟩ := fs_get hx9 c3
            refine lv_aload_n hx hb dX1_first_26 rfl (lv_at hl 2 rfl) ?_
            refine va_get (D := (dC, dI)) (ci := 1) (v := .ref (ad 4)) (C := RX1) (T := TX1) (N := 14) hx hb hts hw0 hown hK hP 0 rfl rfl 5 (by decide) (hts (.fieldLink RX1 19 "DropCodeModel" "waits" "[I") (by decide +kernel)) (fun _ h9 => h9) rfl dX1_first_27 ?_
            refine lv_iload_n hx hb dX1_first_30 rfl (lv_at hl 0 rfl) ?_
            refine va_iald (i := nI k) hx hb hK hP 4 0 rfl rfl (vp_in_nI hk60 (by omega)) dX1_first_31 ?_
            rw [nI_clamp (by omega)]
            refine lv_aload_n hx hb dX1_first_32 rfl (lv_at hl 2 rfl) ?_
            refine va_get (D := (dC, dI)) (ci := 1) (v := .ref (ad 4)) (C := RX1) (T := TX1) (N := 14) hx hb hts hw0 hown hK hP 0 rfl rfl 5 (by decide) (hts (.fieldLink RX1 19 "DropCodeModel" "waits" "[I") (by decide +kernel)) (fun _ h9 => h9) rfl dX1_first_33 ?_
            refine lv_iload_n hx hb dX1_first_36 rfl (lv_at hl 1 rfl) ?_
            refine va_iald (i := nI j) hx hb hK hP 4 0 rfl rfl (vp_in_nI (by omega : j < 60) (by omega)) dX1_first_37 ?_
            rw [nI_clamp (by omega)]
            refine lv_icmp_ge (tgt := 45) hx hb dX1_first_38 (by decide) (fun c4 => ?_) (fun c4 => ?_)
            · skip
              refine lv_iload_n hx hb dX1_first_45 rfl (lv_at hl 1 rfl) ?_
              refine lv_istore_n (lv' := [(1, .int (nI j)), (2, .int (nI k)), (0, .ref (ad 0))]) hx hb dX1_first_46 rfl hl (by decide) rfl (fun ls hl => ?_)
              refine lv_iinc (v := nI (k + 1)) (lv' := [(2, .int (nI (k + 1))), (1, .int (nI j)), (0, .ref (ad 0))]) hx hb dX1_first_47 hl (k := 1) rfl (nI_1 k) (by decide) rfl (fun ls hl => ?_)
              refine lv_goto (tgt := 4) hx hb dX1_first_50 (by decide) ?_
              exact ih (k + 1) (nI j) ls (by omega) (fs_keep hj hp hm c4) (lv_sub hl [0, 1, 2] rfl)
            · skip
              refine lv_iload_n hx hb dX1_first_41 rfl (lv_at hl 0 rfl) ?_
              refine lv_goto (tgt := 46) hx hb dX1_first_42 (by decide) ?_
              refine lv_istore_n (lv' := [(1, .int (nI k)), (2, .int (nI k)), (0, .ref (ad 0))]) hx hb dX1_first_46 rfl hl (by decide) rfl (fun ls hl => ?_)
              refine lv_iinc (v := nI (k + 1)) (lv' := [(2, .int (nI (k + 1))), (1, .int (nI k)), (0, .ref (ad 0))]) hx hb dX1_first_47 hl (k := 1) rfl (nI_1 k) (by decide) rfl (fun ls hl => ?_)
              refine lv_goto (tgt := 4) hx hb dX1_first_50 (by decide) ?_
              exact ih (k + 1) (nI k) ls (by omega) (fs_take hm hp9 (Int32.not_le.mp c4)) (lv_sub hl [0, 1, 2] rfl)
  exact key n 0 (-1) ls (by omega) (Or.inl ⟨rfl, fun k hk => absurd hk (by omega)⟩) (lv_sub hl [0, 1, 2] rfl)
end
section
theorem aw_no {wt : Nat → Int32} {T : Nat} {P : Nat → Bool} {k : Nat} (h : P k = false) : awA wt T P (k + 1) = awA wt T P k := by rw [awA, if_neg (by rw [h]; exact Bool.false_ne_true)]
theorem aw_yes {wt : Nat → Int32} {T : Nat} {P : Nat → Bool} {k : Nat} (h : P k = true) : awA wt T P (k + 1) = upd (awA wt T P k) k (nI (T + cn P k + 1)) := by rw [awA, if_pos h]
set_option maxHeartbeats 4000000 in
set_option maxRecDepth 100000 in
theorem c_X1_learn (l : Launch) (dC : Nat → ClassId) (dI : Nat → Nat → Nat) (sz : Nat) (ad : Nat → Nat) (cI cZ : ClassId) (K : Nat) (row : Nat → Int32) (sd : Nat → Int32) (vl : Nat → Int32) (wt : Nat → Int32) (kn : Nat → Int32) (tl : Nat → Int32) (od : Nat → Int32) (cl : Int32) (inn : Nat → Int32) (stt : Int32) (hK1 : 1 ≤ K) (hK2 : K ≤ 32) (n : Nat) (hn : n ≤ 60) (T F : Nat) (hF : F < 32) (kb : Int32) (hkn : inF K kn kb) (S : Nat → Int32) (hSd : ∀ k, k < n → S k = setA K (sd k)) (j : Nat) (hj : j < n) (i : Nat) (hi : i < K) (e1 : unk (S j) kb = tw i) (e2 : bt (S j) i = true) (e3 : bt kb i = false) (hnc : ∀ k, k < n → bt (S k) i = true → opn (S k) (kb ||| tw i) = 0 → wt k = 0 → vl k ^^^ xk K (upd tl i (vl j ^^^ xk K tl (S j) kb)) (S k) (kb ||| tw i) = 0) : Met l yX1_learn wsX1_learn ({ frames := 3, cells := 0, slots := 0, locals := 70 }) (va_Pc [.ref (ad 0), .int (nI j)] (wB dC dI [(cI, .int), (cZ, .boolean)] sz (rW ad cI cZ K row (nI n) sd vl wt (nI T) kn tl od (nI F) cl inn stt))) (va_Qv (fun (u : (Nat → Int32) × Int32) => True) (fun u => oB dC dI [(cI, .int), (cZ, .boolean)] (va_A (rW ad cI cZ K row (nI n) sd vl wt (nI T) kn tl od (nI F) cl inn stt) sz) (rW ad cI cZ K row (nI n) sd vl (awA wt T (eqP i S (kb ||| tw i)) n) (nI (T + cn (eqP i S (kb ||| tw i)) n)) (upd kn i (vp_nar .boolean 1)) (upd tl i (vl j ^^^ xk K tl (S j) kb)) (upd od F (nI i)) (nI (F + 1)) cl u.1 u.2)) (va_A (rW ad cI cZ K row (nI n) sd vl wt (nI T) kn tl od (nI F) cl inn stt) sz)) 0 0 (va_A (rW ad cI cZ K row (nI n) sd vl wt (nI T) kn tl od (nI F) cl inn stt) sz) := by
  refine Met.ofW (cc := cX1_learn) (maxL := 7) (ret := none) (by decide) rfl ?_
  intro p e s m args below meth c s₁ B hml hv
  obtain ⟨rfl, hsz, hP, hK, hD0⟩ := hv
  have hx := B.exec
  have hb := B.bytes
  have hr := B.returns
  have hts := atoms_spec (ws := wsX1_learn) B.pre
  have hown : s.vm.findClass RX1 = some m.cls := findClass_of_methodNamed B.named
  have hlocks := B.notSynchronized
  have hw0 : ∀ w ∈ wsX10, w ∈ wsX1_learn := fun _ h => List.mem_cons_of_mem _ (List.mem_append_right _ h)
  subst hsz
  have hD := hD0.self (sz := s.heap.size)
  generalize hAe : va_A (rW ad cI cZ K row (nI n) sd vl wt (nI T) kn tl od (nI F) cl inn stt) s.heap.size = A at hD ⊢
  have hA : ∀ q : Nat, s.heap.size ≤ q → A q := fun q h => by rw [← hAe]; exact Or.inr h
  have hS : va_S A s.heap s.heap [] := va_S.rf
  have hP : va_P (dC, dI) vwCl (rW ad cI cZ K row (nI n) sd vl wt (nI T) kn tl od (nI F) cl inn stt) s.heap := hP
  have hl := lv_entry ([.ref (ad 0), .int (nI j)]) (n := 7) (Nat.le_of_ble_eq_true rfl)
  rw [lg_entry_eq]
  generalize (lg_sl ([.ref (ad 0), .int (nI j)]) ++ List.replicate (7 - (lg_sl ([.ref (ad 0), .int (nI j)])).length) Slot.unset).toArray = ls at hl ⊢
  have hl : lv_has ls 7 [(0, .ref (ad 0)), (1, .int (nI j))] := hl
  have hSj := hSd j hj
  refine lv_aload_n hx hb dX1_learn_0 rfl (lv_at hl 0 rfl) ?_
  refine lv_iload_n hx hb dX1_learn_1 rfl (lv_at hl 1 rfl) ?_
  have hFc := va_free (wc := (rW ad cI cZ K row (nI n) sd vl wt (nI T) kn tl od (nI F) cl inn stt)) hD hS hA [0, 1, 2, 3, 4, 5, 6, 7, 8] rfl
  refine va_calli (va_runV (As := [.int (nI j)]) (rest := []) ⟨hx, hb, hml, hown, hts⟩ (c_X1_off l dC dI s.heap.size ad cI cZ K row (nI n) sd vl wt (nI T) kn tl od (nI F) cl inn stt hK1 hK2 kb hkn j (by omega)) (cwV 1 hts gX1_learn_X1_off rfl rfl rfl (by decide +kernel) ⟨Nat.le_of_ble_eq_true rfl, Nat.le_of_ble_eq_true rfl⟩) ⟨wFb, va_recv hK hP (ci := 1) (q0 := 0) rfl rfl, fun U hU hW => ⟨rfl, by rw [hU], by rw [hU]; exact hP, va_K.moved hW.alike hK, hD.weaken (fun _ _ _ _ => trivial)⟩⟩ rfl rfl hl.1 rfl (lv_room (Nat.le_of_ble_eq_true rfl)) dX1_learn_2 ⟨Nat.le_of_ble_eq_true rfl, Nat.le_of_ble_eq_true rfl⟩) hS (fun q _ h => hFc q h) hFc (fun r_1 u_2 t H1 locs ht hvm hwu_2 hB hz1 hk1 hS => ?_)
  obtain ⟨hP1, hK1, hD1⟩ := hB
  rw [ht] at hP1
  obtain ⟨hP, hD⟩ := va_join (wr := []) (w1 := (rW ad cI cZ K row (nI n) sd vl wt (nI T) kn tl od (nI F) cl u_2.1 u_2.2)) hP hD [0, 1, 2, 3, 4, 5, 6, 7, 8] [] rfl rfl (by decide) (by decide) hk1 hFc hP1 hD1
  clear hP1 hD1 hK1 hFc hk1 hz1
  generalize H1 = H at hP hS ⊢
  have hP : va_P (dC, dI) vwCl (rW ad cI cZ K row (nI n) sd vl wt (nI T) kn tl od (nI F) cl u_2.1 u_2.2) H := hP
  have hD : va_D A (rW ad cI cZ K row (nI n) sd vl wt (nI T) kn tl od (nI F) cl u_2.1 u_2.2) := hD
  obtain ⟨rfl, hinu_2⟩ := hwu_2
  refine lv_topi (fun z_3 ez_3 => ?_)
  have ez_3 : z_3 = vl j ^^^ xk K tl (S j) kb := ez_3.trans (by rw [hSj])
  subst ez_3
  refine lv_istore_n (lv' := [(2, .int (vl j ^^^ xk K tl (S j) kb)), (0, .ref (ad 0)), (1, .int (nI j))]) hx hb dX1_learn_5 rfl hl (by decide) rfl (fun ls hl => ?_)
  refine lv_aload_n hx hb dX1_learn_6 rfl (lv_at hl 1 rfl) ?_
  refine lv_aload_n hx hb dX1_learn_7 rfl (lv_at hl 1 rfl) ?_
  refine va_get (D := (dC, dI)) (ci := 1) (v := .ref (ad 2)) (C := RX1) (T := TX1) (N := 14) hx hb hts hw0 hown hK hP 0 rfl rfl 3 (by decide) (hts (.fieldLink RX1 13 "DropCodeModel" "seeds" "[I") (by decide +kernel)) (fun _ h9 => h9) rfl dX1_learn_8 ?_
  refine lv_iload_n hx hb dX1_learn_11 rfl (lv_at hl 2 rfl) ?_
  refine va_iald (i := nI j) hx hb hK hP 2 0 rfl rfl (vp_in_nI (by omega : j < 60) (by omega)) dX1_learn_12 ?_
  rw [nI_clamp (by omega)]
  have hFc := va_free (wc := (rW ad cI cZ K row (nI n) sd vl wt (nI T) kn tl od (nI F) cl u_2.1 u_2.2)) hD hS hA [0, 1, 2, 3, 4, 5, 6, 7, 8] rfl
  refine va_calli (va_runV (As := [.int (sd j)]) (rest := []) ⟨hx, hb, hml, hown, hts⟩ (c_X1_draw l dC dI H.size ad cI cZ K row (nI n) sd vl wt (nI T) kn tl od (nI F) cl u_2.1 u_2.2 hK1 hK2 (sd j)) (cwV 1 hts gX1_learn_X1_draw rfl rfl rfl (by decide +kernel) ⟨Nat.le_of_ble_eq_true rfl, Nat.le_of_ble_eq_true rfl⟩) ⟨wFb, va_recv hK hP (ci := 1) (q0 := 0) rfl rfl, fun U hU hW => ⟨rfl, by rw [hU], by rw [hU]; exact hP, va_K.moved hW.alike hK, hD.weaken (fun _ _ _ _ => trivial)⟩⟩ rfl rfl hl.1 rfl (lv_room (Nat.le_of_ble_eq_true rfl)) dX1_learn_13 ⟨Nat.le_of_ble_eq_true rfl, Nat.le_of_ble_eq_true rfl⟩) hS (fun q _ h => hFc q h) hFc (fun r_4 u_5 t H1 locs ht hvm hwu_5 hB hz1 hk1 hS => ?_)
  obtain ⟨hP1, hK1, hD1⟩ := hB
  rw [ht] at hP1
  obtain ⟨hP, hD⟩ := va_join (wr := []) (w1 := (rW ad cI cZ K row (nI n) sd vl wt (nI T) kn tl od (nI F) cl u_5.1 u_5.2)) hP hD [0, 1, 2, 3, 4, 5, 6, 7, 8] [] rfl rfl (by decide) (by decide) hk1 hFc hP1 hD1
  clear hP1 hD1 hK1 hFc hk1 hz1
  generalize H1 = H at hP hS ⊢
  have hP : va_P (dC, dI) vwCl (rW ad cI cZ K row (nI n) sd vl wt (nI T) kn tl od (nI F) cl u_5.1 u_5.2) H := hP
  have hD : va_D A (rW ad cI cZ K row (nI n) sd vl wt (nI T) kn tl od (nI F) cl u_5.1 u_5.2) := hD
  obtain ⟨rfl, hinu_5⟩ := hwu_5
  refine lv_istore_n (lv' := [(3, .int (nI (dg K (dr (ns (sd j)))))), (2, .int (vl j ^^^ xk K tl (S j) kb)), (0, .ref (ad 0)), (1, .int (nI j))]) hx hb dX1_learn_16 rfl hl (by decide) rfl (fun ls hl => ?_)
  rw [← hSj] at hinu_5
  refine lv_iconst (v := 0) hx hb dX1_learn_17 (by decide) ?_
  refine lv_istore (lv' := [(4, .int 0), (3, .int (nI (dg K (dr (ns (sd j)))))), (2, .int (vl j ^^^ xk K tl (S j) kb)), (0, .ref (ad 0)), (1, .int (nI j))]) hx hb dX1_learn_18 hl (by decide) rfl (fun ls hl => ?_)
  have hkn2 : inF K (upd kn i (vp_nar .boolean 1)) (kb ||| tw i) := inF_up hK2 hi hkn
  have hi32 : i < 32 := by omega
  have kL : ∀ (m9 k : Nat) (f : Nat → Int32) (g : Int32) (H : Heap) (locs : List Loc) (ls : Array Slot), n = k + m9 → va_P (dC, dI) vwCl (rW ad cI cZ K row (nI n) sd vl (awA wt T (eqP i S (kb ||| tw i)) k) (nI (T + cn (eqP i S (kb ||| tw i)) k)) (upd kn i (vp_nar .boolean 1)) (upd tl i (vl j ^^^ xk K tl (S j) kb)) (upd od F (nI i)) (nI (F + 1)) cl f g) H → va_D A (rW ad cI cZ K row (nI n) sd vl (awA wt T (eqP i S (kb ||| tw i)) k) (nI (T + cn (eqP i S (kb ||| tw i)) k)) (upd kn i (vp_nar .boolean 1)) (upd tl i (vl j ^^^ xk K tl (S j) kb)) (upd od F (nI i)) (nI (F + 1)) cl f g) → va_S A s.heap H locs → lv_has ls 7 [(5, .int (nI k)), (4, .int (nI i)), (0, .ref (ad 0))] → W p l e (headSpec wsX1_learn ({ frames := 3, cells := 0, slots := 0, locals := 70 })).room s m ([.ref (ad 0), .int (nI j)] : List Value).toArray below meth c H locs 0 0 (MQ below (va_Qv (fun (u : (Nat → Int32) × Int32) => True) (fun u => oB dC dI [(cI, .int), (cZ, .boolean)] A (rW ad cI cZ K row (nI n) sd vl (awA wt T (eqP i S (kb ||| tw i)) n) (nI (T + cn (eqP i S (kb ||| tw i)) n)) (upd kn i (vp_nar .boolean 1)) (upd tl i (vl j ^^^ xk K tl (S j) kb)) (upd od F (nI i)) (nI (F + 1)) cl u.1 u.2)) A) ([.ref (ad 0), .int (nI j)] : List Value).toArray s 0 0 A) (F0 m 86 ls []) := by
    intro m9
    induction m9 with
    | zero =>
      intro k f g H locs ls hk hP hD hS hl
      have hkn9 : n = k := by omega
      refine lv_iload hx hb dX1_learn_86 (lv_at hl 0 rfl) ?_
      refine lv_aload_n hx hb dX1_learn_88 rfl (lv_at hl 2 rfl) ?_
      refine va_get (D := (dC, dI)) (ci := 1) (v := .int (nI n)) (C := RX1) (T := TX1) (N := 14) hx hb hts hw0 hown hK hP 0 rfl rfl 2 (by decide) (hts (.fieldLink RX1 56 "DropCodeModel" "came" "I") (by decide +kernel)) (fun _ h9 => h9) rfl dX1_learn_89 ?_
      refine lv_icmp_ge (tgt := 178) hx hb dX1_learn_92 (by decide) (fun c1 => ?_) (fun c1 => ?_)
      · skip
        rw [← hkn9] at hP hD
        exact W.vret hx hb hr (fun t ht hW => ⟨⟨(f, g), rfl, trivial, by rw [ht]; exact hP, va_K.moved hW.alike hK, hD⟩, hS.F ht⟩) hS.2.2 dX1_learn_178
      · skip
        exact absurd (nI_le (by omega) (by omega)) c1
    | succ m9 ih =>
      intro k f g H locs ls hk hP hD hS hl
      have hkn9 : k < n := by omega
      have hk60 : k < 60 := by omega
      have hSk := hSd k hkn9
      refine lv_iload hx hb dX1_learn_86 (lv_at hl 0 rfl) ?_
      refine lv_aload_n hx hb dX1_learn_88 rfl (lv_at hl 2 rfl) ?_
      refine va_get (D := (dC, dI)) (ci := 1) (v := .int (nI n)) (C := RX1) (T := TX1) (N := 14) hx hb hts hw0 hown hK hP 0 rfl rfl 2 (by decide) (hts (.fieldLink RX1 56 "DropCodeModel" "came" "I") (by decide +kernel)) (fun _ h9 => h9) rfl dX1_learn_89 ?_
      refine lv_icmp_ge (tgt := 178) hx hb dX1_learn_92 (by decide) (fun c1 => ?_) (fun c1 => ?_)
      · skip
        exact absurd c1 (nI_ge hkn9 (by omega))
      · skip
        refine lv_aload_n hx hb dX1_learn_95 rfl (lv_at hl 2 rfl) ?_
        refine lv_iload hx hb dX1_learn_96 (lv_at hl 0 rfl) ?_
        have hFc := va_free (wc := (rW ad cI cZ K row (nI n) sd vl (awA wt T (eqP i S (kb ||| tw i)) k) (nI (T + cn (eqP i S (kb ||| tw i)) k)) (upd kn i (vp_nar .boolean 1)) (upd tl i (vl j ^^^ xk K tl (S j) kb)) (upd od F (nI i)) (nI (F + 1)) cl f g)) hD hS hA [0, 1, 2, 3, 4, 5, 6, 7, 8] rfl
        refine va_calli (va_runV (As := [.int (nI k)]) (rest := []) ⟨hx, hb, hml, hown, hts⟩ (c_X1_isOpen l dC dI H.size ad cI cZ K row (nI n) sd vl (awA wt T (eqP i S (kb ||| tw i)) k) (nI (T + cn (eqP i S (kb ||| tw i)) k)) (upd kn i (vp_nar .boolean 1)) (upd tl i (vl j ^^^ xk K tl (S j) kb)) (upd od F (nI i)) (nI (F + 1)) cl f g hK1 hK2 (kb ||| tw i) hkn2 k hk60) (cwV 1 hts gX1_learn_X1_isOpen rfl rfl rfl (by decide +kernel) ⟨Nat.le_of_ble_eq_true rfl, Nat.le_of_ble_eq_true rfl⟩) ⟨wFb, va_recv hK hP (ci := 1) (q0 := 0) rfl rfl, fun U hU hW => ⟨rfl, by rw [hU], by rw [hU]; exact hP, va_K.moved hW.alike hK, hD.weaken (fun _ _ _ _ => trivial)⟩⟩ rfl rfl hl.1 rfl (lv_room (Nat.le_of_ble_eq_true rfl)) dX1_learn_98 ⟨Nat.le_of_ble_eq_true rfl, Nat.le_of_ble_eq_true rfl⟩) hS (fun q _ h => hFc q h) hFc (fun r_6 u_7 t H1 locs ht hvm hwu_7 hB hz1 hk1 hS => ?_)
        obtain ⟨hP1, hK1, hD1⟩ := hB
        rw [ht] at hP1
        obtain ⟨hP, hD⟩ := va_join (wr := []) (w1 := (rW ad cI cZ K row (nI n) sd vl (awA wt T (eqP i S (kb ||| tw i)) k) (nI (T + cn (eqP i S (kb ||| tw i)) k)) (upd kn i (vp_nar .boolean 1)) (upd tl i (vl j ^^^ xk K tl (S j) kb)) (upd od F (nI i)) (nI (F + 1)) cl u_7.1 u_7.2)) hP hD [0, 1, 2, 3, 4, 5, 6, 7, 8] [] rfl rfl (by decide) (by decide) hk1 hFc hP1 hD1
        clear hP1 hD1 hK1 hFc hk1 hz1
        generalize H1 = H at hP hS ⊢
        have hP : va_P (dC, dI) vwCl (rW ad cI cZ K row (nI n) sd vl (awA wt T (eqP i S (kb ||| tw i)) k) (nI (T + cn (eqP i S (kb ||| tw i)) k)) (upd kn i (vp_nar .boolean 1)) (upd tl i (vl j ^^^ xk K tl (S j) kb)) (upd od F (nI i)) (nI (F + 1)) cl u_7.1 u_7.2) H := hP
        have hD : va_D A (rW ad cI cZ K row (nI n) sd vl (awA wt T (eqP i S (kb ||| tw i)) k) (nI (T + cn (eqP i S (kb ||| tw i)) k)) (upd kn i (vp_nar .boolean 1)) (upd tl i (vl j ^^^ xk K tl (S j) kb)) (upd od F (nI i)) (nI (F + 1)) cl u_7.1 u_7.2) := hD
        obtain ⟨rfl, hinu_7⟩ := hwu_7
        refine lv_topi (fun z_8 ez_8 => ?_)
        have ez_8 : z_8 = nI (opn (S k) (kb ||| tw i)) := ez_8.trans (by rw [hSk])
        subst ez_8
        refine lv_istore (lv' := [(6, .int (nI (opn (S k) (kb ||| tw i)))), (5, .int (nI k)), (4, .int (nI i)), (0, .ref (ad 0))]) hx hb dX1_learn_101 hl (by decide) rfl (fun ls hl => ?_)
        rw [← hSk] at hinu_7
        refine lv_aload_n hx hb dX1_learn_103 rfl (lv_at hl 3 rfl) ?_
        refine va_get (D := (dC, dI)) (ci := 1) (v := .ref (ad 8)) (C := RX1) (T := TX1) (N := 14) hx hb hts hw0 hown hK hP 0 rfl rfl 12 (by decide) (hts (.fieldLink RX1 32 "DropCodeModel" "in" "[Z") (by decide +kernel)) (fun _ h9 => h9) rfl dX1_learn_104 ?_
        refine lv_iload hx hb dX1_learn_107 (lv_at hl 2 rfl) ?_
        refine va_zald (i := nI i) hx hb hK hP 8 1 rfl rfl (vp_in_nI hi32 (by omega)) dX1_learn_109 ?_
        rw [nI_clamp (by omega)]
        refine lv_topi (fun z_9 ez_9 => ?_)
        have ez_9 : z_9 = bI (bt (S k) i) := ez_9.trans (hinu_7 i hi)
        subst ez_9
        cases hb9 : bt (S k) i with
        | false =>
          rw [bI_f]
          refine lv_if_eq (tgt := 128) hx hb dX1_learn_110 (by decide) (fun c3 => ?_) (fun c3 => ?_)
          · skip
            refine lv_aload_n hx hb dX1_learn_128 rfl (lv_at hl 3 rfl) ?_
            refine va_get (D := (dC, dI)) (ci := 1) (v := .ref (ad 8)) (C := RX1) (T := TX1) (N := 14) hx hb hts hw0 hown hK hP 0 rfl rfl 12 (by decide) (hts (.fieldLink RX1 32 "DropCodeModel" "in" "[Z") (by decide +kernel)) (fun _ h9 => h9) rfl dX1_learn_129 ?_
            refine lv_iload hx hb dX1_learn_132 (lv_at hl 2 rfl) ?_
            refine va_zald (i := nI i) hx hb hK hP 8 1 rfl rfl (vp_in_nI hi32 (by omega)) dX1_learn_134 ?_
            rw [nI_clamp (by omega)]
            refine lv_topi (fun z_10 ez_10 => ?_)
            have ez_10 : z_10 = 0 := ez_10.trans (by rw [hinu_7 i hi, hb9]; rfl)
            subst ez_10
            refine lv_if_eq (tgt := 172) hx hb dX1_learn_135 (by decide) (fun c4 => ?_) (fun c4 => ?_)
            · skip
              have hep : eqP i S (kb ||| tw i) k = false := by unfold eqP; rw [hb9]; rfl
              refine lv_iinc (v := nI (k + 1)) (lv' := [(5, .int (nI (k + 1))), (6, .int (nI (opn (S k) (kb ||| tw i)))), (4, .int (nI i)), (0, .ref (ad 0))]) hx hb dX1_learn_172 hl (k := 1) rfl (nI_1 k) (by decide) rfl (fun ls hl => ?_)
              refine lv_goto (tgt := 86) hx hb dX1_learn_175 (by decide) ?_
              exact ih (k + 1) _ _ _ _ ls (by omega) (by rw [aw_no hep, cn_no hep]; exact hP) (by rw [aw_no hep, cn_no hep]; exact hD) hS (lv_sub hl [0, 2, 3] rfl)
            · skip
              exact absurd rfl c4
          · skip
            exact absurd rfl c3
        | true =>
          rw [bI_t]
          refine lv_if_eq (tgt := 128) hx hb dX1_learn_110 (by decide) (fun c3 => ?_) (fun c3 => ?_)
          · skip
            exact absurd c3 (by decide)
          · skip
            refine lv_iload hx hb dX1_learn_113 (lv_at hl 0 rfl) ?_
            refine lv_iconst (v := 1) hx hb dX1_learn_115 (by decide) ?_
            refine lv_icmp_ne (tgt := 128) hx hb dX1_learn_116 (by decide) (fun c4 => ?_) (fun c4 => ?_)
            · skip
              have hne : ¬ opn (S k) (kb ||| tw i) = 1 := fun h => c4 (by rw [h]; rfl)
              have hep : eqP i S (kb ||| tw i) k = false := by unfold eqP; rw [hb9, decide_eq_false hne]; rfl
              refine lv_aload_n hx hb dX1_learn_128 rfl (lv_at hl 3 rfl) ?_
              refine va_get (D := (dC, dI)) (ci := 1) (v := .ref (ad 8)) (C := RX1) (T := TX1) (N := 14) hx hb hts hw0 hown hK hP 0 rfl rfl 12 (by decide) (hts (.fieldLink RX1 32 "DropCodeModel" "in" "[Z") (by decide +kernel)) (fun _ h9 => h9) rfl dX1_learn_129 ?_
              refine lv_iload hx hb dX1_learn_132 (lv_at hl 2 rfl) ?_
              refine va_zald (i := nI i) hx hb hK hP 8 1 rfl rfl (vp_in_nI hi32 (by omega)) dX1_learn_134 ?_
              rw [nI_clamp (by omega)]
              refine lv_topi (fun z_10 ez_10 => ?_)
              have ez_10 : z_10 = 1 := ez_10.trans (by rw [hinu_7 i hi, hb9]; rfl)
              subst ez_10
              refine lv_if_eq (tgt := 172) hx hb dX1_learn_135 (by decide) (fun c5 => ?_) (fun c5 => ?_)
              · skip
                exact absurd c5 (by decide)
              · skip
                refine lv_iload hx hb dX1_learn_138 (lv_at hl 0 rfl) ?_
                refine lv_if_ne (tgt := 172) hx hb dX1_learn_140 (by decide) (fun c6 => ?_) (fun c6 => ?_)
                · skip
                  have hep : eqP i S (kb ||| tw i) k = false := hep
                  refine lv_iinc (v := nI (k + 1)) (lv' := [(5, .int (nI (k + 1))), (6, .int (nI (opn (S k) (kb ||| tw i)))), (4, .int (nI i)), (0, .ref (ad 0))]) hx hb dX1_learn_172 hl (k := 1) rfl (nI_1 k) (by decide) rfl (fun ls hl => ?_)
                  refine lv_goto (tgt := 86) hx hb dX1_learn_175 (by decide) ?_
                  exact ih (k + 1) _ _ _ _ ls (by omega) (by rw [aw_no hep, cn_no hep]; exact hP) (by rw [aw_no hep, cn_no hep]; exact hD) hS (lv_sub hl [0, 2, 3] rfl)
                · skip
                  have ho0 : opn (S k) (kb ||| tw i) = 0 := nI_zero (pc_le _) c6
                  refine lv_aload_n hx hb dX1_learn_143 rfl (lv_at hl 3 rfl) ?_
                  refine va_get (D := (dC, dI)) (ci := 1) (v := .ref (ad 4)) (C := RX1) (T := TX1) (N := 14) hx hb hts hw0 hown hK hP 0 rfl rfl 5 (by decide) (hts (.fieldLink RX1 19 "DropCodeModel" "waits" "[I") (by decide +kernel)) (fun _ h9 => h9) rfl dX1_learn_144 ?_
                  refine lv_iload hx hb dX1_learn_147 (lv_at hl 1 rfl) ?_
                  refine va_iald (i := nI k) hx hb hK hP 4 0 rfl rfl (vp_in_nI hk60 (by omega)) dX1_learn_149 ?_
                  rw [nI_clamp (by omega)]
                  refine lv_topi (fun z_11 ez_11 => ?_)
                  have ez_11 : z_11 = wt k := ez_11.trans (awA_ge (Nat.le_refl k))
                  subst ez_11
                  refine lv_if_ne (tgt := 172) hx hb dX1_learn_150 (by decide) (fun c7 => ?_) (fun c7 => ?_)
                  · skip
                    have hep : eqP i S (kb ||| tw i) k = false := hep
                    refine lv_iinc (v := nI (k + 1)) (lv' := [(5, .int (nI (k + 1))), (6, .int (nI (opn (S k) (kb ||| tw i)))), (4, .int (nI i)), (0, .ref (ad 0))]) hx hb dX1_learn_172 hl (k := 1) rfl (nI_1 k) (by decide) rfl (fun ls hl => ?_)
                    refine lv_goto (tgt := 86) hx hb dX1_learn_175 (by decide) ?_
                    exact ih (k + 1) _ _ _ _ ls (by omega) (by rw [aw_no hep, cn_no hep]; exact hP) (by rw [aw_no hep, cn_no hep]; exact hD) hS (lv_sub hl [0, 2, 3] rfl)
                  · skip
                    refine lv_aload_n hx hb dX1_learn_153 rfl (lv_at hl 3 rfl) ?_
                    refine lv_iload hx hb dX1_learn_154 (lv_at hl 1 rfl) ?_
                    have hFc := va_free (wc := (rW ad cI cZ K row (nI n) sd vl (awA wt T (eqP i S (kb ||| tw i)) k) (nI (T + cn (eqP i S (kb ||| tw i)) k)) (upd kn i (vp_nar .boolean 1)) (upd tl i (vl j ^^^ xk K tl (S j) kb)) (upd od F (nI i)) (nI (F + 1)) cl u_7.1 u_7.2)) hD hS hA [0, 1, 2, 3, 4, 5, 6, 7, 8] rfl
                    refine va_calli (va_runV (As := [.int (nI k)]) (rest := []) ⟨hx, hb, hml, hown, hts⟩ (c_X1_off l dC dI H.size ad cI cZ K row (nI n) sd vl (awA wt T (eqP i S (kb ||| tw i)) k) (nI (T + cn (eqP i S (kb ||| tw i)) k)) (upd kn i (vp_nar .boolean 1)) (upd tl i (vl j ^^^ xk K tl (S j) kb)) (upd od F (nI i)) (nI (F + 1)) cl u_7.1 u_7.2 hK1 hK2 (kb ||| tw i) hkn2 k hk60) (cwV 1 hts gX1_learn_X1_off rfl rfl rfl (by decide +kernel) ⟨Nat.le_of_ble_eq_true rfl, Nat.le_of_ble_eq_true rfl⟩) ⟨wFb, va_recv hK hP (ci := 1) (q0 := 0) rfl rfl, fun U hU hW => ⟨rfl, by rw [hU], by rw [hU]; exact hP, va_K.moved hW.alike hK, hD.weaken (fun _ _ _ _ => trivial)⟩⟩ rfl rfl hl.1 rfl (lv_room (Nat.le_of_ble_eq_true rfl)) dX1_learn_156 ⟨Nat.le_of_ble_eq_true rfl, Nat.le_of_ble_eq_true rfl⟩) hS (fun q _ h => hFc q h) hFc (fun r_12 u_13 t H1 locs ht hvm hwu_13 hB hz1 hk1 hS => ?_)
                    obtain ⟨hP1, hK1, hD1⟩ := hB
                    rw [ht] at hP1
                    obtain ⟨hP, hD⟩ := va_join (wr := []) (w1 := (rW ad cI cZ K row (nI n) sd vl (awA wt T (eqP i S (kb ||| tw i)) k) (nI (T + cn (eqP i S (kb ||| tw i)) k)) (upd kn i (vp_nar .boolean 1)) (upd tl i (vl j ^^^ xk K tl (S j) kb)) (upd od F (nI i)) (nI (F + 1)) cl u_13.1 u_13.2)) hP hD [0, 1, 2, 3, 4, 5, 6, 7, 8] [] rfl rfl (by decide) (by decide) hk1 hFc hP1 hD1
                    clear hP1 hD1 hK1 hFc hk1 hz1
                    generalize H1 = H at hP hS ⊢
                    have hP : va_P (dC, dI) vwCl (rW ad cI cZ K row (nI n) sd vl (awA wt T (eqP i S (kb ||| tw i)) k) (nI (T + cn (eqP i S (kb ||| tw i)) k)) (upd kn i (vp_nar .boolean 1)) (upd tl i (vl j ^^^ xk K tl (S j) kb)) (upd od F (nI i)) (nI (F + 1)) cl u_13.1 u_13.2) H := hP
                    have hD : va_D A (rW ad cI cZ K row (nI n) sd vl (awA wt T (eqP i S (kb ||| tw i)) k) (nI (T + cn (eqP i S (kb ||| tw i)) k)) (upd kn i (vp_nar .boolean 1)) (upd tl i (vl j ^^^ xk K tl (S j) kb)) (upd od F (nI i)) (nI (F + 1)) cl u_13.1 u_13.2) := hD
                    obtain ⟨rfl, hinu_13⟩ := hwu_13
                    refine lv_topi (fun z_14 ez_14 => ?_)
                    have ez_14 : z_14 = 0 := ez_14.trans (by rw [← hSk]; exact hnc k hkn9 hb9 ho0 c7)
                    subst ez_14
                    refine lv_if_eq (tgt := 172) hx hb dX1_learn_159 (by decide) (fun c8 => ?_) (fun c8 => ?_)
                    · skip
                      have hep : eqP i S (kb ||| tw i) k = false := hep
                      refine lv_iinc (v := nI (k + 1)) (lv' := [(5, .int (nI (k + 1))), (6, .int (nI (opn (S k) (kb ||| tw i)))), (4, .int (nI i)), (0, .ref (ad 0))]) hx hb dX1_learn_172 hl (k := 1) rfl (nI_1 k) (by decide) rfl (fun ls hl => ?_)
                      refine lv_goto (tgt := 86) hx hb dX1_learn_175 (by decide) ?_
                      exact ih (k + 1) _ _ _ _ ls (by omega) (by rw [aw_no hep, cn_no hep]; exact hP) (by rw [aw_no hep, cn_no hep]; exact hD) hS (lv_sub hl [0, 2, 3] rfl)
                    · skip
                      exact absurd rfl c8
            · skip
              have hop : opn (S k) (kb ||| tw i) = 1 := nI_one (pc_le _) c4
              have hep : eqP i S (kb ||| tw i) k = true := by unfold eqP; rw [hb9, decide_eq_true hop]; rfl
              refine lv_aload_n hx hb dX1_learn_119 rfl (lv_at hl 3 rfl) ?_
              refine lv_iload hx hb dX1_learn_120 (lv_at hl 1 rfl) ?_
              have hFc := va_free (wc := (rW ad cI cZ K row (nI n) sd vl (awA wt T (eqP i S (kb ||| tw i)) k) (nI (T + cn (eqP i S (kb ||| tw i)) k)) (upd kn i (vp_nar .boolean 1)) (upd tl i (vl j ^^^ xk K tl (S j) kb)) (upd od F (nI i)) (nI (F + 1)) cl u_7.1 u_7.2)) hD hS hA [0, 1, 2, 3, 4, 5, 6, 7, 8] rfl
              refine va_callv (va_runV (As := [.int (nI k)]) (rest := []) ⟨hx, hb, hml, hown, hts⟩ (c_X1_await l dC dI H.size ad cI cZ K row (nI n) sd vl (awA wt T (eqP i S (kb ||| tw i)) k) (upd kn i (vp_nar .boolean 1)) (upd tl i (vl j ^^^ xk K tl (S j) kb)) (upd od F (nI i)) (nI (F + 1)) cl u_7.1 u_7.2 (T + cn (eqP i S (kb ||| tw i)) k) k hk60) (cwV 1 hts gX1_learn_X1_await rfl rfl rfl (by decide +kernel) ⟨Nat.le_of_ble_eq_true rfl, Nat.le_of_ble_eq_true rfl⟩) ⟨wFb, va_recv hK hP (ci := 1) (q0 := 0) rfl rfl, fun U hU hW => ⟨rfl, by rw [hU], by rw [hU]; exact hP, va_K.moved hW.alike hK, hD.weaken (fun _ _ _ _ => trivial)⟩⟩ rfl rfl hl.1 rfl (lv_room (Nat.le_of_ble_eq_true rfl)) dX1_learn_122 ⟨Nat.le_of_ble_eq_true rfl, Nat.le_of_ble_eq_true rfl⟩) hS (fun q _ h => hFc q h) hFc (fun u t H1 locs ht hvm hw hB hz1 hk1 hS => ?_)
              obtain ⟨hP1, hK1, hD1⟩ := hB
              rw [ht] at hP1
              obtain ⟨hP, hD⟩ := va_join (wr := []) (w1 := (rW ad cI cZ K row (nI n) sd vl (upd (awA wt T (eqP i S (kb ||| tw i)) k) k (nI (T + cn (eqP i S (kb ||| tw i)) k + 1))) (nI (T + cn (eqP i S (kb ||| tw i)) k + 1)) (upd kn i (vp_nar .boolean 1)) (upd tl i (vl j ^^^ xk K tl (S j) kb)) (upd od F (nI i)) (nI (F + 1)) cl u_7.1 u_7.2)) hP hD [0, 1, 2, 3, 4, 5, 6, 7, 8] [] rfl rfl (by decide) (by decide) hk1 hFc hP1 hD1
              clear hP1 hD1 hK1 hFc hk1 hz1
              generalize H1 = H at hP hS ⊢
              have hP : va_P (dC, dI) vwCl (rW ad cI cZ K row (nI n) sd vl (upd (awA wt T (eqP i S (kb ||| tw i)) k) k (nI (T + cn (eqP i S (kb ||| tw i)) k + 1))) (nI (T + cn (eqP i S (kb ||| tw i)) k + 1)) (upd kn i (vp_nar .boolean 1)) (upd tl i (vl j ^^^ xk K tl (S j) kb)) (upd od F (nI i)) (nI (F + 1)) cl u_7.1 u_7.2) H := hP
              have hD : va_D A (rW ad cI cZ K row (nI n) sd vl (upd (awA wt T (eqP i S (kb ||| tw i)) k) k (nI (T + cn (eqP i S (kb ||| tw i)) k + 1))) (nI (T + cn (eqP i S (kb ||| tw i)) k + 1)) (upd kn i (vp_nar .boolean 1)) (upd tl i (vl j ^^^ xk K tl (S j) kb)) (upd od F (nI i)) (nI (F + 1)) cl u_7.1 u_7.2) := hD
              refine lv_goto (tgt := 172) hx hb dX1_learn_125 (by decide) ?_
              refine lv_iinc (v := nI (k + 1)) (lv' := [(5, .int (nI (k + 1))), (6, .int (nI (opn (S k) (kb ||| tw i)))), (4, .int (nI i)), (0, .ref (ad 0))]) hx hb dX1_learn_172 hl (k := 1) rfl (nI_1 k) (by decide) rfl (fun ls hl => ?_)
              refine lv_goto (tgt := 86) hx hb dX1_learn_175 (by decide) ?_
              exact ih (k + 1) _ _ _ _ ls (by omega) (by rw [aw_yes hep, cn_s hep, ← Nat.add_assoc]; exact hP) (by rw [aw_yes hep, cn_s hep, ← Nat.add_assoc]; exact hD) hS (lv_sub hl [0, 2, 3] rfl)
  have kW : ∀ (m9 x : Nat) (ls : Array Slot), i = x + m9 → lv_has ls 7 [(4, .int (nI x)), (2, .int (vl j ^^^ xk K tl (S j) kb)), (0, .ref (ad 0)), (1, .int (nI j))] → W p l e (headSpec wsX1_learn ({ frames := 3, cells := 0, slots := 0, locals := 70 })).room s m ([.ref (ad 0), .int (nI j)] : List Value).toArray below meth c H locs 0 0 (MQ below (va_Qv (fun (u : (Nat → Int32) × Int32) => True) (fun u => oB dC dI [(cI, .int), (cZ, .boolean)] A (rW ad cI cZ K row (nI n) sd vl (awA wt T (eqP i S (kb ||| tw i)) n) (nI (T + cn (eqP i S (kb ||| tw i)) n)) (upd kn i (vp_nar .boolean 1)) (upd tl i (vl j ^^^ xk K tl (S j) kb)) (upd od F (nI i)) (nI (F + 1)) cl u.1 u.2)) A) ([.ref (ad 0), .int (nI j)] : List Value).toArray s 0 0 A) (F0 m 20 ls []) := by
    intro m9
    induction m9 with
    | zero =>
      intro x ls hx9 hl
      have hxi : i = x := by omega
      rw [← hxi] at hl
      refine lv_aload_n hx hb dX1_learn_20 rfl (lv_at hl 2 rfl) ?_
      refine va_get (D := (dC, dI)) (ci := 1) (v := .ref (ad 8)) (C := RX1) (T := TX1) (N := 14) hx hb hts hw0 hown hK hP 0 rfl rfl 12 (by decide) (hts (.fieldLink RX1 32 "DropCodeModel" "in" "[Z") (by decide +kernel)) (fun _ h9 => h9) rfl dX1_learn_21 ?_
      refine lv_iload hx hb dX1_learn_24 (lv_at hl 0 rfl) ?_
      refine va_zald (i := nI i) hx hb hK hP 8 1 rfl rfl (vp_in_nI hi32 (by omega)) dX1_learn_26 ?_
      rw [nI_clamp (by omega)]
      refine lv_topi (fun z_6 ez_6 => ?_)
      have ez_6 : z_6 = 1 := ez_6.trans (by rw [hinu_5 i hi, e2]; rfl)
      subst ez_6
      refine lv_if_eq (tgt := 40) hx hb dX1_learn_27 (by decide) (fun c1 => ?_) (fun c1 => ?_)
      · skip
        exact absurd c1 (by decide)
      · skip
        refine lv_aload_n hx hb dX1_learn_30 rfl (lv_at hl 2 rfl) ?_
        refine va_get (D := (dC, dI)) (ci := 1) (v := .ref (ad 5)) (C := RX1) (T := TX1) (N := 14) hx hb hts hw0 hown hK hP 0 rfl rfl 7 (by decide) (hts (.fieldLink RX1 22 "DropCodeModel" "known" "[Z") (by decide +kernel)) (fun _ h9 => h9) rfl dX1_learn_31 ?_
        refine lv_iload hx hb dX1_learn_34 (lv_at hl 0 rfl) ?_
        refine va_zald (i := nI i) hx hb hK hP 5 1 rfl rfl (vp_in_nI hi32 (by omega)) dX1_learn_36 ?_
        rw [nI_clamp (by omega)]
        refine lv_topi (fun z_7 ez_7 => ?_)
        have ez_7 : z_7 = 0 := ez_7.trans (by rw [hkn i hi, e3]; rfl)
        subst ez_7
        refine lv_if_eq (tgt := 46) hx hb dX1_learn_37 (by decide) (fun c2 => ?_) (fun c2 => ?_)
        · skip
          refine lv_aload_n hx hb dX1_learn_46 rfl (lv_at hl 2 rfl) ?_
          refine va_get (D := (dC, dI)) (ci := 1) (v := .ref (ad 5)) (C := RX1) (T := TX1) (N := 14) hx hb hts hw0 hown hK hP 0 rfl rfl 7 (by decide) (hts (.fieldLink RX1 22 "DropCodeModel" "known" "[Z") (by decide +kernel)) (fun _ h9 => h9) rfl dX1_learn_47 ?_
          refine lv_iload hx hb dX1_learn_50 (lv_at hl 0 rfl) ?_
          refine lv_iconst (v := 1) hx hb dX1_learn_52 (by decide) ?_
          refine va_zast (i := nI i) hx hb hK hP hD hS 5 1 rfl rfl (vp_in_nI hi32 (by omega)) dX1_learn_53 (fun H locs hP hD hS => ?_)
          rw [nI_clamp (by omega)] at hP hD
          have hP : va_P (dC, dI) vwCl (rW ad cI cZ K row (nI n) sd vl wt (nI T) (upd kn i (vp_nar .boolean 1)) tl od (nI F) cl u_5.1 u_5.2) H := hP
          have hD : va_D A (rW ad cI cZ K row (nI n) sd vl wt (nI T) (upd kn i (vp_nar .boolean 1)) tl od (nI F) cl u_5.1 u_5.2) := hD
          refine lv_aload_n hx hb dX1_learn_54 rfl (lv_at hl 2 rfl) ?_
          refine va_get (D := (dC, dI)) (ci := 1) (v := .ref (ad 6)) (C := RX1) (T := TX1) (N := 14) hx hb hts hw0 hown hK hP 0 rfl rfl 8 (by decide) (hts (.fieldLink RX1 26 "DropCodeModel" "told" "[I") (by decide +kernel)) (fun _ h9 => h9) rfl dX1_learn_55 ?_
          refine lv_iload hx hb dX1_learn_58 (lv_at hl 0 rfl) ?_
          refine lv_iload_n hx hb dX1_learn_60 rfl (lv_at hl 1 rfl) ?_
          refine va_iast (i := nI i) hx hb hK hP hD hS 6 0 rfl rfl (vp_in_nI hi32 (by omega)) dX1_learn_61 (fun H locs hP hD hS => ?_)
          rw [nI_clamp (by omega)] at hP hD
          have hP : va_P (dC, dI) vwCl (rW ad cI cZ K row (nI n) sd vl wt (nI T) (upd kn i (vp_nar .boolean 1)) (upd tl i (vl j ^^^ xk K tl (S j) kb)) od (nI F) cl u_5.1 u_5.2) H := hP
          have hD : va_D A (rW ad cI cZ K row (nI n) sd vl wt (nI T) (upd kn i (vp_nar .boolean 1)) (upd tl i (vl j ^^^ xk K tl (S j) kb)) od (nI F) cl u_5.1 u_5.2) := hD
          refine lv_aload_n hx hb dX1_learn_62 rfl (lv_at hl 2 rfl) ?_
          refine va_get (D := (dC, dI)) (ci := 1) (v := .ref (ad 7)) (C := RX1) (T := TX1) (N := 14) hx hb hts hw0 hown hK hP 0 rfl rfl 9 (by decide) (hts (.fieldLink RX1 29 "DropCodeModel" "order" "[I") (by decide +kernel)) (fun _ h9 => h9) rfl dX1_learn_63 ?_
          refine lv_aload_n hx hb dX1_learn_66 rfl (lv_at hl 2 rfl) ?_
          refine va_get (D := (dC, dI)) (ci := 1) (v := .int (nI F)) (C := RX1) (T := TX1) (N := 14) hx hb hts hw0 hown hK hP 0 rfl rfl 10 (by decide) (hts (.fieldLink RX1 62 "DropCodeModel" "found" "I") (by decide +kernel)) (fun _ h9 => h9) rfl dX1_learn_67 ?_
          refine lv_iload hx hb dX1_learn_70 (lv_at hl 0 rfl) ?_
          refine va_iast (i := nI F) hx hb hK hP hD hS 7 0 rfl rfl (vp_in_nI hF (by omega)) dX1_learn_72 (fun H locs hP hD hS => ?_)
          rw [nI_clamp (by omega)] at hP hD
          have hP : va_P (dC, dI) vwCl (rW ad cI cZ K row (nI n) sd vl wt (nI T) (upd kn i (vp_nar .boolean 1)) (upd tl i (vl j ^^^ xk K tl (S j) kb)) (upd od F (nI i)) (nI F) cl u_5.1 u_5.2) H := hP
          have hD : va_D A (rW ad cI cZ K row (nI n) sd vl wt (nI T) (upd kn i (vp_nar .boolean 1)) (upd tl i (vl j ^^^ xk K tl (S j) kb)) (upd od F (nI i)) (nI F) cl u_5.1 u_5.2) := hD
          refine lv_aload_n hx hb dX1_learn_73 rfl (lv_at hl 2 rfl) ?_
          refine lv_dup hx hb dX1_learn_74 rfl ?_
          refine va_get (D := (dC, dI)) (ci := 1) (v := .int (nI F)) (C := RX1) (T := TX1) (N := 14) hx hb hts hw0 hown hK hP 0 rfl rfl 10 (by decide) (hts (.fieldLink RX1 62 "DropCodeModel" "found" "I") (by decide +kernel)) (fun _ h9 => h9) rfl dX1_learn_75 ?_
          refine lv_iconst (v := 1) hx hb dX1_learn_78 (by decide) ?_
          refine lv_iadd hx hb dX1_learn_79 ?_
          refine lv_topi (fun z_8 ez_8 => ?_)
          have ez_8 : z_8 = nI (F + 1) := ez_8.trans (nI_1 F)
          subst ez_8
          refine va_put (D := (dC, dI)) (ci := 1) (v := .int (nI (F + 1))) (ty := .int) (C := RX1) (T := TX1) (N := 14) hx hb hts hw0 tyX1 tyX1_ok nmX1 hown hK hP hD hS 0 rfl rfl 10 (by decide) (hts (.fieldLink RX1 62 "DropCodeModel" "found" "I") (by decide +kernel)) (fun _ h9 => h9) rfl (by decide +kernel) rfl rfl (Nat.le_of_ble_eq_true rfl) dX1_learn_80 (fun H locs hP hD hS => ?_)
          have hP : va_P (dC, dI) vwCl (rW ad cI cZ K row (nI n) sd vl wt (nI T) (upd kn i (vp_nar .boolean 1)) (upd tl i (vl j ^^^ xk K tl (S j) kb)) (upd od F (nI i)) (nI (F + 1)) cl u_5.1 u_5.2) H := hP
          have hD : va_D A (rW ad cI cZ K row (nI n) sd vl wt (nI T) (upd kn i (vp_nar .boolean 1)) (upd tl i (vl j ^^^ xk K tl (S j) kb)) (upd od F (nI i)) (nI (F + 1)) cl u_5.1 u_5.2) := hD
          refine lv_iconst (v := 0) hx hb dX1_learn_83 (by decide) ?_
          refine lv_istore (lv' := [(5, .int 0), (4, .int (nI i)), (2, .int (vl j ^^^ xk K tl (S j) kb)), (0, .ref (ad 0)), (1, .int (nI j))]) hx hb dX1_learn_84 hl (by decide) rfl (fun ls hl => ?_)
          exact kL n 0 _ _ _ _ ls (by omega) hP hD hS (lv_sub hl [0, 1, 3] rfl)
        · skip
          exact absurd rfl c2
    | succ m9 ih =>
      intro x ls hx9 hl
      have hx32 : x < 32 := by omega
      have hxK : x < K := by omega
      have hun : bt (unk (S j) kb) x = false := by rw [e1, bt_tw hi32]; exact decide_eq_false (by omega)
      rw [bt_unk] at hun
      refine lv_aload_n hx hb dX1_learn_20 rfl (lv_at hl 2 rfl) ?_
      refine va_get (D := (dC, dI)) (ci := 1) (v := .ref (ad 8)) (C := RX1) (T := TX1) (N := 14) hx hb hts hw0 hown hK hP 0 rfl rfl 12 (by decide) (hts (.fieldLink RX1 32 "DropCodeModel" "in" "[Z") (by decide +kernel)) (fun _ h9 => h9) rfl dX1_learn_21 ?_
      refine lv_iload hx hb dX1_learn_24 (lv_at hl 0 rfl) ?_
      refine va_zald (i := nI x) hx hb hK hP 8 1 rfl rfl (vp_in_nI hx32 (by omega)) dX1_learn_26 ?_
      rw [nI_clamp (by omega)]
      refine lv_topi (fun z_6 ez_6 => ?_)
      have ez_6 : z_6 = bI (bt (S j) x) := ez_6.trans (hinu_5 x hxK)
      subst ez_6
      cases hb8 : bt (S j) x with
      | false =>
        rw [bI_f]
        refine lv_if_eq (tgt := 40) hx hb dX1_learn_27 (by decide) (fun c_7 => ?_) (fun c_7 => ?_)
        · skip
          refine lv_iinc (v := nI (x + 1)) (lv' := [(4, .int (nI (x + 1))), (2, .int (vl j ^^^ xk K tl (S j) kb)), (0, .ref (ad 0)), (1, .int (nI j))]) hx hb dX1_learn_40 hl (k := 0) rfl (nI_1 x) (by decide) rfl (fun ls hl => ?_)
          refine lv_goto (tgt := 20) hx hb dX1_learn_43 (by decide) ?_
          exact ih (x + 1) ls (by omega) (lv_sub hl [0, 1, 2, 3] rfl)
        · skip
          exact absurd rfl c_7
      | true =>
        rw [bI_t]
        refine lv_if_eq (tgt := 40) hx hb dX1_learn_27 (by decide) (fun c_7 => ?_) (fun c_7 => ?_)
        · skip
          exact absurd c_7 (by decide)
        · skip
          refine lv_aload_n hx hb dX1_learn_30 rfl (lv_at hl 2 rfl) ?_
          refine va_get (D := (dC, dI)) (ci := 1) (v := .ref (ad 5)) (C := RX1) (T := TX1) (N := 14) hx hb hts hw0 hown hK hP 0 rfl rfl 7 (by decide) (hts (.fieldLink RX1 22 "DropCodeModel" "known" "[Z") (by decide +kernel)) (fun _ h9 => h9) rfl dX1_learn_31 ?_
          refine lv_iload hx hb dX1_learn_34 (lv_at hl 0 rfl) ?_
          refine va_zald (i := nI x) hx hb hK hP 5 1 rfl rfl (vp_in_nI hx32 (by omega)) dX1_learn_36 ?_
          rw [nI_clamp (by omega)]
          refine lv_topi (fun z_8 ez_8 => ?_)
          have ez_8 : z_8 = bI (bt kb x) := ez_8.trans (hkn x hxK)
          subst ez_8
          cases hb7 : bt kb x with
          | false =>
            rw [bI_f]
            refine lv_if_eq (tgt := 46) hx hb dX1_learn_37 (by decide) (fun c_9 => ?_) (fun c_9 => ?_)
            · skip
              rw [hb8, hb7] at hun
              cases hun
            · skip
              exact absurd rfl c_9
          | true =>
            rw [bI_t]
            refine lv_if_eq (tgt := 46) hx hb dX1_learn_37 (by decide) (fun c_9 => ?_) (fun c_9 => ?_)
            · skip
              exact absurd c_9 (by decide)
            · skip
              refine lv_iinc (v := nI (x + 1)) (lv' := [(4, .int (nI (x + 1))), (2, .int (vl j ^^^ xk K tl (S j) kb)), (0, .ref (ad 0)), (1, .int (nI j))]) hx hb dX1_learn_40 hl (k := 0) rfl (nI_1 x) (by decide) rfl (fun ls hl => ?_)
              refine lv_goto (tgt := 20) hx hb dX1_learn_43 (by decide) ?_
              exact ih (x + 1) ls (by omega) (lv_sub hl [0, 1, 2, 3] rfl)
  exact kW i 0 ls (by omega) (lv_sub hl [0, 2, 3, 4] rfl)
end
section
theorem rc_sd {K n : Nat} {S sd : Nat → Int32} {seed : Int32} (h : ∀ k, k < n → S k = setA K (sd k)) : ∀ k, k < n + 1 → upd S n (setA K seed) k = setA K (upd sd n seed k) := by
  intro k hk
  by_cases q : k = n
  · subst q; rw [pk_us, pk_us]
  · rw [pk_un q, pk_un q]; exact h k (by omega)
theorem rc_vl {n : Nat} {V vl : Nat → Int32} {v : Int32} (h : ∀ k, k < n → V k = vl k) : ∀ k, k < n + 1 → upd V n v k = upd vl n v k := by
  intro k hk
  by_cases q : k = n
  · subst q; rw [pk_us, pk_us]
  · rw [pk_un q, pk_un q]; exact h k (by omega)
theorem rn_stop {K n f h : Nat} {S V : Nat → Int32} {y : QS} (hh : ¬ h < y.2.2.2.2.1) : rnF K n S V f h y = y := by
  cases f with
  | zero => rfl
  | succ f => rw [rnF, if_neg hh]
theorem nI_m1 {j : Nat} (hj : j < 60) : ¬ nI j = -1 := by
  intro h
  have h1 := nI_pos (n := j) (by omega)
  rw [h] at h1
  exact h1 (by decide)
theorem nI_le0 {a : Nat} (ha : a ≤ 32) (h : nI a ≤ 0) : a = 0 := by
  have := (nI_leI (a := a) (b := 0) (by omega) (by omega)).mp h
  omega
theorem q_op {K n h j : Nat} {S : Nat → Int32} {y : QS} (hn : n ≤ 60) (hI : qInv K n S h y) (hh : h < y.2.2.2.2.1) (hj : j < n) (ej : y.2.2.2.1 h = nI j) : opn (S j) y.2.2.1 ≤ 1 := by
  obtain ⟨k, b1, b2, b3⟩ := hI.2.2.1 h hh
  have : k = j := nI_nj (by omega) (by omega) (b2.symm.trans ej)
  subst this
  exact b3
set_option maxHeartbeats 4000000 in
set_option maxRecDepth 100000 in
theorem c_X1_receive_full (l : Launch) (dC : Nat → ClassId) (dI : Nat → Nat → Nat) (sz : Nat) (ad : Nat → Nat) (cI cZ : ClassId) (K : Nat) (row : Nat → Int32) (sd : Nat → Int32) (vl : Nat → Int32) (wt : Nat → Int32) (tn : Int32) (kn : Nat → Int32) (tl : Nat → Int32) (od : Nat → Int32) (fd : Int32) (cl : Int32) (inn : Nat → Int32) (stt : Int32) (seed v : Int32) : Met l yX1_receive wsX1_receive ({ frames := 4, cells := 0, slots := 0, locals := 96 }) (va_Pc [.ref (ad 0), .int seed, .int v] (wB dC dI [(cI, .int), (cZ, .boolean)] sz (rW ad cI cZ K row (nI 60) sd vl wt tn kn tl od fd cl inn stt))) (va_Qi (fun r (_ : Unit) => r = -2) (fun _ => oB dC dI [(cI, .int), (cZ, .boolean)] (va_A (rW ad cI cZ K row (nI 60) sd vl wt tn kn tl od fd cl inn stt) sz) (rW ad cI cZ K row (nI 60) sd vl wt tn kn tl od fd cl inn stt)) (va_A (rW ad cI cZ K row (nI 60) sd vl wt tn kn tl od fd cl inn stt) sz)) 0 0 (va_A (rW ad cI cZ K row (nI 60) sd vl wt tn kn tl od fd cl inn stt) sz) := by
  refine Met.ofW (cc := cX1_receive) (maxL := 6) (ret := (some .int)) (by decide) rfl ?_
  intro p e s m args below meth c s₁ B hml hv
  obtain ⟨rfl, hsz, hP, hK, hD0⟩ := hv
  have hx := B.exec
  have hb := B.bytes
  have hr := B.returns
  have hts := atoms_spec (ws := wsX1_receive) B.pre
  have hown : s.vm.findClass RX1 = some m.cls := findClass_of_methodNamed B.named
  have hlocks := B.notSynchronized
  have hw0 : ∀ w ∈ wsX10, w ∈ wsX1_receive := fun _ h => List.mem_cons_of_mem _ (List.mem_append_right _ h)
  subst hsz
  have hD := hD0.self (sz := s.heap.size)
  generalize hAe : va_A (rW ad cI cZ K row (nI 60) sd vl wt tn kn tl od fd cl inn stt) s.heap.size = A at hD ⊢
  have hA : ∀ q : Nat, s.heap.size ≤ q → A q := fun q h => by rw [← hAe]; exact Or.inr h
  have hS : va_S A s.heap s.heap [] := va_S.rf
  have hP : va_P (dC, dI) vwCl (rW ad cI cZ K row (nI 60) sd vl wt tn kn tl od fd cl inn stt) s.heap := hP
  have hl := lv_entry ([.ref (ad 0), .int seed, .int v]) (n := 6) (Nat.le_of_ble_eq_true rfl)
  rw [lg_entry_eq]
  generalize (lg_sl ([.ref (ad 0), .int seed, .int v]) ++ List.replicate (6 - (lg_sl ([.ref (ad 0), .int seed, .int v])).length) Slot.unset).toArray = ls at hl ⊢
  have hl : lv_has ls 6 [(0, .ref (ad 0)), (1, .int seed), (2, .int v)] := hl
  refine lv_aload_n hx hb dX1_receive_0 rfl (lv_at hl 0 rfl) ?_
  refine va_get (D := (dC, dI)) (ci := 1) (v := .int (nI 60)) (C := RX1) (T := TX1) (N := 14) hx hb hts hw0 hown hK hP 0 rfl rfl 2 (by decide) (hts (.fieldLink RX1 56 "DropCodeModel" "came" "I") (by decide +kernel)) (fun _ h9 => h9) rfl dX1_receive_1 ?_
  refine lv_bipush (v := 60) hx hb dX1_receive_4 (by decide) ?_
  refine lv_icmp_ne (tgt := 12) hx hb dX1_receive_6 (by decide) (fun c1 => ?_) (fun c1 => ?_)
  · skip
    exact absurd rfl c1
  · skip
    refine lv_bipush (v := (-2)) hx hb dX1_receive_9 (by decide) ?_
    exact W.iret (v := (-2)) hx hb hr (fun t ht hW => ⟨⟨(-2), (), rfl, rfl, by rw [ht]; exact hP, va_K.moved hW.alike hK, hD⟩, hS.F ht⟩) hS.2.2 dX1_receive_11
set_option maxHeartbeats 4000000 in
set_option maxRecDepth 100000 in
theorem c_X1_receive (l : Launch) (dC : Nat → ClassId) (dI : Nat → Nat → Nat) (sz : Nat) (ad : Nat → Nat) (cI cZ : ClassId) (K : Nat) (row : Nat → Int32) (sd : Nat → Int32) (vl : Nat → Int32) (wt : Nat → Int32) (kn : Nat → Int32) (tl : Nat → Int32) (od : Nat → Int32) (inn : Nat → Int32) (stt : Int32) (hK1 : 1 ≤ K) (hK2 : K ≤ 32) (n : Nat) (hn : n < 60) (seed v : Int32) (T0 : Nat) (hT0 : T0 ≤ 39000) (S V kw ko : Nat → Int32) (kb : Int32) (qu : Nat → Int32) (cl0 : Int32) (hSd0 : ∀ k, k < n → S k = setA K (sd k)) (hVl0 : ∀ k, k < n → V k = vl k) (hS0 : ∀ j, j < n → ∀ i, bt (S j) i = true → i < K) (hkb : ∀ i, bt kb i = true → i < K) (hno : ∀ j, j < n → ¬ opn (S j) kb = 1) (hR0 : rR K n T0 kw ko kb cl0 wt (nI T0) kn tl od (nI (pc kb)) cl0) : Met l yX1_receive wsX1_receive ({ frames := 4, cells := 0, slots := 0, locals := 96 }) (va_Pc [.ref (ad 0), .int seed, .int v] (wB dC dI [(cI, .int), (cZ, .boolean)] sz (rW ad cI cZ K row (nI n) sd vl wt (nI T0) kn tl od (nI (pc kb)) cl0 inn stt))) (va_Qi (fun r (u : (Nat → Int32) × Int32 × (Nat → Int32) × (Nat → Int32) × (Nat → Int32) × Int32 × Int32 × (Nat → Int32) × Int32) => r = nI (pc (rnF K (n + 1) (upd S n (setA K seed)) (upd V n v) 60 0 (rcI K n (upd S n (setA K seed)) (upd V n v) kw ko kb qu cl0)).2.2.1) ∧ rR K (n + 1) (T0 + (rnF K (n + 1) (upd S n (setA K seed)) (upd V n v) 60 0 (rcI K n (upd S n (setA K seed)) (upd V n v) kw ko kb qu cl0)).2.2.2.2.1) (rnF K (n + 1) (upd S n (setA K seed)) (upd V n v) 60 0 (rcI K n (upd S n (setA K seed)) (upd V n v) kw ko kb qu cl0)).1 (rnF K (n + 1) (upd S n (setA K seed)) (upd V n v) 60 0 (rcI K n (upd S n (setA K seed)) (upd V n v) kw ko kb qu cl0)).2.1 (rnF K (n + 1) (upd S n (setA K seed)) (upd V n v) 60 0 (rcI K n (upd S n (setA K seed)) (upd V n v) kw ko kb qu cl0)).2.2.1 (rnF K (n + 1) (upd S n (setA K seed)) (upd V n v) 60 0 (rcI K n (upd S n (setA K seed)) (upd V n v) kw ko kb qu cl0)).2.2.2.2.2 u.1 u.2.1 u.2.2.1 u.2.2.2.1 u.2.2.2.2.1 u.2.2.2.2.2.1 u.2.2.2.2.2.2.1) (fun u => oB dC dI [(cI, .int), (cZ, .boolean)] (va_A (rW ad cI cZ K row (nI n) sd vl wt (nI T0) kn tl od (nI (pc kb)) cl0 inn stt) sz) (rW ad cI cZ K row (nI (n + 1)) (upd sd n seed) (upd vl n v) u.1 u.2.1 u.2.2.1 u.2.2.2.1 u.2.2.2.2.1 u.2.2.2.2.2.1 u.2.2.2.2.2.2.1 u.2.2.2.2.2.2.2.1 u.2.2.2.2.2.2.2.2)) (va_A (rW ad cI cZ K row (nI n) sd vl wt (nI T0) kn tl od (nI (pc kb)) cl0 inn stt) sz)) 0 0 (va_A (rW ad cI cZ K row (nI n) sd vl wt (nI T0) kn tl od (nI (pc kb)) cl0 inn stt) sz) := by
  refine Met.ofW (cc := cX1_receive) (maxL := 6) (ret := (some .int)) (by decide) rfl ?_
  intro p e s m args below meth c s₁ B hml hv
  obtain ⟨rfl, hsz, hP, hK, hD0⟩ := hv
  have hx := B.exec
  have hb := B.bytes
  have hr := B.returns
  have hts := atoms_spec (ws := wsX1_receive) B.pre
  have hown : s.vm.findClass RX1 = some m.cls := findClass_of_methodNamed B.named
  have hlocks := B.notSynchronized
  have hw0 : ∀ w ∈ wsX10, w ∈ wsX1_receive := fun _ h => List.mem_cons_of_mem _ (List.mem_append_right _ h)
  subst hsz
  have hD := hD0.self (sz := s.heap.size)
  generalize hAe : va_A (rW ad cI cZ K row (nI n) sd vl wt (nI T0) kn tl od (nI (pc kb)) cl0 inn stt) s.heap.size = A at hD ⊢
  have hA : ∀ q : Nat, s.heap.size ≤ q → A q := fun q h => by rw [← hAe]; exact Or.inr h
  have hS : va_S A s.heap s.heap [] := va_S.rf
  have hP : va_P (dC, dI) vwCl (rW ad cI cZ K row (nI n) sd vl wt (nI T0) kn tl od (nI (pc kb)) cl0 inn stt) s.heap := hP
  have hl := lv_entry ([.ref (ad 0), .int seed, .int v]) (n := 6) (Nat.le_of_ble_eq_true rfl)
  rw [lg_entry_eq]
  generalize (lg_sl ([.ref (ad 0), .int seed, .int v]) ++ List.replicate (6 - (lg_sl ([.ref (ad 0), .int seed, .int v])).length) Slot.unset).toArray = ls at hl ⊢
  have hl : lv_has ls 6 [(0, .ref (ad 0)), (1, .int seed), (2, .int v)] := hl
  have hSb : ∀ j, j < n + 1 → ∀ i, bt ((upd S n (setA K seed)) j) i = true → i < K := rc_S hK1 hK2 hS0
  have hI0 : qInv K (n + 1) (upd S n (setA K seed)) 0 (rcI K n (upd S n (setA K seed)) (upd V n v) kw ko kb qu cl0) := rc_inv hkb hno
  have hSd : ∀ k, k < n + 1 → (upd S n (setA K seed)) k = setA K (upd sd n seed k) := rc_sd hSd0
  have hVl : ∀ k, k < n + 1 → (upd V n v) k = upd vl n v k := rc_vl hVl0
  obtain ⟨Y, hY⟩ : ∃ Y, Y = rnF K (n + 1) (upd S n (setA K seed)) (upd V n v) 60 0 (rcI K n (upd S n (setA K seed)) (upd V n v) kw ko kb qu cl0) := ⟨_, rfl⟩
  rw [← hY]
  generalize (upd S n (setA K seed)) = S1 at hSb hI0 hSd hY
  generalize (upd V n v) = V1 at hI0 hVl hY
  have hn1 : n + 1 ≤ 60 := hn
  refine lv_aload_n hx hb dX1_receive_0 rfl (lv_at hl 0 rfl) ?_
  refine va_get (D := (dC, dI)) (ci := 1) (v := .int (nI n)) (C := RX1) (T := TX1) (N := 14) hx hb hts hw0 hown hK hP 0 rfl rfl 2 (by decide) (hts (.fieldLink RX1 56 "DropCodeModel" "came" "I") (by decide +kernel)) (fun _ h9 => h9) rfl dX1_receive_1 ?_
  refine lv_bipush (v := 60) hx hb dX1_receive_4 (by decide) ?_
  have kM : ∀ (f9 h : Nat) (y : QS) (wt1 : Nat → Int32) (tn1 : Int32) (kn1 tl1 od1 : Nat → Int32) (fd1 cl1 : Int32) (in1 : Nat → Int32) (st1 x : Int32) (H : Heap) (locs : List Loc) (ls : Array Slot), h + f9 = 60 → qInv K (n + 1) S1 h y → qR K (n + 1) T0 h y wt1 tn1 kn1 tl1 od1 fd1 cl1 → rnF K (n + 1) S1 V1 f9 h y = Y → fsP (n + 1) wt1 x → va_P (dC, dI) vwCl (rW ad cI cZ K row (nI (n + 1)) (upd sd n seed) (upd vl n v) wt1 tn1 kn1 tl1 od1 fd1 cl1 in1 st1) H → va_D A (rW ad cI cZ K row (nI (n + 1)) (upd sd n seed) (upd vl n v) wt1 tn1 kn1 tl1 od1 fd1 cl1 in1 st1) → va_S A s.heap H locs → lv_has ls 6 [(5, .int x), (0, .ref (ad 0))] → W p l e (headSpec wsX1_receive ({ frames := 4, cells := 0, slots := 0, locals := 96 })).room s m ([.ref (ad 0), .int seed, .int v] : List Value).toArray below meth c H locs 0 0 (MQ below (va_Qi (fun r (u : (Nat → Int32) × Int32 × (Nat → Int32) × (Nat → Int32) × (Nat → Int32) × Int32 × Int32 × (Nat → Int32) × Int32) => r = nI (pc Y.2.2.1) ∧ rR K (n + 1) (T0 + Y.2.2.2.2.1) Y.1 Y.2.1 Y.2.2.1 Y.2.2.2.2.2 u.1 u.2.1 u.2.2.1 u.2.2.2.1 u.2.2.2.2.1 u.2.2.2.2.2.1 u.2.2.2.2.2.2.1) (fun u => oB dC dI [(cI, .int), (cZ, .boolean)] A (rW ad cI cZ K row (nI (n + 1)) (upd sd n seed) (upd vl n v) u.1 u.2.1 u.2.2.1 u.2.2.2.1 u.2.2.2.2.1 u.2.2.2.2.2.1 u.2.2.2.2.2.2.1 u.2.2.2.2.2.2.2.1 u.2.2.2.2.2.2.2.2)) A) ([.ref (ad 0), .int seed, .int v] : List Value).toArray s 0 0 A) (F0 m 98 ls []) := by
    intro f9
    induction f9 with
    | zero =>
      intro h y wt1 tn1 kn1 tl1 od1 fd1 cl1 in1 st1 x H locs ls hf hI hR hv hx9 hP hD hS hl
      have hql := qInv_le hI
      rcases qR_first hn1 (by omega) hI hR hx9 with ⟨rfl, hh⟩ | ⟨hlt, j, hj, rfl, ej⟩
      · skip
        have hyY : y = Y := by rw [← hv]; exact (rn_stop (by omega)).symm
        have hfd := hR.2.2.2.1
        refine lv_iload hx hb dX1_receive_98 (lv_at hl 0 rfl) ?_
        refine lv_iconst (v := (-1)) hx hb dX1_receive_100 (by decide) ?_
        refine lv_icmp_eq (tgt := 158) hx hb dX1_receive_101 (by decide) (fun c1 => ?_) (fun c1 => ?_)
        · skip
          rw [← hyY]
          refine lv_aload_n hx hb dX1_receive_158 rfl (lv_at hl 1 rfl) ?_
          refine va_get (D := (dC, dI)) (ci := 1) (v := .int fd1) (C := RX1) (T := TX1) (N := 14) hx hb hts hw0 hown hK hP 0 rfl rfl 10 (by decide) (hts (.fieldLink RX1 62 "DropCodeModel" "found" "I") (by decide +kernel)) (fun _ h9 => h9) rfl dX1_receive_159 ?_
          exact W.iret (v := fd1) hx hb hr (fun t ht hW => ⟨⟨fd1, (wt1, tn1, kn1, tl1, od1, fd1, cl1, in1, st1), rfl, ⟨hfd, qR_rest hh hR⟩, by rw [ht]; exact hP, va_K.moved hW.alike hK, hD⟩, hS.F ht⟩) hS.2.2 dX1_receive_162
        · skip
          exact absurd rfl c1
      · skip
        exact absurd hlt (by omega)
    | succ f9 ih =>
      intro h y wt1 tn1 kn1 tl1 od1 fd1 cl1 in1 st1 x H locs ls hf hI hR hv hx9 hP hD hS hl
      have hql := qInv_le hI
      rcases qR_first hn1 (by omega) hI hR hx9 with ⟨rfl, hh⟩ | ⟨hlt, j, hj, rfl, ej⟩
      · skip
        have hyY : y = Y := by rw [← hv]; exact (rn_stop (by omega)).symm
        have hfd := hR.2.2.2.1
        refine lv_iload hx hb dX1_receive_98 (lv_at hl 0 rfl) ?_
        refine lv_iconst (v := (-1)) hx hb dX1_receive_100 (by decide) ?_
        refine lv_icmp_eq (tgt := 158) hx hb dX1_receive_101 (by decide) (fun c1 => ?_) (fun c1 => ?_)
        · skip
          rw [← hyY]
          refine lv_aload_n hx hb dX1_receive_158 rfl (lv_at hl 1 rfl) ?_
          refine va_get (D := (dC, dI)) (ci := 1) (v := .int fd1) (C := RX1) (T := TX1) (N := 14) hx hb hts hw0 hown hK hP 0 rfl rfl 10 (by decide) (hts (.fieldLink RX1 62 "DropCodeModel" "found" "I") (by decide +kernel)) (fun _ h9 => h9) rfl dX1_receive_159 ?_
          exact W.iret (v := fd1) hx hb hr (fun t ht hW => ⟨⟨fd1, (wt1, tn1, kn1, tl1, od1, fd1, cl1, in1, st1), rfl, ⟨hfd, qR_rest hh hR⟩, by rw [ht]; exact hP, va_K.moved hW.alike hK, hD⟩, hS.F ht⟩) hS.2.2 dX1_receive_162
        · skip
          exact absurd rfl c1
      · skip
        refine lv_iload hx hb dX1_receive_98 (lv_at hl 0 rfl) ?_
        refine lv_iconst (v := (-1)) hx hb dX1_receive_100 (by decide) ?_
        refine lv_icmp_eq (tgt := 158) hx hb dX1_receive_101 (by decide) (fun c1 => ?_) (fun c1 => ?_)
        · skip
          exact absurd c1 (nI_m1 (by omega))
        · skip
          have r4 := hR.2.2.2.1
          have r5 := hR.2.2.2.2.1
          have r6 := hR.2.2.2.2.2.1
          have r1 := hR.1
          have r2 := hR.2.1
          subst r4
          subst r5
          subst r6
          have hy2 := qInv_tk (V := V1) hK2 hn1 hSb hI hlt hj ej
          have hop1 : opn (S1 j) y.2.2.1 ≤ 1 := q_op hn1 hI hlt hj ej
          have hv2 : rnF K (n + 1) S1 V1 f9 (h + 1) (tkF K (n + 1) S1 V1 j y) = Y := by rw [← hv, rnF, if_pos hlt, ej, nI_clamp (by omega)]
          have hj60 : j < 60 := by omega
          refine lv_aload_n hx hb dX1_receive_104 rfl (lv_at hl 1 rfl) ?_
          refine va_get (D := (dC, dI)) (ci := 1) (v := .ref (ad 4)) (C := RX1) (T := TX1) (N := 14) hx hb hts hw0 hown hK hP 0 rfl rfl 5 (by decide) (hts (.fieldLink RX1 19 "DropCodeModel" "waits" "[I") (by decide +kernel)) (fun _ h9 => h9) rfl dX1_receive_105 ?_
          refine lv_iload hx hb dX1_receive_108 (lv_at hl 0 rfl) ?_
          refine lv_iconst (v := 0) hx hb dX1_receive_110 (by decide) ?_
          refine va_iast (i := nI j) hx hb hK hP hD hS 4 0 rfl rfl (vp_in_nI hj60 (by omega)) dX1_receive_111 (fun H locs hP hD hS => ?_)
          rw [nI_clamp (by omega)] at hP hD
          have hP : va_P (dC, dI) vwCl (rW ad cI cZ K row (nI (n + 1)) (upd sd n seed) (upd vl n v) (upd wt1 j 0) (nI (T0 + y.2.2.2.2.1)) kn1 tl1 od1 (nI (pc y.2.2.1)) y.2.2.2.2.2 in1 st1) H := hP
          have hD : va_D A (rW ad cI cZ K row (nI (n + 1)) (upd sd n seed) (upd vl n v) (upd wt1 j 0) (nI (T0 + y.2.2.2.2.1)) kn1 tl1 od1 (nI (pc y.2.2.1)) y.2.2.2.2.2 in1 st1) := hD
          refine lv_aload_n hx hb dX1_receive_112 rfl (lv_at hl 1 rfl) ?_
          refine lv_iload hx hb dX1_receive_113 (lv_at hl 0 rfl) ?_
          have hFc := va_free (wc := (rW ad cI cZ K row (nI (n + 1)) (upd sd n seed) (upd vl n v) (upd wt1 j 0) (nI (T0 + y.2.2.2.2.1)) kn1 tl1 od1 (nI (pc y.2.2.1)) y.2.2.2.2.2 in1 st1)) hD hS hA [0, 1, 2, 3, 4, 5, 6, 7, 8] rfl
          refine va_calli (va_runV (As := [.int (nI j)]) (rest := []) ⟨hx, hb, hml, hown, hts⟩ (c_X1_isOpen l dC dI H.size ad cI cZ K row (nI (n + 1)) (upd sd n seed) (upd vl n v) (upd wt1 j 0) (nI (T0 + y.2.2.2.2.1)) kn1 tl1 od1 (nI (pc y.2.2.1)) y.2.2.2.2.2 in1 st1 hK1 hK2 y.2.2.1 r1 j hj60) (cwV 1 hts gX1_receive_X1_isOpen rfl rfl rfl (by decide +kernel) ⟨Nat.le_of_ble_eq_true rfl, Nat.le_of_ble_eq_true rfl⟩) ⟨wFb, va_recv hK hP (ci := 1) (q0 := 0) rfl rfl, fun U hU hW => ⟨rfl, by rw [hU], by rw [hU]; exact hP, va_K.moved hW.alike hK, hD.weaken (fun _ _ _ _ => trivial)⟩⟩ rfl rfl hl.1 rfl (lv_room (Nat.le_of_ble_eq_true rfl)) dX1_receive_115 ⟨Nat.le_of_ble_eq_true rfl, Nat.le_of_ble_eq_true rfl⟩) hS (fun q _ h => hFc q h) hFc (fun r_1 u_2 t H1 locs ht hvm hwu_2 hB hz1 hk1 hS => ?_)
          obtain ⟨hP1, hK1, hD1⟩ := hB
          rw [ht] at hP1
          obtain ⟨hP, hD⟩ := va_join (wr := []) (w1 := (rW ad cI cZ K row (nI (n + 1)) (upd sd n seed) (upd vl n v) (upd wt1 j 0) (nI (T0 + y.2.2.2.2.1)) kn1 tl1 od1 (nI (pc y.2.2.1)) y.2.2.2.2.2 u_2.1 u_2.2)) hP hD [0, 1, 2, 3, 4, 5, 6, 7, 8] [] rfl rfl (by decide) (by decide) hk1 hFc hP1 hD1
          clear hP1 hD1 hK1 hFc hk1 hz1
          generalize H1 = H at hP hS ⊢
          have hP : va_P (dC, dI) vwCl (rW ad cI cZ K row (nI (n + 1)) (upd sd n seed) (upd vl n v) (upd wt1 j 0) (nI (T0 + y.2.2.2.2.1)) kn1 tl1 od1 (nI (pc y.2.2.1)) y.2.2.2.2.2 u_2.1 u_2.2) H := hP
          have hD : va_D A (rW ad cI cZ K row (nI (n + 1)) (upd sd n seed) (upd vl n v) (upd wt1 j 0) (nI (T0 + y.2.2.2.2.1)) kn1 tl1 od1 (nI (pc y.2.2.1)) y.2.2.2.2.2 u_2.1 u_2.2) := hD
          obtain ⟨rfl, hinu_2⟩ := hwu_2
          refine lv_topi (fun z_3 ez_3 => ?_)
          have ez_3 : z_3 = nI (opn (S1 j) y.2.2.1) := ez_3.trans (by rw [hSd j hj])
          subst ez_3
          refine lv_if_le (tgt := 130) hx hb dX1_receive_118 (by decide) (fun c2 => ?_) (fun c2 => ?_)
          · skip
            have hu : unk (S1 j) y.2.2.1 = 0 := opn_0' (nI_le0 (pc_le _) c2)
            refine lv_aload_n hx hb dX1_receive_130 rfl (lv_at hl 1 rfl) ?_
            refine lv_iload hx hb dX1_receive_131 (lv_at hl 0 rfl) ?_
            have hFc := va_free (wc := (rW ad cI cZ K row (nI (n + 1)) (upd sd n seed) (upd vl n v) (upd wt1 j 0) (nI (T0 + y.2.2.2.2.1)) kn1 tl1 od1 (nI (pc y.2.2.1)) y.2.2.2.2.2 u_2.1 u_2.2)) hD hS hA [0, 1, 2, 3, 4, 5, 6, 7, 8] rfl
            refine va_calli (va_runV (As := [.int (nI j)]) (rest := []) ⟨hx, hb, hml, hown, hts⟩ (c_X1_off l dC dI H.size ad cI cZ K row (nI (n + 1)) (upd sd n seed) (upd vl n v) (upd wt1 j 0) (nI (T0 + y.2.2.2.2.1)) kn1 tl1 od1 (nI (pc y.2.2.1)) y.2.2.2.2.2 u_2.1 u_2.2 hK1 hK2 y.2.2.1 r1 j hj60) (cwV 1 hts gX1_receive_X1_off rfl rfl rfl (by decide +kernel) ⟨Nat.le_of_ble_eq_true rfl, Nat.le_of_ble_eq_true rfl⟩) ⟨wFb, va_recv hK hP (ci := 1) (q0 := 0) rfl rfl, fun U hU hW => ⟨rfl, by rw [hU], by rw [hU]; exact hP, va_K.moved hW.alike hK, hD.weaken (fun _ _ _ _ => trivial)⟩⟩ rfl rfl hl.1 rfl (lv_room (Nat.le_of_ble_eq_true rfl)) dX1_receive_133 ⟨Nat.le_of_ble_eq_true rfl, Nat.le_of_ble_eq_true rfl⟩) hS (fun q _ h => hFc q h) hFc (fun r_4 u_5 t H1 locs ht hvm hwu_5 hB hz1 hk1 hS => ?_)
            obtain ⟨hP1, hK1, hD1⟩ := hB
            rw [ht] at hP1
            obtain ⟨hP, hD⟩ := va_join (wr := []) (w1 := (rW ad cI cZ K row (nI (n + 1)) (upd sd n seed) (upd vl n v) (upd wt1 j 0) (nI (T0 + y.2.2.2.2.1)) kn1 tl1 od1 (nI (pc y.2.2.1)) y.2.2.2.2.2 u_5.1 u_5.2)) hP hD [0, 1, 2, 3, 4, 5, 6, 7, 8] [] rfl rfl (by decide) (by decide) hk1 hFc hP1 hD1
            clear hP1 hD1 hK1 hFc hk1 hz1
            generalize H1 = H at hP hS ⊢
            have hP : va_P (dC, dI) vwCl (rW ad cI cZ K row (nI (n + 1)) (upd sd n seed) (upd vl n v) (upd wt1 j 0) (nI (T0 + y.2.2.2.2.1)) kn1 tl1 od1 (nI (pc y.2.2.1)) y.2.2.2.2.2 u_5.1 u_5.2) H := hP
            have hD : va_D A (rW ad cI cZ K row (nI (n + 1)) (upd sd n seed) (upd vl n v) (upd wt1 j 0) (nI (T0 + y.2.2.2.2.1)) kn1 tl1 od1 (nI (pc y.2.2.1)) y.2.2.2.2.2 u_5.1 u_5.2) := hD
            obtain ⟨rfl, hinu_5⟩ := hwu_5
            refine lv_topi (fun z_6 ez_6 => ?_)
            have ez_6 : z_6 = V1 j ^^^ xk K tl1 (S1 j) y.2.2.1 := ez_6.trans (by rw [hSd j hj, hVl j hj])
            subst ez_6
            refine lv_if_eq (tgt := 149) hx hb dX1_receive_136 (by decide) (fun c3 => ?_) (fun c3 => ?_)
            · skip
              have hxk : xk K y.1 (S1 j) y.2.2.1 = V1 j := by rw [← xk_congr r2]; exact xor_eq0.mp c3
              refine lv_aload_n hx hb dX1_receive_149 rfl (lv_at hl 1 rfl) ?_
              refine vp_callSi (W.runV (As := []) (rest := []) ⟨hx, hb, hml, hown, hts⟩ (c_X1_first l dC dI ad cI cZ K row (upd sd n seed) (upd vl n v) (upd wt1 j 0) (nI (T0 + y.2.2.2.2.1)) kn1 tl1 od1 (nI (pc y.2.2.1)) y.2.2.2.2.2 u_5.1 u_5.2 (n + 1) hn1) (cwV 0 hts gX1_receive_X1_first rfl rfl rfl (by decide +kernel) ⟨Nat.le_of_ble_eq_true rfl, Nat.le_of_ble_eq_true rfl⟩) ⟨rFb, va_recv hK hP (ci := 1) (q0 := 0) rfl rfl, fun U hU hW => ⟨rfl, by rw [hU]; exact hP, va_K.moved hW.alike hK⟩⟩ rfl rfl hl.1 rfl (lv_room (Nat.le_of_ble_eq_true rfl)) dX1_receive_150 ⟨Nat.zero_le _, Nat.zero_le _⟩) (fun r_7 er_7 => ?_)
              refine lv_istore (lv' := [(5, .int r_7), (0, .ref (ad 0))]) hx hb dX1_receive_153 hl (by decide) rfl (fun ls hl => ?_)
              refine lv_goto (tgt := 98) hx hb dX1_receive_155 (by decide) ?_
              exact ih (h + 1) (tkF K (n + 1) S1 V1 j y) _ _ _ _ _ _ _ _ _ _ _ _ ls (by omega) hy2 (qR_out hn1 hI hR hlt hj ej hu (if_pos hxk).symm) hv2 er_7 hP hD hS (lv_sub hl [0, 1] rfl)
            · skip
              have hxk : ¬ xk K y.1 (S1 j) y.2.2.1 = V1 j := by rw [← xk_congr r2]; exact fun h => c3 (xor_eq0.mpr h)
              refine lv_aload_n hx hb dX1_receive_139 rfl (lv_at hl 1 rfl) ?_
              refine lv_dup hx hb dX1_receive_140 rfl ?_
              refine va_get (D := (dC, dI)) (ci := 1) (v := .int y.2.2.2.2.2) (C := RX1) (T := TX1) (N := 14) hx hb hts hw0 hown hK hP 0 rfl rfl 11 (by decide) (hts (.fieldLink RX1 72 "DropCodeModel" "clashes" "I") (by decide +kernel)) (fun _ h9 => h9) rfl dX1_receive_141 ?_
              refine lv_iconst (v := 1) hx hb dX1_receive_144 (by decide) ?_
              refine lv_iadd hx hb dX1_receive_145 ?_
              refine va_put (D := (dC, dI)) (ci := 1) (v := .int (y.2.2.2.2.2 + 1)) (ty := .int) (C := RX1) (T := TX1) (N := 14) hx hb hts hw0 tyX1 tyX1_ok nmX1 hown hK hP hD hS 0 rfl rfl 11 (by decide) (hts (.fieldLink RX1 72 "DropCodeModel" "clashes" "I") (by decide +kernel)) (fun _ h9 => h9) rfl (by decide +kernel) rfl rfl (Nat.le_of_ble_eq_true rfl) dX1_receive_146 (fun H locs hP hD hS => ?_)
              have hP : va_P (dC, dI) vwCl (rW ad cI cZ K row (nI (n + 1)) (upd sd n seed) (upd vl n v) (upd wt1 j 0) (nI (T0 + y.2.2.2.2.1)) kn1 tl1 od1 (nI (pc y.2.2.1)) (y.2.2.2.2.2 + 1) u_5.1 u_5.2) H := hP
              have hD : va_D A (rW ad cI cZ K row (nI (n + 1)) (upd sd n seed) (upd vl n v) (upd wt1 j 0) (nI (T0 + y.2.2.2.2.1)) kn1 tl1 od1 (nI (pc y.2.2.1)) (y.2.2.2.2.2 + 1) u_5.1 u_5.2) := hD
              refine lv_aload_n hx hb dX1_receive_149 rfl (lv_at hl 1 rfl) ?_
              refine vp_callSi (W.runV (As := []) (rest := []) ⟨hx, hb, hml, hown, hts⟩ (c_X1_first l dC dI ad cI cZ K row (upd sd n seed) (upd vl n v) (upd wt1 j 0) (nI (T0 + y.2.2.2.2.1)) kn1 tl1 od1 (nI (pc y.2.2.1)) (y.2.2.2.2.2 + 1) u_5.1 u_5.2 (n + 1) hn1) (cwV 0 hts gX1_receive_X1_first rfl rfl rfl (by decide +kernel) ⟨Nat.le_of_ble_eq_true rfl, Nat.le_of_ble_eq_true rfl⟩) ⟨rFb, va_recv hK hP (ci := 1) (q0 := 0) rfl rfl, fun U hU hW => ⟨rfl, by rw [hU]; exact hP, va_K.moved hW.alike hK⟩⟩ rfl rfl hl.1 rfl (lv_room (Nat.le_of_ble_eq_true rfl)) dX1_receive_150 ⟨Nat.zero_le _, Nat.zero_le _⟩) (fun r_7 er_7 => ?_)
              refine lv_istore (lv' := [(5, .int r_7), (0, .ref (ad 0))]) hx hb dX1_receive_153 hl (by decide) rfl (fun ls hl => ?_)
              refine lv_goto (tgt := 98) hx hb dX1_receive_155 (by decide) ?_
              exact ih (h + 1) (tkF K (n + 1) S1 V1 j y) _ _ _ _ _ _ _ _ _ _ _ _ ls (by omega) hy2 (qR_out hn1 hI hR hlt hj ej hu (if_neg hxk).symm) hv2 er_7 hP hD hS (lv_sub hl [0, 1] rfl)
          · skip
            have ho1 : opn (S1 j) y.2.2.1 = 1 := by rcases Nat.lt_or_ge (opn (S1 j) y.2.2.1) 1 with g | g; exact absurd (by rw [show opn (S1 j) y.2.2.1 = 0 by omega]; exact Int32.le_refl _) c2; omega
            obtain ⟨i, hi, e1, e2, e3⟩ := opn_1 ho1
            have hiK : i < K := hSb j hj i e2
            have hpc := pc_room hK2 hI.1 hiK e3
            have hnc : ∀ k, k < n + 1 → bt (S1 k) i = true → opn (S1 k) (y.2.2.1 ||| tw i) = 0 → upd wt1 j 0 k = 0 → upd vl n v k ^^^ xk K (upd tl1 i (upd vl n v j ^^^ xk K tl1 (S1 j) y.2.2.1)) (S1 k) (y.2.2.1 ||| tw i) = 0 := by
              intro k hk hb9 ho9 hw9
              rw [← hVl k hk, ← hVl j hj]
              exact qR_nc hn1 (by omega) hI hR hj hi hiK e2 e3 k hk hb9 ho9 hw9
            refine lv_aload_n hx hb dX1_receive_121 rfl (lv_at hl 1 rfl) ?_
            refine lv_iload hx hb dX1_receive_122 (lv_at hl 0 rfl) ?_
            have hFc := va_free (wc := (rW ad cI cZ K row (nI (n + 1)) (upd sd n seed) (upd vl n v) (upd wt1 j 0) (nI (T0 + y.2.2.2.2.1)) kn1 tl1 od1 (nI (pc y.2.2.1)) y.2.2.2.2.2 u_2.1 u_2.2)) hD hS hA [0, 1, 2, 3, 4, 5, 6, 7, 8] rfl
            refine va_callv (va_runV (As := [.int (nI j)]) (rest := []) ⟨hx, hb, hml, hown, hts⟩ (c_X1_learn l dC dI H.size ad cI cZ K row (upd sd n seed) (upd vl n v) (upd wt1 j 0) kn1 tl1 od1 y.2.2.2.2.2 u_2.1 u_2.2 hK1 hK2 (n + 1) hn1 (T0 + y.2.2.2.2.1) (pc y.2.2.1) (by omega) y.2.2.1 r1 S1 hSd j hj i hiK e1 e2 e3 hnc) (cwV 1 hts gX1_receive_X1_learn rfl rfl rfl (by decide +kernel) ⟨Nat.le_of_ble_eq_true rfl, Nat.le_of_ble_eq_true rfl⟩) ⟨wFb, va_recv hK hP (ci := 1) (q0 := 0) rfl rfl, fun U hU hW => ⟨rfl, by rw [hU], by rw [hU]; exact hP, va_K.moved hW.alike hK, hD.weaken (fun _ _ _ _ => trivial)⟩⟩ rfl rfl hl.1 rfl (lv_room (Nat.le_of_ble_eq_true rfl)) dX1_receive_124 ⟨Nat.le_of_ble_eq_true rfl, Nat.le_of_ble_eq_true rfl⟩) hS (fun q _ h => hFc q h) hFc (fun u_5 t H1 locs ht hvm hwu_5 hB hz1 hk1 hS => ?_)
            obtain ⟨hP1, hK1, hD1⟩ := hB
            rw [ht] at hP1
            obtain ⟨hP, hD⟩ := va_join (wr := []) (w1 := (rW ad cI cZ K row (nI (n + 1)) (upd sd n seed) (upd vl n v) (awA (upd wt1 j 0) (T0 + y.2.2.2.2.1) (eqP i S1 (y.2.2.1 ||| tw i)) (n + 1)) (nI (T0 + y.2.2.2.2.1 + cn (eqP i S1 (y.2.2.1 ||| tw i)) (n + 1))) (upd kn1 i (vp_nar .boolean 1)) (upd tl1 i (upd vl n v j ^^^ xk K tl1 (S1 j) y.2.2.1)) (upd od1 (pc y.2.2.1) (nI i)) (nI (pc y.2.2.1 + 1)) y.2.2.2.2.2 u_5.1 u_5.2)) hP hD [0, 1, 2, 3, 4, 5, 6, 7, 8] [] rfl rfl (by decide) (by decide) hk1 hFc hP1 hD1
            clear hP1 hD1 hK1 hFc hk1 hz1
            generalize H1 = H at hP hS ⊢
            have hP : va_P (dC, dI) vwCl (rW ad cI cZ K row (nI (n + 1)) (upd sd n seed) (upd vl n v) (awA (upd wt1 j 0) (T0 + y.2.2.2.2.1) (eqP i S1 (y.2.2.1 ||| tw i)) (n + 1)) (nI (T0 + y.2.2.2.2.1 + cn (eqP i S1 (y.2.2.1 ||| tw i)) (n + 1))) (upd kn1 i (vp_nar .boolean 1)) (upd tl1 i (upd vl n v j ^^^ xk K tl1 (S1 j) y.2.2.1)) (upd od1 (pc y.2.2.1) (nI i)) (nI (pc y.2.2.1 + 1)) y.2.2.2.2.2 u_5.1 u_5.2) H := hP
            have hD : va_D A (rW ad cI cZ K row (nI (n + 1)) (upd sd n seed) (upd vl n v) (awA (upd wt1 j 0) (T0 + y.2.2.2.2.1) (eqP i S1 (y.2.2.1 ||| tw i)) (n + 1)) (nI (T0 + y.2.2.2.2.1 + cn (eqP i S1 (y.2.2.1 ||| tw i)) (n + 1))) (upd kn1 i (vp_nar .boolean 1)) (upd tl1 i (upd vl n v j ^^^ xk K tl1 (S1 j) y.2.2.1)) (upd od1 (pc y.2.2.1) (nI i)) (nI (pc y.2.2.1 + 1)) y.2.2.2.2.2 u_5.1 u_5.2) := hD
            skip
            refine lv_goto (tgt := 149) hx hb dX1_receive_127 (by decide) ?_
            refine lv_aload_n hx hb dX1_receive_149 rfl (lv_at hl 1 rfl) ?_
            refine vp_callSi (W.runV (As := []) (rest := []) ⟨hx, hb, hml, hown, hts⟩ (c_X1_first l dC dI ad cI cZ K row (upd sd n seed) (upd vl n v) (awA (upd wt1 j 0) (T0 + y.2.2.2.2.1) (eqP i S1 (y.2.2.1 ||| tw i)) (n + 1)) (nI (T0 + y.2.2.2.2.1 + cn (eqP i S1 (y.2.2.1 ||| tw i)) (n + 1))) (upd kn1 i (vp_nar .boolean 1)) (upd tl1 i (upd vl n v j ^^^ xk K tl1 (S1 j) y.2.2.1)) (upd od1 (pc y.2.2.1) (nI i)) (nI (pc y.2.2.1 + 1)) y.2.2.2.2.2 u_5.1 u_5.2 (n + 1) hn1) (cwV 0 hts gX1_receive_X1_first rfl rfl rfl (by decide +kernel) ⟨Nat.le_of_ble_eq_true rfl, Nat.le_of_ble_eq_true rfl⟩) ⟨rFb, va_recv hK hP (ci := 1) (q0 := 0) rfl rfl, fun U hU hW => ⟨rfl, by rw [hU]; exact hP, va_K.moved hW.alike hK⟩⟩ rfl rfl hl.1 rfl (lv_room (Nat.le_of_ble_eq_true rfl)) dX1_receive_150 ⟨Nat.zero_le _, Nat.zero_le _⟩) (fun r_6 er_6 => ?_)
            refine lv_istore (lv' := [(5, .int r_6), (0, .ref (ad 0))]) hx hb dX1_receive_153 hl (by decide) rfl (fun ls hl => ?_)
            refine lv_goto (tgt := 98) hx hb dX1_receive_155 (by decide) ?_
            exact ih (h + 1) (tkF K (n + 1) S1 V1 j y) _ _ _ _ _ _ _ _ _ _ _ _ ls (by omega) hy2 (by rw [← hVl j hj]; exact qR_learn hK2 hn1 hI hR hlt hj ej hi hiK e1 e3) hv2 er_6 hP hD hS (lv_sub hl [0, 1] rfl)
  refine lv_icmp_ne (tgt := 12) hx hb dX1_receive_6 (by decide) (fun c1 => ?_) (fun c1 => ?_)
  · skip
    refine lv_aload_n hx hb dX1_receive_12 rfl (lv_at hl 0 rfl) ?_
    refine va_get (D := (dC, dI)) (ci := 1) (v := .int (nI n)) (C := RX1) (T := TX1) (N := 14) hx hb hts hw0 hown hK hP 0 rfl rfl 2 (by decide) (hts (.fieldLink RX1 56 "DropCodeModel" "came" "I") (by decide +kernel)) (fun _ h9 => h9) rfl dX1_receive_13 ?_
    refine lv_istore_n (lv' := [(3, .int (nI n)), (0, .ref (ad 0)), (1, .int seed), (2, .int v)]) hx hb dX1_receive_16 rfl hl (by decide) rfl (fun ls hl => ?_)
    refine lv_aload_n hx hb dX1_receive_17 rfl (lv_at hl 1 rfl) ?_
    refine lv_dup hx hb dX1_receive_18 rfl ?_
    refine va_get (D := (dC, dI)) (ci := 1) (v := .int (nI n)) (C := RX1) (T := TX1) (N := 14) hx hb hts hw0 hown hK hP 0 rfl rfl 2 (by decide) (hts (.fieldLink RX1 56 "DropCodeModel" "came" "I") (by decide +kernel)) (fun _ h9 => h9) rfl dX1_receive_19 ?_
    refine lv_iconst (v := 1) hx hb dX1_receive_22 (by decide) ?_
    refine lv_iadd hx hb dX1_receive_23 ?_
    refine lv_topi (fun z_1 ez_1 => ?_)
    have ez_1 : z_1 = nI (n + 1) := ez_1.trans (nI_1 n)
    subst ez_1
    refine va_put (D := (dC, dI)) (ci := 1) (v := .int (nI (n + 1))) (ty := .int) (C := RX1) (T := TX1) (N := 14) hx hb hts hw0 tyX1 tyX1_ok nmX1 hown hK hP hD hS 0 rfl rfl 2 (by decide) (hts (.fieldLink RX1 56 "DropCodeModel" "came" "I") (by decide +kernel)) (fun _ h9 => h9) rfl (by decide +kernel) rfl rfl (Nat.le_of_ble_eq_true rfl) dX1_receive_24 (fun H locs hP hD hS => ?_)
    have hP : va_P (dC, dI) vwCl (rW ad cI cZ K row (nI (n + 1)) sd vl wt (nI T0) kn tl od (nI (pc kb)) cl0 inn stt) H := hP
    have hD : va_D A (rW ad cI cZ K row (nI (n + 1)) sd vl wt (nI T0) kn tl od (nI (pc kb)) cl0 inn stt) := hD
    refine lv_aload_n hx hb dX1_receive_27 rfl (lv_at hl 1 rfl) ?_
    refine va_get (D := (dC, dI)) (ci := 1) (v := .ref (ad 2)) (C := RX1) (T := TX1) (N := 14) hx hb hts hw0 hown hK hP 0 rfl rfl 3 (by decide) (hts (.fieldLink RX1 13 "DropCodeModel" "seeds" "[I") (by decide +kernel)) (fun _ h9 => h9) rfl dX1_receive_28 ?_
    refine lv_iload_n hx hb dX1_receive_31 rfl (lv_at hl 0 rfl) ?_
    refine lv_iload_n hx hb dX1_receive_32 rfl (lv_at hl 2 rfl) ?_
    refine va_iast (i := nI n) hx hb hK hP hD hS 2 0 rfl rfl (vp_in_nI hn (by omega)) dX1_receive_33 (fun H locs hP hD hS => ?_)
    rw [nI_clamp (by omega)] at hP hD
    have hP : va_P (dC, dI) vwCl (rW ad cI cZ K row (nI (n + 1)) (upd sd n seed) vl wt (nI T0) kn tl od (nI (pc kb)) cl0 inn stt) H := hP
    have hD : va_D A (rW ad cI cZ K row (nI (n + 1)) (upd sd n seed) vl wt (nI T0) kn tl od (nI (pc kb)) cl0 inn stt) := hD
    refine lv_aload_n hx hb dX1_receive_34 rfl (lv_at hl 1 rfl) ?_
    refine va_get (D := (dC, dI)) (ci := 1) (v := .ref (ad 3)) (C := RX1) (T := TX1) (N := 14) hx hb hts hw0 hown hK hP 0 rfl rfl 4 (by decide) (hts (.fieldLink RX1 16 "DropCodeModel" "values" "[I") (by decide +kernel)) (fun _ h9 => h9) rfl dX1_receive_35 ?_
    refine lv_iload_n hx hb dX1_receive_38 rfl (lv_at hl 0 rfl) ?_
    refine lv_iload_n hx hb dX1_receive_39 rfl (lv_at hl 3 rfl) ?_
    refine va_iast (i := nI n) hx hb hK hP hD hS 3 0 rfl rfl (vp_in_nI hn (by omega)) dX1_receive_40 (fun H locs hP hD hS => ?_)
    rw [nI_clamp (by omega)] at hP hD
    have hP : va_P (dC, dI) vwCl (rW ad cI cZ K row (nI (n + 1)) (upd sd n seed) (upd vl n v) wt (nI T0) kn tl od (nI (pc kb)) cl0 inn stt) H := hP
    have hD : va_D A (rW ad cI cZ K row (nI (n + 1)) (upd sd n seed) (upd vl n v) wt (nI T0) kn tl od (nI (pc kb)) cl0 inn stt) := hD
    refine lv_aload_n hx hb dX1_receive_41 rfl (lv_at hl 1 rfl) ?_
    refine va_get (D := (dC, dI)) (ci := 1) (v := .ref (ad 4)) (C := RX1) (T := TX1) (N := 14) hx hb hts hw0 hown hK hP 0 rfl rfl 5 (by decide) (hts (.fieldLink RX1 19 "DropCodeModel" "waits" "[I") (by decide +kernel)) (fun _ h9 => h9) rfl dX1_receive_42 ?_
    refine lv_iload_n hx hb dX1_receive_45 rfl (lv_at hl 0 rfl) ?_
    refine lv_iconst (v := 0) hx hb dX1_receive_46 (by decide) ?_
    refine va_iast (i := nI n) hx hb hK hP hD hS 4 0 rfl rfl (vp_in_nI hn (by omega)) dX1_receive_47 (fun H locs hP hD hS => ?_)
    rw [nI_clamp (by omega)] at hP hD
    have hP : va_P (dC, dI) vwCl (rW ad cI cZ K row (nI (n + 1)) (upd sd n seed) (upd vl n v) (upd wt n 0) (nI T0) kn tl od (nI (pc kb)) cl0 inn stt) H := hP
    have hD : va_D A (rW ad cI cZ K row (nI (n + 1)) (upd sd n seed) (upd vl n v) (upd wt n 0) (nI T0) kn tl od (nI (pc kb)) cl0 inn stt) := hD
    refine lv_aload_n hx hb dX1_receive_48 rfl (lv_at hl 1 rfl) ?_
    refine lv_iload_n hx hb dX1_receive_49 rfl (lv_at hl 0 rfl) ?_
    have hFc := va_free (wc := (rW ad cI cZ K row (nI (n + 1)) (upd sd n seed) (upd vl n v) (upd wt n 0) (nI T0) kn tl od (nI (pc kb)) cl0 inn stt)) hD hS hA [0, 1, 2, 3, 4, 5, 6, 7, 8] rfl
    refine va_calli (va_runV (As := [.int (nI n)]) (rest := []) ⟨hx, hb, hml, hown, hts⟩ (c_X1_isOpen l dC dI H.size ad cI cZ K row (nI (n + 1)) (upd sd n seed) (upd vl n v) (upd wt n 0) (nI T0) kn tl od (nI (pc kb)) cl0 inn stt hK1 hK2 kb hR0.1 n hn) (cwV 1 hts gX1_receive_X1_isOpen rfl rfl rfl (by decide +kernel) ⟨Nat.le_of_ble_eq_true rfl, Nat.le_of_ble_eq_true rfl⟩) ⟨wFb, va_recv hK hP (ci := 1) (q0 := 0) rfl rfl, fun U hU hW => ⟨rfl, by rw [hU], by rw [hU]; exact hP, va_K.moved hW.alike hK, hD.weaken (fun _ _ _ _ => trivial)⟩⟩ rfl rfl hl.1 rfl (lv_room (Nat.le_of_ble_eq_true rfl)) dX1_receive_50 ⟨Nat.le_of_ble_eq_true rfl, Nat.le_of_ble_eq_true rfl⟩) hS (fun q _ h => hFc q h) hFc (fun r_2 u_3 t H1 locs ht hvm hwu_3 hB hz1 hk1 hS => ?_)
    obtain ⟨hP1, hK1, hD1⟩ := hB
    rw [ht] at hP1
    obtain ⟨hP, hD⟩ := va_join (wr := []) (w1 := (rW ad cI cZ K row (nI (n + 1)) (upd sd n seed) (upd vl n v) (upd wt n 0) (nI T0) kn tl od (nI (pc kb)) cl0 u_3.1 u_3.2)) hP hD [0, 1, 2, 3, 4, 5, 6, 7, 8] [] rfl rfl (by decide) (by decide) hk1 hFc hP1 hD1
    clear hP1 hD1 hK1 hFc hk1 hz1
    generalize H1 = H at hP hS ⊢
    have hP : va_P (dC, dI) vwCl (rW ad cI cZ K row (nI (n + 1)) (upd sd n seed) (upd vl n v) (upd wt n 0) (nI T0) kn tl od (nI (pc kb)) cl0 u_3.1 u_3.2) H := hP
    have hD : va_D A (rW ad cI cZ K row (nI (n + 1)) (upd sd n seed) (upd vl n v) (upd wt n 0) (nI T0) kn tl od (nI (pc kb)) cl0 u_3.1 u_3.2) := hD
    obtain ⟨rfl, hinu_3⟩ := hwu_3
    refine lv_topi (fun z_4 ez_4 => ?_)
    have ez_4 : z_4 = nI (opn (S1 n) kb) := ez_4.trans (by rw [hSd n (by omega)])
    subst ez_4
    refine lv_istore (lv' := [(4, .int (nI (opn (S1 n) kb))), (3, .int (nI n)), (0, .ref (ad 0)), (1, .int seed), (2, .int v)]) hx hb dX1_receive_53 hl (by decide) rfl (fun ls hl => ?_)
    refine lv_iload hx hb dX1_receive_55 (lv_at hl 0 rfl) ?_
    refine lv_iconst (v := 1) hx hb dX1_receive_57 (by decide) ?_
    refine lv_icmp_ne (tgt := 69) hx hb dX1_receive_58 (by decide) (fun c2 => ?_) (fun c2 => ?_)
    · skip
      have hne : ¬ opn (S1 n) kb = 1 := fun h => c2 (by rw [h]; rfl)
      refine lv_iload hx hb dX1_receive_69 (lv_at hl 0 rfl) ?_
      refine lv_if_ne (tgt := 92) hx hb dX1_receive_71 (by decide) (fun c3 => ?_) (fun c3 => ?_)
      · skip
        refine lv_aload_n hx hb dX1_receive_92 rfl (lv_at hl 2 rfl) ?_
        refine vp_callSi (W.runV (As := []) (rest := []) ⟨hx, hb, hml, hown, hts⟩ (c_X1_first l dC dI ad cI cZ K row (upd sd n seed) (upd vl n v) (upd wt n 0) (nI T0) kn tl od (nI (pc kb)) cl0 u_3.1 u_3.2 (n + 1) hn1) (cwV 0 hts gX1_receive_X1_first rfl rfl rfl (by decide +kernel) ⟨Nat.le_of_ble_eq_true rfl, Nat.le_of_ble_eq_true rfl⟩) ⟨rFb, va_recv hK hP (ci := 1) (q0 := 0) rfl rfl, fun U hU hW => ⟨rfl, by rw [hU]; exact hP, va_K.moved hW.alike hK⟩⟩ rfl rfl hl.1 rfl (lv_room (Nat.le_of_ble_eq_true rfl)) dX1_receive_93 ⟨Nat.zero_le _, Nat.zero_le _⟩) (fun r_5 er_5 => ?_)
        refine lv_istore (lv' := [(5, .int r_5), (4, .int (nI (opn (S1 n) kb))), (3, .int (nI n)), (0, .ref (ad 0)), (1, .int seed), (2, .int v)]) hx hb dX1_receive_96 hl (by decide) rfl (fun ls hl => ?_)
        exact kM 60 0 _ _ _ _ _ _ _ _ _ _ _ _ _ ls (by omega) hI0 (rest_qR hR0 hne (if_neg (fun h => c3 (by rw [h]; rfl))).symm) hY.symm er_5 hP hD hS (lv_sub hl [0, 3] rfl)
      · skip
        have ho0 : opn (S1 n) kb = 0 := nI_zero (pc_le _) c3
        refine lv_aload_n hx hb dX1_receive_74 rfl (lv_at hl 2 rfl) ?_
        refine lv_iload_n hx hb dX1_receive_75 rfl (lv_at hl 1 rfl) ?_
        have hFc := va_free (wc := (rW ad cI cZ K row (nI (n + 1)) (upd sd n seed) (upd vl n v) (upd wt n 0) (nI T0) kn tl od (nI (pc kb)) cl0 u_3.1 u_3.2)) hD hS hA [0, 1, 2, 3, 4, 5, 6, 7, 8] rfl
        refine va_calli (va_runV (As := [.int (nI n)]) (rest := []) ⟨hx, hb, hml, hown, hts⟩ (c_X1_off l dC dI H.size ad cI cZ K row (nI (n + 1)) (upd sd n seed) (upd vl n v) (upd wt n 0) (nI T0) kn tl od (nI (pc kb)) cl0 u_3.1 u_3.2 hK1 hK2 kb hR0.1 n hn) (cwV 1 hts gX1_receive_X1_off rfl rfl rfl (by decide +kernel) ⟨Nat.le_of_ble_eq_true rfl, Nat.le_of_ble_eq_true rfl⟩) ⟨wFb, va_recv hK hP (ci := 1) (q0 := 0) rfl rfl, fun U hU hW => ⟨rfl, by rw [hU], by rw [hU]; exact hP, va_K.moved hW.alike hK, hD.weaken (fun _ _ _ _ => trivial)⟩⟩ rfl rfl hl.1 rfl (lv_room (Nat.le_of_ble_eq_true rfl)) dX1_receive_76 ⟨Nat.le_of_ble_eq_true rfl, Nat.le_of_ble_eq_true rfl⟩) hS (fun q _ h => hFc q h) hFc (fun r_5 u_6 t H1 locs ht hvm hwu_6 hB hz1 hk1 hS => ?_)
        obtain ⟨hP1, hK1, hD1⟩ := hB
        rw [ht] at hP1
        obtain ⟨hP, hD⟩ := va_join (wr := []) (w1 := (rW ad cI cZ K row (nI (n + 1)) (upd sd n seed) (upd vl n v) (upd wt n 0) (nI T0) kn tl od (nI (pc kb)) cl0 u_6.1 u_6.2)) hP hD [0, 1, 2, 3, 4, 5, 6, 7, 8] [] rfl rfl (by decide) (by decide) hk1 hFc hP1 hD1
        clear hP1 hD1 hK1 hFc hk1 hz1
        generalize H1 = H at hP hS ⊢
        have hP : va_P (dC, dI) vwCl (rW ad cI cZ K row (nI (n + 1)) (upd sd n seed) (upd vl n v) (upd wt n 0) (nI T0) kn tl od (nI (pc kb)) cl0 u_6.1 u_6.2) H := hP
        have hD : va_D A (rW ad cI cZ K row (nI (n + 1)) (upd sd n seed) (upd vl n v) (upd wt n 0) (nI T0) kn tl od (nI (pc kb)) cl0 u_6.1 u_6.2) := hD
        obtain ⟨rfl, hinu_6⟩ := hwu_6
        refine lv_topi (fun z_7 ez_7 => ?_)
        have ez_7 : z_7 = V1 n ^^^ xk K tl (S1 n) kb := ez_7.trans (by rw [hSd n (by omega), hVl n (by omega)])
        subst ez_7
        refine lv_if_eq (tgt := 92) hx hb dX1_receive_79 (by decide) (fun c4 => ?_) (fun c4 => ?_)
        · skip
          have hxk : xk K kw (S1 n) kb = V1 n := by rw [← xk_congr hR0.2.1]; exact xor_eq0.mp c4
          refine lv_aload_n hx hb dX1_receive_92 rfl (lv_at hl 2 rfl) ?_
          refine vp_callSi (W.runV (As := []) (rest := []) ⟨hx, hb, hml, hown, hts⟩ (c_X1_first l dC dI ad cI cZ K row (upd sd n seed) (upd vl n v) (upd wt n 0) (nI T0) kn tl od (nI (pc kb)) cl0 u_6.1 u_6.2 (n + 1) hn1) (cwV 0 hts gX1_receive_X1_first rfl rfl rfl (by decide +kernel) ⟨Nat.le_of_ble_eq_true rfl, Nat.le_of_ble_eq_true rfl⟩) ⟨rFb, va_recv hK hP (ci := 1) (q0 := 0) rfl rfl, fun U hU hW => ⟨rfl, by rw [hU]; exact hP, va_K.moved hW.alike hK⟩⟩ rfl rfl hl.1 rfl (lv_room (Nat.le_of_ble_eq_true rfl)) dX1_receive_93 ⟨Nat.zero_le _, Nat.zero_le _⟩) (fun r_8 er_8 => ?_)
          refine lv_istore (lv' := [(5, .int r_8), (4, .int (nI (opn (S1 n) kb))), (3, .int (nI n)), (0, .ref (ad 0)), (1, .int seed), (2, .int v)]) hx hb dX1_receive_96 hl (by decide) rfl (fun ls hl => ?_)
          exact kM 60 0 _ _ _ _ _ _ _ _ _ _ _ _ _ ls (by omega) hI0 (rest_qR hR0 hne (by rw [if_pos ho0, clA, if_pos hxk])) hY.symm er_8 hP hD hS (lv_sub hl [0, 3] rfl)
        · skip
          have hxk : ¬ xk K kw (S1 n) kb = V1 n := by rw [← xk_congr hR0.2.1]; exact fun h => c4 (xor_eq0.mpr h)
          refine lv_aload_n hx hb dX1_receive_82 rfl (lv_at hl 2 rfl) ?_
          refine lv_dup hx hb dX1_receive_83 rfl ?_
          refine va_get (D := (dC, dI)) (ci := 1) (v := .int cl0) (C := RX1) (T := TX1) (N := 14) hx hb hts hw0 hown hK hP 0 rfl rfl 11 (by decide) (hts (.fieldLink RX1 72 "DropCodeModel" "clashes" "I") (by decide +kernel)) (fun _ h9 => h9) rfl dX1_receive_84 ?_
          refine lv_iconst (v := 1) hx hb dX1_receive_87 (by decide) ?_
          refine lv_iadd hx hb dX1_receive_88 ?_
          refine va_put (D := (dC, dI)) (ci := 1) (v := .int (cl0 + 1)) (ty := .int) (C := RX1) (T := TX1) (N := 14) hx hb hts hw0 tyX1 tyX1_ok nmX1 hown hK hP hD hS 0 rfl rfl 11 (by decide) (hts (.fieldLink RX1 72 "DropCodeModel" "clashes" "I") (by decide +kernel)) (fun _ h9 => h9) rfl (by decide +kernel) rfl rfl (Nat.le_of_ble_eq_true rfl) dX1_receive_89 (fun H locs hP hD hS => ?_)
          have hP : va_P (dC, dI) vwCl (rW ad cI cZ K row (nI (n + 1)) (upd sd n seed) (upd vl n v) (upd wt n 0) (nI T0) kn tl od (nI (pc kb)) (cl0 + 1) u_6.1 u_6.2) H := hP
          have hD : va_D A (rW ad cI cZ K row (nI (n + 1)) (upd sd n seed) (upd vl n v) (upd wt n 0) (nI T0) kn tl od (nI (pc kb)) (cl0 + 1) u_6.1 u_6.2) := hD
          refine lv_aload_n hx hb dX1_receive_92 rfl (lv_at hl 2 rfl) ?_
          refine vp_callSi (W.runV (As := []) (rest := []) ⟨hx, hb, hml, hown, hts⟩ (c_X1_first l dC dI ad cI cZ K row (upd sd n seed) (upd vl n v) (upd wt n 0) (nI T0) kn tl od (nI (pc kb)) (cl0 + 1) u_6.1 u_6.2 (n + 1) hn1) (cwV 0 hts gX1_receive_X1_first rfl rfl rfl (by decide +kernel) ⟨Nat.le_of_ble_eq_true rfl, Nat.le_of_ble_eq_true rfl⟩) ⟨rFb, va_recv hK hP (ci := 1) (q0 := 0) rfl rfl, fun U hU hW => ⟨rfl, by rw [hU]; exact hP, va_K.moved hW.alike hK⟩⟩ rfl rfl hl.1 rfl (lv_room (Nat.le_of_ble_eq_true rfl)) dX1_receive_93 ⟨Nat.zero_le _, Nat.zero_le _⟩) (fun r_8 er_8 => ?_)
          refine lv_istore (lv' := [(5, .int r_8), (4, .int (nI (opn (S1 n) kb))), (3, .int (nI n)), (0, .ref (ad 0)), (1, .int seed), (2, .int v)]) hx hb dX1_receive_96 hl (by decide) rfl (fun ls hl => ?_)
          exact kM 60 0 _ _ _ _ _ _ _ _ _ _ _ _ _ ls (by omega) hI0 (rest_qR hR0 hne (by rw [if_pos ho0, clA, if_neg hxk])) hY.symm er_8 hP hD hS (lv_sub hl [0, 3] rfl)
    · skip
      refine lv_aload_n hx hb dX1_receive_61 rfl (lv_at hl 2 rfl) ?_
      refine lv_iload_n hx hb dX1_receive_62 rfl (lv_at hl 1 rfl) ?_
      have hFc := va_free (wc := (rW ad cI cZ K row (nI (n + 1)) (upd sd n seed) (upd vl n v) (upd wt n 0) (nI T0) kn tl od (nI (pc kb)) cl0 u_3.1 u_3.2)) hD hS hA [0, 1, 2, 3, 4, 5, 6, 7, 8] rfl
      refine va_callv (va_runV (As := [.int (nI n)]) (rest := []) ⟨hx, hb, hml, hown, hts⟩ (c_X1_await l dC dI H.size ad cI cZ K row (nI (n + 1)) (upd sd n seed) (upd vl n v) (upd wt n 0) kn tl od (nI (pc kb)) cl0 u_3.1 u_3.2 T0 n hn) (cwV 1 hts gX1_receive_X1_await rfl rfl rfl (by decide +kernel) ⟨Nat.le_of_ble_eq_true rfl, Nat.le_of_ble_eq_true rfl⟩) ⟨wFb, va_recv hK hP (ci := 1) (q0 := 0) rfl rfl, fun U hU hW => ⟨rfl, by rw [hU], by rw [hU]; exact hP, va_K.moved hW.alike hK, hD.weaken (fun _ _ _ _ => trivial)⟩⟩ rfl rfl hl.1 rfl (lv_room (Nat.le_of_ble_eq_true rfl)) dX1_receive_63 ⟨Nat.le_of_ble_eq_true rfl, Nat.le_of_ble_eq_true rfl⟩) hS (fun q _ h => hFc q h) hFc (fun u t H1 locs ht hvm hw hB hz1 hk1 hS => ?_)
      obtain ⟨hP1, hK1, hD1⟩ := hB
      rw [ht] at hP1
      obtain ⟨hP, hD⟩ := va_join (wr := []) (w1 := (rW ad cI cZ K row (nI (n + 1)) (upd sd n seed) (upd vl n v) (upd (upd wt n 0) n (nI (T0 + 1))) (nI (T0 + 1)) kn tl od (nI (pc kb)) cl0 u_3.1 u_3.2)) hP hD [0, 1, 2, 3, 4, 5, 6, 7, 8] [] rfl rfl (by decide) (by decide) hk1 hFc hP1 hD1
      clear hP1 hD1 hK1 hFc hk1 hz1
      generalize H1 = H at hP hS ⊢
      have hP : va_P (dC, dI) vwCl (rW ad cI cZ K row (nI (n + 1)) (upd sd n seed) (upd vl n v) (upd (upd wt n 0) n (nI (T0 + 1))) (nI (T0 + 1)) kn tl od (nI (pc kb)) cl0 u_3.1 u_3.2) H := hP
      have hD : va_D A (rW ad cI cZ K row (nI (n + 1)) (upd sd n seed) (upd vl n v) (upd (upd wt n 0) n (nI (T0 + 1))) (nI (T0 + 1)) kn tl od (nI (pc kb)) cl0 u_3.1 u_3.2) := hD
      refine lv_goto (tgt := 92) hx hb dX1_receive_66 (by decide) ?_
      refine lv_aload_n hx hb dX1_receive_92 rfl (lv_at hl 2 rfl) ?_
      refine vp_callSi (W.runV (As := []) (rest := []) ⟨hx, hb, hml, hown, hts⟩ (c_X1_first l dC dI ad cI cZ K row (upd sd n seed) (upd vl n v) (upd (upd wt n 0) n (nI (T0 + 1))) (nI (T0 + 1)) kn tl od (nI (pc kb)) cl0 u_3.1 u_3.2 (n + 1) hn1) (cwV 0 hts gX1_receive_X1_first rfl rfl rfl (by decide +kernel) ⟨Nat.le_of_ble_eq_true rfl, Nat.le_of_ble_eq_true rfl⟩) ⟨rFb, va_recv hK hP (ci := 1) (q0 := 0) rfl rfl, fun U hU hW => ⟨rfl, by rw [hU]; exact hP, va_K.moved hW.alike hK⟩⟩ rfl rfl hl.1 rfl (lv_room (Nat.le_of_ble_eq_true rfl)) dX1_receive_93 ⟨Nat.zero_le _, Nat.zero_le _⟩) (fun r_6 er_6 => ?_)
      refine lv_istore (lv' := [(5, .int r_6), (4, .int (nI (opn (S1 n) kb))), (3, .int (nI n)), (0, .ref (ad 0)), (1, .int seed), (2, .int v)]) hx hb dX1_receive_96 hl (by decide) rfl (fun ls hl => ?_)
      exact kM 60 0 _ _ _ _ _ _ _ _ _ _ _ _ _ ls (by omega) hI0 (rest_qR1 hn hR0 (nI_one (pc_le _) c2)) hY.symm er_6 hP hD hS (lv_sub hl [0, 3] rfl)
  · skip
    exact absurd ((nI_eq (a := n) (b := 60) (by omega) (by omega)).mp c1) (by omega)
end
section
/-! ===== what the law keeps between the class and the reference ===== -/
theorem rn_end {K n : Nat} (hK : K ≤ 32) (hn : n ≤ 60) {S V : Nat → Int32} (hS : ∀ j, j < n → ∀ i, bt (S j) i = true → i < K) : ∀ f h y, f + h = 60 → qInv K n S h y → qInv K n S (rnF K n S V f h y).2.2.2.2.1 (rnF K n S V f h y) := by
  intro f
  induction f with
  | zero =>
    intro h y hf hI
    have h1 := qInv_le hI
    have h2 : h ≤ y.2.2.2.2.1 := hI.2.1
    have : h = y.2.2.2.2.1 := by omega
    rw [show rnF K n S V 0 h y = y from rfl, ← this]
    exact hI
  | succ f ih =>
    intro h y hf hI
    by_cases g : h < y.2.2.2.2.1
    · obtain ⟨j, hj, ej, -⟩ := hI.2.2.1 h g
      rw [rnF, if_pos g, ej, nI_clamp (by omega)]
      exact ih (h + 1) _ (by omega) (qInv_tk hK hn hS hI g hj ej)
    · rw [rnF, if_neg g]
      have h2 : h ≤ y.2.2.2.2.1 := hI.2.1
      have : h = y.2.2.2.2.1 := by omega
      rw [← this]
      exact hI
def lwR (K n T : Nat) (row S V kw ko : Nat → Int32) (kb cl : Int32) (row2 sd vl wt : Nat → Int32) (tn : Int32) (kn tl od : Nat → Int32) (fd cl2 : Int32) : Prop :=
  n ≤ 60 ∧ (∀ i, i < K → row i = row2 i) ∧ (∀ k, k < n → S k = setA K (sd k)) ∧ (∀ k, k < n → V k = vl k) ∧ (∀ i, bt kb i = true → i < K) ∧ (∀ k, k < n → ¬ opn (S k) kb = 1) ∧ rR K n T kw ko kb cl wt tn kn tl od fd cl2
theorem lw_0 {K : Nat} : lwR K 0 0 (fun _ => 0) (fun _ => 0) (fun _ => 0) (fun _ => 0) (fun _ => 0) 0 0 (fun _ => 0) (fun _ => 0) (fun _ => 0) (fun _ => 0) 0 (fun _ => 0) (fun _ => 0) (fun _ => 0) 0 0 := by
  refine ⟨by omega, fun _ _ => rfl, fun k hk => absurd hk (by omega), fun k hk => absurd hk (by omega), fun i h => ?_, fun k hk => absurd hk (by omega), inF_0 (fun _ _ => rfl), fun i h => ?_, fun x hx => ?_, ?_, rfl, rfl, fun _ _ => rfl⟩
  · rw [b_0] at h; cases h
  · rfl
  · rfl
  · rw [pc_0]; rfl
theorem pt_congr {K : Nat} (hK : K ≤ 32) {row row2 : Nat → Int32} {i v : Int32} (h : ∀ x, x < K → row x = row2 x) : ∀ x, x < K → ptF K row i v x = ptF K row2 i v x := by
  intro x hx
  unfold ptF
  split
  · by_cases q : x = i.toNatClampNeg
    · subst q; rw [pk_us, pk_us]
    · rw [pk_un q, pk_un q]; exact h x hx
  · exact h x hx
theorem xf_row {K : Nat} {row row2 : Nat → Int32} {b : Int32} (h : ∀ x, x < K → row x = row2 x) : xf row b K = xf row2 b K := xf_congr (fun i hi _ => h i hi)
theorem wd_eq {K : Nat} {kb : Int32} {kw tl : Nat → Int32} {i : Int32} (h : ∀ i, bt kb i = true → tl i = kw i) : wdF K kb kw i = wdF K kb tl i := by
  unfold wdF
  split
  · rename_i g; rw [h _ g.2]
  · rfl
theorem od_eq {n : Nat} (hn : n ≤ 60) {ko od : Nat → Int32} {i : Int32} (h : ∀ x, x < n → od x = ko x) : odF n ko i = odF n od i := by
  unfold odF
  split
  · rename_i g
    obtain ⟨j, hj, e⟩ := inR_ix hn g
    subst e
    rw [nI_clamp (by omega), h j hj]
  · rfl
theorem op_eq {n : Nat} (hn : n ≤ 60) {S S' : Nat → Int32} {kb i : Int32} (h : ∀ k, k < n → S k = S' k) : opF n S kb i = opF n S' kb i := by
  unfold opF
  split
  · rename_i g
    obtain ⟨j, hj, e⟩ := inR_ix hn g
    subst e
    rw [nI_clamp (by omega), h j hj]
  · rfl
theorem pc_leK {K : Nat} (hK : K ≤ 32) {kb : Int32} (h : ∀ i, bt kb i = true → i < K) : pc kb ≤ K := by
  rw [← pc_K hK h]; exact cn_le _ _
theorem lw_S {K n T : Nat} (hK1 : 1 ≤ K) (hK2 : K ≤ 32) {S sd : Nat → Int32} (h : ∀ k, k < n → S k = setA K (sd k)) : ∀ j, j < n → ∀ i, bt (S j) i = true → i < K := by
  intro j hj i hb
  rw [h j hj] at hb
  exact setA_lt hK1 hK2 _ hb
/-- the rest of the script -/
theorem lw_more {L i : Nat} (hL : L ≤ 1537) (hi : i ≤ 1540) (h : ¬ nI L - 3 < nI i) : i + 3 ≤ L := by
  rw [Int32.lt_iff_toInt_lt, show (3 : Int32) = nI 3 from rfl, pk_sub_toInt (by omega) (by omega), nI_toInt (by omega)] at h
  omega
theorem lw_done {L i : Nat} (hL : L ≤ 1537) (hi : i ≤ 1540) (h : nI L - 3 < nI i) : ¬ i + 3 ≤ L := by
  rw [Int32.lt_iff_toInt_lt, show (3 : Int32) = nI 3 from rfl, pk_sub_toInt (by omega) (by omega), nI_toInt (by omega)] at h
  omega
def lwC (L : Nat) (xs : Nat → Int32) : Int32 := if 0 < L then xs 0 else 0
theorem xFbX {av : List Value} {b L : Nat} {xs : Nat → Int32} : FrameBlind (va_Pc av (fun U => va_X b L xs U U.heap)) :=
  fun a U g mk q => ⟨q.1, va_X.moved (u := U) (U := U.calling g mk a) (Vm.Alike.refl U.vm) q.2⟩
set_option maxHeartbeats 4000000 in
set_option maxRecDepth 100000 in
/-- cell(script, 0) -/
theorem c_L_cell (l : Launch) (b L : Nat) (xs : Nat → Int32) (hL : L ≤ 1537) : Met l yL_cell wsL_cell ({ frames := 0, cells := 0, slots := 0, locals := 0 }) (va_Pc [.ref b, .int 0] (fun U => va_X b L xs U U.heap)) (vp_Si (fun r => r = lwC L xs)) 0 0 (fun _ => False) := by
  refine Met.ofW (cc := cL_cell) (maxL := 2) (ret := (some .int)) (by decide) rfl ?_
  intro p e s m args below meth c s₁ B hml hv
  obtain ⟨rfl, hX⟩ := hv
  have hx := B.exec
  have hb := B.bytes
  have hr := B.returns
  have hts := atoms_spec (ws := wsL_cell) B.pre
  have hown : s.vm.findClass RL = some m.cls := findClass_of_methodNamed B.named
  have hlocks := B.notSynchronized
  have hbl : b < s.heap.size := by
    obtain ⟨scr, h1, -⟩ := hX
    exact (Array.getElem?_eq_some_iff.mp h1).1
  have hbA : ¬ (fun q : Nat => s.heap.size ≤ q) b := Nat.not_le.mpr hbl
  have hS : va_S (fun q : Nat => s.heap.size ≤ q) s.heap s.heap [] := va_S.rf
  have hl := lv_entry ([.ref b, .int 0]) (n := 2) (Nat.le_of_ble_eq_true rfl)
  rw [lg_entry_eq]
  generalize (lg_sl ([.ref b, .int 0]) ++ List.replicate (2 - (lg_sl ([.ref b, .int 0])).length) Slot.unset).toArray = ls at hl ⊢
  have hl : lv_has ls 2 [(0, .ref b), (1, .int 0)] := hl
  refine lv_iload_n hx hb dL_cell_0 rfl (lv_at hl 1 rfl) ?_
  refine lv_aload_n hx hb dL_cell_1 rfl (lv_at hl 0 rfl) ?_
  refine va_slen hx hb hX hbl hbA hS dL_cell_2 ?_
  refine lv_icmp_ge (tgt := 12) hx hb dL_cell_3 (by decide) (fun c1 => ?_) (fun c1 => ?_)
  · refine lv_iconst (v := 0) hx hb dL_cell_12 (by decide) ?_
    have h0 : ¬ 0 < L := fun h => absurd c1 (nI_ge (a := 0) (b := L) h (by omega))
    exact W.iret (v := 0) hx hb hr (fun t ht hW => ⟨0, rfl, by show (0 : Int32) = lwC L xs; rw [lwC, if_neg h0], ht⟩) (fun _ h9 => by cases h9) dL_cell_13
  · have h0 : 0 < L := by
      rcases Nat.lt_or_ge 0 L with g | g
      · exact g
      · exact absurd (nI_le (a := L) (b := 0) g (by omega)) c1
    refine lv_aload_n hx hb dL_cell_6 rfl (lv_at hl 0 rfl) ?_
    refine lv_iload_n hx hb dL_cell_7 rfl (lv_at hl 1 rfl) ?_
    refine va_sld hx hb hX hbl hbA hS (vp_in_nI (n := 0) h0 (by omega)) dL_cell_8 ?_
    refine lv_goto (tgt := 13) hx hb dL_cell_9 (by decide) ?_
    exact W.iret (v := xs ((0 : Int32).toNatClampNeg)) hx hb hr (fun t ht hW => ⟨_, rfl, by show xs ((0 : Int32).toNatClampNeg) = lwC L xs; rw [lwC, if_pos h0]; rfl, ht⟩) (fun _ h9 => by cases h9) dL_cell_13
end
section
/-! THE CLAIM OUT OF ONE WALK OF THE LAW'S BODY. Your part is whole_start (and what it stands on); all else here is the same for every law, but numbers. -/
def R_law : String := "DropCodeLaw"
def lw_P (b : Addr) (xs : List Int32) (args : Array Value) (s : State) : Prop := args = #[.ref b] ∧ s.IntsAt b xs ∧ xs.length ≤ 1537 ∧ (Jvm.Cond.and given_1 narrow_1).before args s = true
def lw_Q (_ : Array Value) (s : State) (o : Outcome) (t : State) : Prop := o = .returned (some (.int 1)) ∧ Framed s o t [] 600000 7302250
def lw_Z (below : List Frame) (a : Array Value) (s : State) : State → Prop := fun t => ∃ o, t.status = .running ∧ Ended t below o ∧ lw_Q a s o t
/-- the law's own end, with 1 on the stack, nothing written that was there before, its room as the claim has it -/
theorem lw_ret {p : Program} {l : Launch} {e : Env} {s : State} {m : MethodId} {below : List Frame} {meth : Method} {c : Code} {b : Nat} (hx : p.tables.exec = Jvm.exec) (hb : c.code = code) (hr : meth.sig.returnType = ret) (hlocks : meth.locks = false) {pc : Nat} {H : Heap} {ls : Array Slot} (hdg : decode code pc = .ok (.ireturn, 1)) : W p l e room_1 s m #[Value.ref b] below meth c H [] 600000 7302250 (lw_Z below #[Value.ref b] s) (F0 m pc ls [.int 1]) := by
  intro T hT X
  obtain ⟨fs, hret, hrun, hended, hW, hframe⟩ := X.leave (v := some (.int 1)) (hlocks := hlocks) (fun h => by rw [hr] at h; cases h)
  have hmeth' : T.vm.method? m = some meth := X.method'
  refine ⟨T.setFrames fs, ?_, .returned (some (.int 1)), hrun, hended, rfl, ⟨_, rfl⟩, hW, hframe⟩
  jvm_step X.here [X.here.top, hx, hb, hdg, hmeth', hr, ret, narrow_b1]
  (try refine ⟨rfl, ?_⟩); (try refine ⟨rfl, ?_⟩)
  first | (intro acts; rw [hret _ acts rfl rfl rfl]) | rw [hret _ _ rfl rfl rfl]
  exact Steps.refl _
/-- what holds at the law's entry: the machine, the code, the tables' words (any of lw_tbl by 'hts w (by decide +kernel)'), the script of L ints xs at the cell b, what the Statement gives of the start (any of its parts by flat_of_before) -/
def lw_At (p : Program) (s : State) (m : MethodId) (meth : Method) (c : Code) (b L : Nat) (xs : Nat → Int32) : Prop :=
  p.tables.exec = Jvm.exec ∧ c.code = code ∧ meth.sig.returnType = ret ∧ c.maxLocals = 4 ∧ s.vm.findClass R_law = some m.cls ∧ (∀ w ∈ lw_tbl, w.before #[Value.ref b] s = true) ∧ va_X b L xs s s.heap ∧ b < s.heap.size ∧ meth.locks = false ∧ (Jvm.Cond.and given_1 narrow_1).before #[Value.ref b] s = true
end
section
theorem lw_fg {K T : Nat} {row S V kw ko row2 sd vl wt : Nat → Int32} {kn tl od : Nat → Int32} (hrow : ∀ i, i < K → row i = row2 i) (hk : inF K kn 0) : lwR K 0 T row S V kw ko 0 0 row2 sd vl wt (nI T) kn tl od 0 0 := by
  refine ⟨by omega, hrow, fun k hk => absurd hk (by omega), fun k hk => absurd hk (by omega), fun i h => ?_, fun k hk => absurd hk (by omega), hk, fun i h => ?_, fun x hx => ?_, ?_, rfl, rfl, fun k hk => absurd hk (by omega)⟩
  · rw [b_0] at h; cases h
  · rw [b_0] at h; cases h
  · rw [pc_0] at hx; omega
  · rw [pc_0]; rfl
set_option maxHeartbeats 4000000 in
set_option maxRecDepth 100000 in
/-- THE LAW'S LOOP: at its head the class and the reference belong together -/
theorem law_loop {p : Program} {l : Launch} {e : Env} {s : State} {m : MethodId} {below : List Frame} {meth : Method} {c : Code} {dC : Nat → ClassId} {dI : Nat → Nat → Nat} {b L : Nat} {xs : Nat → Int32} (hL : L ≤ 1537) (C0 : lw_At p s m meth c b L xs) (ad bd : Nat → Nat) (cI cJ cZ : ClassId) (K : Nat) (hK1 : 1 ≤ K) (hK2 : K ≤ 32) (hK : va_K (dC, dI) vwCl [(cI, .int), (cJ, .int), (cZ, .boolean)] s) :
    ∀ (N i n T : Nat) (row S V kw ko : Nat → Int32) (kb : Int32) (qu : Nat → Int32) (qe cl : Int32) (row2 sd vl wt : Nat → Int32) (tn : Int32) (kn tl od : Nat → Int32) (fd cl2 : Int32) (inn : Nat → Int32) (stt : Int32) (H : Heap) (locs : List Loc) (ls : Array Slot), va_P (dC, dI) vwCl ((xW ad cI K row S V (nI n) kw ko kb qu qe cl) ++ (rW bd cJ cZ K row2 (nI n) sd vl wt tn kn tl od fd cl2 inn stt)) H → va_D (fun q : Nat => s.heap.size ≤ q) ((xW ad cI K row S V (nI n) kw ko kb qu qe cl) ++ (rW bd cJ cZ K row2 (nI n) sd vl wt tn kn tl od fd cl2 inn stt)) → va_S (fun q : Nat => s.heap.size ≤ q) s.heap H locs → lv_has ls 4 [(0, .ref b), (1, .ref (ad 0)), (2, .ref (bd 0)), (3, .int (nI i))] → L ≤ i + N → i ≤ 1540 → T ≤ 20 * i → lwR K n T row S V kw ko kb cl row2 sd vl wt tn kn tl od fd cl2 → W p l e room_1 s m #[Value.ref b] below meth c H locs 16 641 (lw_Z below #[Value.ref b] s) (F0 m 28 ls []) := by
  obtain ⟨hx, hb, hr, hml, hown, hts, hX, hbl, hlocks, hgv⟩ := C0
  have hts := fun w h => hts w (wsL_law_in w h)
  have hown : s.vm.findClass RL = some m.cls := hown
  have hb : c.code = cL_law := hb
  have hA : ∀ q : Nat, s.heap.size ≤ q → (fun q : Nat => s.heap.size ≤ q) q := fun _ h => h
  have hbA : ¬ (fun q : Nat => s.heap.size ≤ q) b := Nat.not_le.mpr hbl
  intro N
  induction N with
  | zero =>
    intro i n T row S V kw ko kb qu qe cl row2 sd vl wt tn kn tl od fd cl2 inn stt H locs ls hP hD hS hl hN hi hT hR
    refine lv_iload_n hx hb dL_law_28 rfl (lv_at hl 3 rfl) ?_
    refine lv_aload_n hx hb dL_law_29 rfl (lv_at hl 0 rfl) ?_
    refine va_slen hx hb hX hbl hbA hS dL_law_30 ?_
    refine lv_iconst (v := 3) hx hb dL_law_31 (by decide) ?_
    refine lv_isub hx hb dL_law_32 ?_
    refine lv_icmp_gt (tgt := 393) hx hb dL_law_33 (by decide) (fun c1 => ?_) (fun c1 => ?_)
    · skip
      refine lv_iconst (v := 1) hx hb dL_law_393 (by decide) ?_
      refine va_forget (fun q hq => hS.2.2 q hq) ?_
      refine W.widen (k := 600000) (n := 7302250) (Nat.le_of_ble_eq_true rfl) (Nat.le_of_ble_eq_true rfl) ?_
      exact lw_ret hx hb hr hlocks dL_law_394
    · skip
      exact absurd (lw_more hL hi c1) (by omega)
  | succ N ih =>
    intro i n T row S V kw ko kb qu qe cl row2 sd vl wt tn kn tl od fd cl2 inn stt H locs ls hP hD hS hl hN hi hT hR
    refine lv_iload_n hx hb dL_law_28 rfl (lv_at hl 3 rfl) ?_
    refine lv_aload_n hx hb dL_law_29 rfl (lv_at hl 0 rfl) ?_
    refine va_slen hx hb hX hbl hbA hS dL_law_30 ?_
    refine lv_iconst (v := 3) hx hb dL_law_31 (by decide) ?_
    refine lv_isub hx hb dL_law_32 ?_
    refine lv_icmp_gt (tgt := 393) hx hb dL_law_33 (by decide) (fun c1 => ?_) (fun c1 => ?_)
    · skip
      refine lv_iconst (v := 1) hx hb dL_law_393 (by decide) ?_
      refine va_forget (fun q hq => hS.2.2 q hq) ?_
      refine W.widen (k := 600000) (n := 7302250) (Nat.le_of_ble_eq_true rfl) (Nat.le_of_ble_eq_true rfl) ?_
      exact lw_ret hx hb hr hlocks dL_law_394
    · skip
      have hmore := lw_more hL hi c1
      have back : ∀ (n T : Nat) (row S V kw ko : Nat → Int32) (kb : Int32) (qu : Nat → Int32) (qe cl : Int32) (row2 sd vl wt : Nat → Int32) (tn : Int32) (kn tl od : Nat → Int32) (fd cl2 : Int32) (inn : Nat → Int32) (stt : Int32) (H : Heap) (locs : List Loc) (ls : Array Slot), va_P (dC, dI) vwCl ((xW ad cI K row S V (nI n) kw ko kb qu qe cl) ++ (rW bd cJ cZ K row2 (nI n) sd vl wt tn kn tl od fd cl2 inn stt)) H → va_D (fun q : Nat => s.heap.size ≤ q) ((xW ad cI K row S V (nI n) kw ko kb qu qe cl) ++ (rW bd cJ cZ K row2 (nI n) sd vl wt tn kn tl od fd cl2 inn stt)) → va_S (fun q : Nat => s.heap.size ≤ q) s.heap H locs → lv_has ls 4 [(0, .ref b), (1, .ref (ad 0)), (2, .ref (bd 0)), (3, .int (nI i))] → T ≤ 20 * i + 60 → lwR K n T row S V kw ko kb cl row2 sd vl wt tn kn tl od fd cl2 → W p l e room_1 s m #[Value.ref b] below meth c H locs 16 641 (lw_Z below #[Value.ref b] s) (F0 m 387 ls []) := by
        intro n T row S V kw ko kb qu qe cl row2 sd vl wt tn kn tl od fd cl2 inn stt H locs ls hP hD hS hl hT hR
        refine lv_iinc (v := nI (i + 3)) (lv' := [(3, .int (nI (i + 3))), (0, .ref b), (1, .ref (ad 0)), (2, .ref (bd 0))]) hx hb dL_law_387 hl (k := 3) rfl (nI_add i 3) (by decide) rfl (fun ls hl => ?_)
        refine lv_goto (tgt := 28) hx hb dL_law_390 (by decide) ?_
        exact ih (i + 3) n T row S V kw ko kb qu qe cl row2 sd vl wt tn kn tl od fd cl2 inn stt H locs ls hP hD hS (lv_sub hl [1, 2, 3, 0] rfl) (by omega) (by omega) (by omega) hR
      obtain ⟨hn60, hrow, hSd, hVl, hkb, hno, hRR⟩ := hR
      have r4 := hRR.2.2.2.1
      have r5 := hRR.2.2.2.2.1
      have r6 := hRR.2.2.2.2.2.1
      subst r4
      subst r5
      subst r6
      have hkn := hRR.1
      have hS0 := lw_S (T := T) hK1 hK2 hSd
      have hpcK := pc_leK hK2 hkb
      refine lv_aload_n hx hb dL_law_36 rfl (lv_at hl 0 rfl) ?_
      refine lv_iload_n hx hb dL_law_37 rfl (lv_at hl 3 rfl) ?_
      refine va_sld hx hb hX hbl hbA hS (vp_in_nI (n := i) (by omega) (by omega)) dL_law_38 ?_
      rw [nI_clamp (by omega)]
      refine lv_bipush (v := 15) hx hb dL_law_39 (by decide) ?_
      refine lv_iand hx hb dL_law_41 ?_
      obtain ⟨sw, hsw, esw⟩ := pk_andE (xs i) (m := 15) 4 (by decide +kernel)
      rw [esw]
      rcases (show sw = 0 ∨ sw = 1 ∨ sw = 2 ∨ sw = 3 ∨ sw = 4 ∨ sw = 5 ∨ sw = 6 ∨ sw = 7 ∨ sw = 8 ∨ sw = 9 ∨ sw = 10 ∨ sw = 11 ∨ sw = 12 ∨ 12 < sw by omega) with rfl | rfl | rfl | rfl | rfl | rfl | rfl | rfl | rfl | rfl | rfl | rfl | rfl | hsw2
      · skip
        refine lv_tableIn (off := 66) (tgt := 108) hx hb dL_law_42 (by decide) (by decide) (by decide) (by decide) ?_
        refine lv_aload_n hx hb dL_law_108 rfl (lv_at hl 1 rfl) ?_
        refine lv_aload_n hx hb dL_law_109 rfl (lv_at hl 0 rfl) ?_
        refine lv_iload_n hx hb dL_law_110 rfl (lv_at hl 3 rfl) ?_
        refine lv_iconst (v := 1) hx hb dL_law_111 (by decide) ?_
        refine lv_iadd hx hb dL_law_112 ?_
        refine lv_topi (fun z_1 ez_1 => ?_)
        have ez_1 : z_1 = nI (i + 1) := ez_1.trans (nI_add i 1)
        subst ez_1
        refine va_sld hx hb hX hbl hbA hS (vp_in_nI (n := (i + 1)) (by omega) (by omega)) dL_law_113 ?_
        rw [nI_clamp (by omega)]
        refine lv_aload_n hx hb dL_law_114 rfl (lv_at hl 0 rfl) ?_
        refine lv_iload_n hx hb dL_law_115 rfl (lv_at hl 3 rfl) ?_
        refine lv_iconst (v := 2) hx hb dL_law_116 (by decide) ?_
        refine lv_iadd hx hb dL_law_117 ?_
        refine lv_topi (fun z_2 ez_2 => ?_)
        have ez_2 : z_2 = nI (i + 2) := ez_2.trans (nI_add i 2)
        subst ez_2
        refine va_sld hx hb hX hbl hbA hS (vp_in_nI (n := (i + 2)) (by omega) (by omega)) dL_law_118 ?_
        rw [nI_clamp (by omega)]
        have hPc := hP.sub (ws' := (xW ad cI K row S V (nI n) kw ko kb qu qe cl2)) [0, 1, 2, 3, 4, 5, 6] rfl
        have hKc := hK.sub (tys' := [(cI, .int)]) [0] rfl
        have hDc := hD.sub (ws' := (xW ad cI K row S V (nI n) kw ko kb qu qe cl2)) [0, 1, 2, 3, 4, 5, 6] (by decide) rfl
        have hFc := va_free (wc := (xW ad cI K row S V (nI n) kw ko kb qu qe cl2)) hD hS hA [0, 1, 2, 3, 4, 5, 6] rfl
        refine va_calli (va_runV (As := [.int (xs (i + 1)), .int (xs (i + 2))]) (rest := []) ⟨hx, hb, hml, hown, hts⟩ (c_X0_put l dC dI H.size ad cI K row S V (nI n) kw ko kb qu qe cl2 hK1 hK2 (xs (i + 1)) (xs (i + 2))) (cwV 2 hts gL_law_X0_put rfl rfl rfl (by decide +kernel) ⟨Nat.le_of_ble_eq_true rfl, Nat.le_of_ble_eq_true rfl⟩) ⟨wFb, va_recv hKc hPc (ci := 0) (q0 := 0) rfl rfl, fun U hU hW => ⟨rfl, by rw [hU], by rw [hU]; exact hPc, va_K.moved hW.alike hKc, hDc.weaken (fun _ _ _ _ => trivial)⟩⟩ rfl rfl hl.1 rfl (lv_room (Nat.le_of_ble_eq_true rfl)) dL_law_119 ⟨Nat.le_of_ble_eq_true rfl, Nat.le_of_ble_eq_true rfl⟩) hS (fun q _ h => hFc q h) hFc (fun r_3 u_4 t H1 locs ht hvm hw hB hz1 hk1 hS => ?_)
        obtain ⟨hP1, hK1, hD1⟩ := hB
        rw [ht] at hP1
        obtain ⟨hP, hD⟩ := va_join (wr := (rW bd cJ cZ K row2 (nI n) sd vl wt (nI T) kn tl od (nI (pc kb)) cl2 inn stt)) (w1 := (xW ad cI K (ptF K row (xs (i + 1)) (xs (i + 2))) S V (nI n) kw ko kb qu qe cl2)) hP hD [0, 1, 2, 3, 4, 5, 6] [7, 8, 9, 10, 11, 12, 13, 14, 15] rfl rfl (by decide) (by decide) hk1 hFc hP1 hD1
        clear hP1 hD1 hK1 hFc hk1 hz1 hPc hKc hDc
        generalize H1 = H at hP hS ⊢
        have hP := hP.sub (ws' := ((xW ad cI K (ptF K row (xs (i + 1)) (xs (i + 2))) S V (nI n) kw ko kb qu qe cl2) ++ (rW bd cJ cZ K row2 (nI n) sd vl wt (nI T) kn tl od (nI (pc kb)) cl2 inn stt))) [9, 10, 11, 12, 13, 14, 15, 0, 1, 2, 3, 4, 5, 6, 7, 8] rfl
        have hD := hD.sub (ws' := ((xW ad cI K (ptF K row (xs (i + 1)) (xs (i + 2))) S V (nI n) kw ko kb qu qe cl2) ++ (rW bd cJ cZ K row2 (nI n) sd vl wt (nI T) kn tl od (nI (pc kb)) cl2 inn stt))) [9, 10, 11, 12, 13, 14, 15, 0, 1, 2, 3, 4, 5, 6, 7, 8] (by decide) rfl
        have hP : va_P (dC, dI) vwCl ((xW ad cI K (ptF K row (xs (i + 1)) (xs (i + 2))) S V (nI n) kw ko kb qu qe cl2) ++ (rW bd cJ cZ K row2 (nI n) sd vl wt (nI T) kn tl od (nI (pc kb)) cl2 inn stt)) H := hP
        have hD : va_D (fun q : Nat => s.heap.size ≤ q) ((xW ad cI K (ptF K row (xs (i + 1)) (xs (i + 2))) S V (nI n) kw ko kb qu qe cl2) ++ (rW bd cJ cZ K row2 (nI n) sd vl wt (nI T) kn tl od (nI (pc kb)) cl2 inn stt)) := hD
        subst hw
        refine lv_aload_n hx hb dL_law_122 rfl (lv_at hl 2 rfl) ?_
        refine lv_aload_n hx hb dL_law_123 rfl (lv_at hl 0 rfl) ?_
        refine lv_iload_n hx hb dL_law_124 rfl (lv_at hl 3 rfl) ?_
        refine lv_iconst (v := 1) hx hb dL_law_125 (by decide) ?_
        refine lv_iadd hx hb dL_law_126 ?_
        refine lv_topi (fun z_5 ez_5 => ?_)
        have ez_5 : z_5 = nI (i + 1) := ez_5.trans (nI_add i 1)
        subst ez_5
        refine va_sld hx hb hX hbl hbA hS (vp_in_nI (n := (i + 1)) (by omega) (by omega)) dL_law_127 ?_
        rw [nI_clamp (by omega)]
        refine lv_aload_n hx hb dL_law_128 rfl (lv_at hl 0 rfl) ?_
        refine lv_iload_n hx hb dL_law_129 rfl (lv_at hl 3 rfl) ?_
        refine lv_iconst (v := 2) hx hb dL_law_130 (by decide) ?_
        refine lv_iadd hx hb dL_law_131 ?_
        refine lv_topi (fun z_6 ez_6 => ?_)
        have ez_6 : z_6 = nI (i + 2) := ez_6.trans (nI_add i 2)
        subst ez_6
        refine va_sld hx hb hX hbl hbA hS (vp_in_nI (n := (i + 2)) (by omega) (by omega)) dL_law_132 ?_
        rw [nI_clamp (by omega)]
        have hPc := hP.sub (ws' := (rW bd cJ cZ K row2 (nI n) sd vl wt (nI T) kn tl od (nI (pc kb)) cl2 inn stt)) [7, 8, 9, 10, 11, 12, 13, 14, 15] rfl
        have hKc := hK.sub (tys' := [(cJ, .int), (cZ, .boolean)]) [1, 2] rfl
        have hDc := hD.sub (ws' := (rW bd cJ cZ K row2 (nI n) sd vl wt (nI T) kn tl od (nI (pc kb)) cl2 inn stt)) [7, 8, 9, 10, 11, 12, 13, 14, 15] (by decide) rfl
        have hFc := va_free (wc := (rW bd cJ cZ K row2 (nI n) sd vl wt (nI T) kn tl od (nI (pc kb)) cl2 inn stt)) hD hS hA [7, 8, 9, 10, 11, 12, 13, 14, 15] rfl
        refine va_calli (va_runV (As := [.int (xs (i + 1)), .int (xs (i + 2))]) (rest := [.int (if inR K (xs (i + 1)) then 1 else -1)]) ⟨hx, hb, hml, hown, hts⟩ (c_X1_put l dC dI H.size bd cJ cZ K row2 (nI n) sd vl wt (nI T) kn tl od (nI (pc kb)) cl2 inn stt hK1 hK2 (xs (i + 1)) (xs (i + 2))) (cwV 2 hts gL_law_X1_put rfl rfl rfl (by decide +kernel) ⟨Nat.le_of_ble_eq_true rfl, Nat.le_of_ble_eq_true rfl⟩) ⟨wFb, va_recv hKc hPc (ci := 1) (q0 := 0) rfl rfl, fun U hU hW => ⟨rfl, by rw [hU], by rw [hU]; exact hPc, va_K.moved hW.alike hKc, hDc.weaken (fun _ _ _ _ => trivial)⟩⟩ rfl rfl hl.1 rfl (lv_room (Nat.le_of_ble_eq_true rfl)) dL_law_133 ⟨Nat.le_of_ble_eq_true rfl, Nat.le_of_ble_eq_true rfl⟩) hS (fun q _ h => hFc q h) hFc (fun r_7 u_8 t H1 locs ht hvm hw hB hz1 hk1 hS => ?_)
        obtain ⟨hP1, hK1, hD1⟩ := hB
        rw [ht] at hP1
        obtain ⟨hP, hD⟩ := va_join (wr := (xW ad cI K (ptF K row (xs (i + 1)) (xs (i + 2))) S V (nI n) kw ko kb qu qe cl2)) (w1 := (rW bd cJ cZ K (ptF K row2 (xs (i + 1)) (xs (i + 2))) (nI n) sd vl wt (nI T) kn tl od (nI (pc kb)) cl2 inn stt)) hP hD [7, 8, 9, 10, 11, 12, 13, 14, 15] [0, 1, 2, 3, 4, 5, 6] rfl rfl (by decide) (by decide) hk1 hFc hP1 hD1
        clear hP1 hD1 hK1 hFc hk1 hz1 hPc hKc hDc
        generalize H1 = H at hP hS ⊢
        have hP : va_P (dC, dI) vwCl ((xW ad cI K (ptF K row (xs (i + 1)) (xs (i + 2))) S V (nI n) kw ko kb qu qe cl2) ++ (rW bd cJ cZ K (ptF K row2 (xs (i + 1)) (xs (i + 2))) (nI n) sd vl wt (nI T) kn tl od (nI (pc kb)) cl2 inn stt)) H := hP
        have hD : va_D (fun q : Nat => s.heap.size ≤ q) ((xW ad cI K (ptF K row (xs (i + 1)) (xs (i + 2))) S V (nI n) kw ko kb qu qe cl2) ++ (rW bd cJ cZ K (ptF K row2 (xs (i + 1)) (xs (i + 2))) (nI n) sd vl wt (nI T) kn tl od (nI (pc kb)) cl2 inn stt)) := hD
        subst hw
        refine lv_icmp_eq (tgt := 387) hx hb dL_law_136 (by decide) (fun c9 => ?_) (fun c9 => ?_)
        · skip
          exact back _ T _ _ _ _ _ _ _ _ _ _ _ _ _ _ _ _ _ _ _ _ _ _ _ ls hP hD hS (lv_sub hl [0, 1, 2, 3] rfl) (by omega) (⟨hn60, pt_congr hK2 hrow, hSd, hVl, hkb, hno, hRR⟩)
        · skip
          exact absurd (rfl) c9
      · skip
        refine lv_tableIn (off := 99) (tgt := 141) hx hb dL_law_42 (by decide) (by decide) (by decide) (by decide) ?_
        refine lv_aload_n hx hb dL_law_141 rfl (lv_at hl 1 rfl) ?_
        refine lv_aload_n hx hb dL_law_142 rfl (lv_at hl 0 rfl) ?_
        refine lv_iload_n hx hb dL_law_143 rfl (lv_at hl 3 rfl) ?_
        refine lv_iconst (v := 1) hx hb dL_law_144 (by decide) ?_
        refine lv_iadd hx hb dL_law_145 ?_
        refine lv_topi (fun z_1 ez_1 => ?_)
        have ez_1 : z_1 = nI (i + 1) := ez_1.trans (nI_add i 1)
        subst ez_1
        refine va_sld hx hb hX hbl hbA hS (vp_in_nI (n := (i + 1)) (by omega) (by omega)) dL_law_146 ?_
        rw [nI_clamp (by omega)]
        have hPc := hP.sub (ws' := (xW ad cI K row S V (nI n) kw ko kb qu qe cl2)) [0, 1, 2, 3, 4, 5, 6] rfl
        have hKc := hK.sub (tys' := [(cI, .int)]) [0] rfl
        refine vp_callSi (W.runV (As := [.int (xs (i + 1))]) (rest := []) ⟨hx, hb, hml, hown, hts⟩ (c_X0_drop l dC dI ad cI K row S V (nI n) kw ko kb qu qe cl2 hK1 hK2 (xs (i + 1))) (cwV 1 hts gL_law_X0_drop rfl rfl rfl (by decide +kernel) ⟨Nat.le_of_ble_eq_true rfl, Nat.le_of_ble_eq_true rfl⟩) ⟨rFb, va_recv hKc hPc (ci := 0) (q0 := 0) rfl rfl, fun U hU hW => ⟨rfl, by rw [hU]; exact hPc, va_K.moved hW.alike hKc⟩⟩ rfl rfl hl.1 rfl (lv_room (Nat.le_of_ble_eq_true rfl)) dL_law_147 ⟨Nat.le_of_ble_eq_true rfl, Nat.le_of_ble_eq_true rfl⟩) (fun r_2 er_2 => ?_)
        rw [er_2]
        clear er_2 r_2 hPc hKc
        refine lv_aload_n hx hb dL_law_150 rfl (lv_at hl 2 rfl) ?_
        refine lv_aload_n hx hb dL_law_151 rfl (lv_at hl 0 rfl) ?_
        refine lv_iload_n hx hb dL_law_152 rfl (lv_at hl 3 rfl) ?_
        refine lv_iconst (v := 1) hx hb dL_law_153 (by decide) ?_
        refine lv_iadd hx hb dL_law_154 ?_
        refine lv_topi (fun z_3 ez_3 => ?_)
        have ez_3 : z_3 = nI (i + 1) := ez_3.trans (nI_add i 1)
        subst ez_3
        refine va_sld hx hb hX hbl hbA hS (vp_in_nI (n := (i + 1)) (by omega) (by omega)) dL_law_155 ?_
        rw [nI_clamp (by omega)]
        have hPc := hP.sub (ws' := (rW bd cJ cZ K row2 (nI n) sd vl wt (nI T) kn tl od (nI (pc kb)) cl2 inn stt)) [7, 8, 9, 10, 11, 12, 13, 14, 15] rfl
        have hKc := hK.sub (tys' := [(cJ, .int), (cZ, .boolean)]) [1, 2] rfl
        have hDc := hD.sub (ws' := (rW bd cJ cZ K row2 (nI n) sd vl wt (nI T) kn tl od (nI (pc kb)) cl2 inn stt)) [7, 8, 9, 10, 11, 12, 13, 14, 15] (by decide) rfl
        have hFc := va_free (wc := (rW bd cJ cZ K row2 (nI n) sd vl wt (nI T) kn tl od (nI (pc kb)) cl2 inn stt)) hD hS hA [7, 8, 9, 10, 11, 12, 13, 14, 15] rfl
        refine va_calli (va_runV (As := [.int (xs (i + 1))]) (rest := [.int (xf row (setA K (xs (i + 1))) K)]) ⟨hx, hb, hml, hown, hts⟩ (c_X1_drop l dC dI H.size bd cJ cZ K row2 (nI n) sd vl wt (nI T) kn tl od (nI (pc kb)) cl2 inn stt hK1 hK2 (xs (i + 1))) (cwV 1 hts gL_law_X1_drop rfl rfl rfl (by decide +kernel) ⟨Nat.le_of_ble_eq_true rfl, Nat.le_of_ble_eq_true rfl⟩) ⟨wFb, va_recv hKc hPc (ci := 1) (q0 := 0) rfl rfl, fun U hU hW => ⟨rfl, by rw [hU], by rw [hU]; exact hPc, va_K.moved hW.alike hKc, hDc.weaken (fun _ _ _ _ => trivial)⟩⟩ rfl rfl hl.1 rfl (lv_room (Nat.le_of_ble_eq_true rfl)) dL_law_156 ⟨Nat.le_of_ble_eq_true rfl, Nat.le_of_ble_eq_true rfl⟩) hS (fun q _ h => hFc q h) hFc (fun r_4 u_5 t H1 locs ht hvm hw hB hz1 hk1 hS => ?_)
        obtain ⟨hP1, hK1, hD1⟩ := hB
        rw [ht] at hP1
        obtain ⟨hP, hD⟩ := va_join (wr := (xW ad cI K row S V (nI n) kw ko kb qu qe cl2)) (w1 := (rW bd cJ cZ K row2 (nI n) sd vl wt (nI T) kn tl od (nI (pc kb)) cl2 u_5.1 u_5.2)) hP hD [7, 8, 9, 10, 11, 12, 13, 14, 15] [0, 1, 2, 3, 4, 5, 6] rfl rfl (by decide) (by decide) hk1 hFc hP1 hD1
        clear hP1 hD1 hK1 hFc hk1 hz1 hPc hKc hDc
        generalize H1 = H at hP hS ⊢
        have hP : va_P (dC, dI) vwCl ((xW ad cI K row S V (nI n) kw ko kb qu qe cl2) ++ (rW bd cJ cZ K row2 (nI n) sd vl wt (nI T) kn tl od (nI (pc kb)) cl2 u_5.1 u_5.2)) H := hP
        have hD : va_D (fun q : Nat => s.heap.size ≤ q) ((xW ad cI K row S V (nI n) kw ko kb qu qe cl2) ++ (rW bd cJ cZ K row2 (nI n) sd vl wt (nI T) kn tl od (nI (pc kb)) cl2 u_5.1 u_5.2)) := hD
        subst hw
        refine lv_icmp_eq (tgt := 387) hx hb dL_law_159 (by decide) (fun c9 => ?_) (fun c9 => ?_)
        · skip
          exact back _ T _ _ _ _ _ _ _ _ _ _ _ _ _ _ _ _ _ _ _ _ _ _ _ ls hP hD hS (lv_sub hl [0, 1, 2, 3] rfl) (by omega) (⟨hn60, hrow, hSd, hVl, hkb, hno, hRR⟩)
        · skip
          exact absurd (xf_row hrow) c9
      · skip
        refine lv_tableIn (off := 122) (tgt := 164) hx hb dL_law_42 (by decide) (by decide) (by decide) (by decide) ?_
        refine lv_aload_n hx hb dL_law_164 rfl (lv_at hl 1 rfl) ?_
        refine lv_aload_n hx hb dL_law_165 rfl (lv_at hl 0 rfl) ?_
        refine lv_iload_n hx hb dL_law_166 rfl (lv_at hl 3 rfl) ?_
        refine lv_iconst (v := 1) hx hb dL_law_167 (by decide) ?_
        refine lv_iadd hx hb dL_law_168 ?_
        refine lv_topi (fun z_1 ez_1 => ?_)
        have ez_1 : z_1 = nI (i + 1) := ez_1.trans (nI_add i 1)
        subst ez_1
        refine va_sld hx hb hX hbl hbA hS (vp_in_nI (n := (i + 1)) (by omega) (by omega)) dL_law_169 ?_
        rw [nI_clamp (by omega)]
        have hPc := hP.sub (ws' := (xW ad cI K row S V (nI n) kw ko kb qu qe cl2)) [0, 1, 2, 3, 4, 5, 6] rfl
        have hKc := hK.sub (tys' := [(cI, .int)]) [0] rfl
        refine vp_callSi (W.runV (As := [.int (xs (i + 1))]) (rest := []) ⟨hx, hb, hml, hown, hts⟩ (c_X0_degree l dC dI ad cI K row S V (nI n) kw ko kb qu qe cl2 hK1 hK2 (xs (i + 1))) (cwV 1 hts gL_law_X0_degree rfl rfl rfl (by decide +kernel) ⟨Nat.le_of_ble_eq_true rfl, Nat.le_of_ble_eq_true rfl⟩) ⟨rFb, va_recv hKc hPc (ci := 0) (q0 := 0) rfl rfl, fun U hU hW => ⟨rfl, by rw [hU]; exact hPc, va_K.moved hW.alike hKc⟩⟩ rfl rfl hl.1 rfl (lv_room (Nat.le_of_ble_eq_true rfl)) dL_law_170 ⟨Nat.le_of_ble_eq_true rfl, Nat.le_of_ble_eq_true rfl⟩) (fun r_2 er_2 => ?_)
        rw [er_2]
        clear er_2 r_2 hPc hKc
        refine lv_aload_n hx hb dL_law_173 rfl (lv_at hl 2 rfl) ?_
        refine lv_aload_n hx hb dL_law_174 rfl (lv_at hl 0 rfl) ?_
        refine lv_iload_n hx hb dL_law_175 rfl (lv_at hl 3 rfl) ?_
        refine lv_iconst (v := 1) hx hb dL_law_176 (by decide) ?_
        refine lv_iadd hx hb dL_law_177 ?_
        refine lv_topi (fun z_3 ez_3 => ?_)
        have ez_3 : z_3 = nI (i + 1) := ez_3.trans (nI_add i 1)
        subst ez_3
        refine va_sld hx hb hX hbl hbA hS (vp_in_nI (n := (i + 1)) (by omega) (by omega)) dL_law_178 ?_
        rw [nI_clamp (by omega)]
        have hPc := hP.sub (ws' := (rW bd cJ cZ K row2 (nI n) sd vl wt (nI T) kn tl od (nI (pc kb)) cl2 inn stt)) [7, 8, 9, 10, 11, 12, 13, 14, 15] rfl
        have hKc := hK.sub (tys' := [(cJ, .int), (cZ, .boolean)]) [1, 2] rfl
        have hDc := hD.sub (ws' := (rW bd cJ cZ K row2 (nI n) sd vl wt (nI T) kn tl od (nI (pc kb)) cl2 inn stt)) [7, 8, 9, 10, 11, 12, 13, 14, 15] (by decide) rfl
        have hFc := va_free (wc := (rW bd cJ cZ K row2 (nI n) sd vl wt (nI T) kn tl od (nI (pc kb)) cl2 inn stt)) hD hS hA [7, 8, 9, 10, 11, 12, 13, 14, 15] rfl
        refine va_calli (va_runV (As := [.int (xs (i + 1))]) (rest := [.int (nI (dg K (dr (ns (xs (i + 1))))))]) ⟨hx, hb, hml, hown, hts⟩ (c_X1_degree l dC dI H.size bd cJ cZ K row2 (nI n) sd vl wt (nI T) kn tl od (nI (pc kb)) cl2 inn stt hK1 hK2 (xs (i + 1))) (cwV 1 hts gL_law_X1_degree rfl rfl rfl (by decide +kernel) ⟨Nat.le_of_ble_eq_true rfl, Nat.le_of_ble_eq_true rfl⟩) ⟨wFb, va_recv hKc hPc (ci := 1) (q0 := 0) rfl rfl, fun U hU hW => ⟨rfl, by rw [hU], by rw [hU]; exact hPc, va_K.moved hW.alike hKc, hDc.weaken (fun _ _ _ _ => trivial)⟩⟩ rfl rfl hl.1 rfl (lv_room (Nat.le_of_ble_eq_true rfl)) dL_law_179 ⟨Nat.le_of_ble_eq_true rfl, Nat.le_of_ble_eq_true rfl⟩) hS (fun q _ h => hFc q h) hFc (fun r_4 u_5 t H1 locs ht hvm hw hB hz1 hk1 hS => ?_)
        obtain ⟨hP1, hK1, hD1⟩ := hB
        rw [ht] at hP1
        obtain ⟨hP, hD⟩ := va_join (wr := (xW ad cI K row S V (nI n) kw ko kb qu qe cl2)) (w1 := (rW bd cJ cZ K row2 (nI n) sd vl wt (nI T) kn tl od (nI (pc kb)) cl2 u_5.1 u_5.2)) hP hD [7, 8, 9, 10, 11, 12, 13, 14, 15] [0, 1, 2, 3, 4, 5, 6] rfl rfl (by decide) (by decide) hk1 hFc hP1 hD1
        clear hP1 hD1 hK1 hFc hk1 hz1 hPc hKc hDc
        generalize H1 = H at hP hS ⊢
        have hP : va_P (dC, dI) vwCl ((xW ad cI K row S V (nI n) kw ko kb qu qe cl2) ++ (rW bd cJ cZ K row2 (nI n) sd vl wt (nI T) kn tl od (nI (pc kb)) cl2 u_5.1 u_5.2)) H := hP
        have hD : va_D (fun q : Nat => s.heap.size ≤ q) ((xW ad cI K row S V (nI n) kw ko kb qu qe cl2) ++ (rW bd cJ cZ K row2 (nI n) sd vl wt (nI T) kn tl od (nI (pc kb)) cl2 u_5.1 u_5.2)) := hD
        subst hw
        refine lv_icmp_eq (tgt := 387) hx hb dL_law_182 (by decide) (fun c9 => ?_) (fun c9 => ?_)
        · skip
          exact back _ T _ _ _ _ _ _ _ _ _ _ _ _ _ _ _ _ _ _ _ _ _ _ _ ls hP hD hS (lv_sub hl [0, 1, 2, 3] rfl) (by omega) (⟨hn60, hrow, hSd, hVl, hkb, hno, hRR⟩)
        · skip
          exact absurd (rfl) c9
      · skip
        refine lv_tableIn (off := 145) (tgt := 187) hx hb dL_law_42 (by decide) (by decide) (by decide) (by decide) ?_
        refine lv_aload_n hx hb dL_law_187 rfl (lv_at hl 1 rfl) ?_
        refine lv_aload_n hx hb dL_law_188 rfl (lv_at hl 0 rfl) ?_
        refine lv_iload_n hx hb dL_law_189 rfl (lv_at hl 3 rfl) ?_
        refine lv_iconst (v := 1) hx hb dL_law_190 (by decide) ?_
        refine lv_iadd hx hb dL_law_191 ?_
        refine lv_topi (fun z_1 ez_1 => ?_)
        have ez_1 : z_1 = nI (i + 1) := ez_1.trans (nI_add i 1)
        subst ez_1
        refine va_sld hx hb hX hbl hbA hS (vp_in_nI (n := (i + 1)) (by omega) (by omega)) dL_law_192 ?_
        rw [nI_clamp (by omega)]
        have hPc := hP.sub (ws' := (xW ad cI K row S V (nI n) kw ko kb qu qe cl2)) [0, 1, 2, 3, 4, 5, 6] rfl
        have hKc := hK.sub (tys' := [(cI, .int)]) [0] rfl
        refine vp_callSi (W.runV (As := [.int (xs (i + 1))]) (rest := []) ⟨hx, hb, hml, hown, hts⟩ (c_X0_set l dC dI ad cI K row S V (nI n) kw ko kb qu qe cl2 hK1 hK2 (xs (i + 1))) (cwV 1 hts gL_law_X0_set rfl rfl rfl (by decide +kernel) ⟨Nat.le_of_ble_eq_true rfl, Nat.le_of_ble_eq_true rfl⟩) ⟨rFb, va_recv hKc hPc (ci := 0) (q0 := 0) rfl rfl, fun U hU hW => ⟨rfl, by rw [hU]; exact hPc, va_K.moved hW.alike hKc⟩⟩ rfl rfl hl.1 rfl (lv_room (Nat.le_of_ble_eq_true rfl)) dL_law_193 ⟨Nat.le_of_ble_eq_true rfl, Nat.le_of_ble_eq_true rfl⟩) (fun r_2 er_2 => ?_)
        rw [er_2]
        clear er_2 r_2 hPc hKc
        refine lv_aload_n hx hb dL_law_196 rfl (lv_at hl 2 rfl) ?_
        refine lv_aload_n hx hb dL_law_197 rfl (lv_at hl 0 rfl) ?_
        refine lv_iload_n hx hb dL_law_198 rfl (lv_at hl 3 rfl) ?_
        refine lv_iconst (v := 1) hx hb dL_law_199 (by decide) ?_
        refine lv_iadd hx hb dL_law_200 ?_
        refine lv_topi (fun z_3 ez_3 => ?_)
        have ez_3 : z_3 = nI (i + 1) := ez_3.trans (nI_add i 1)
        subst ez_3
        refine va_sld hx hb hX hbl hbA hS (vp_in_nI (n := (i + 1)) (by omega) (by omega)) dL_law_201 ?_
        rw [nI_clamp (by omega)]
        have hPc := hP.sub (ws' := (rW bd cJ cZ K row2 (nI n) sd vl wt (nI T) kn tl od (nI (pc kb)) cl2 inn stt)) [7, 8, 9, 10, 11, 12, 13, 14, 15] rfl
        have hKc := hK.sub (tys' := [(cJ, .int), (cZ, .boolean)]) [1, 2] rfl
        have hDc := hD.sub (ws' := (rW bd cJ cZ K row2 (nI n) sd vl wt (nI T) kn tl od (nI (pc kb)) cl2 inn stt)) [7, 8, 9, 10, 11, 12, 13, 14, 15] (by decide) rfl
        have hFc := va_free (wc := (rW bd cJ cZ K row2 (nI n) sd vl wt (nI T) kn tl od (nI (pc kb)) cl2 inn stt)) hD hS hA [7, 8, 9, 10, 11, 12, 13, 14, 15] rfl
        refine va_calli (va_runV (As := [.int (xs (i + 1))]) (rest := [.int (setA K (xs (i + 1)))]) ⟨hx, hb, hml, hown, hts⟩ (c_X1_set l dC dI H.size bd cJ cZ K row2 (nI n) sd vl wt (nI T) kn tl od (nI (pc kb)) cl2 inn stt hK1 hK2 (xs (i + 1))) (cwV 1 hts gL_law_X1_set rfl rfl rfl (by decide +kernel) ⟨Nat.le_of_ble_eq_true rfl, Nat.le_of_ble_eq_true rfl⟩) ⟨wFb, va_recv hKc hPc (ci := 1) (q0 := 0) rfl rfl, fun U hU hW => ⟨rfl, by rw [hU], by rw [hU]; exact hPc, va_K.moved hW.alike hKc, hDc.weaken (fun _ _ _ _ => trivial)⟩⟩ rfl rfl hl.1 rfl (lv_room (Nat.le_of_ble_eq_true rfl)) dL_law_202 ⟨Nat.le_of_ble_eq_true rfl, Nat.le_of_ble_eq_true rfl⟩) hS (fun q _ h => hFc q h) hFc (fun r_4 u_5 t H1 locs ht hvm hw hB hz1 hk1 hS => ?_)
        obtain ⟨hP1, hK1, hD1⟩ := hB
        rw [ht] at hP1
        obtain ⟨hP, hD⟩ := va_join (wr := (xW ad cI K row S V (nI n) kw ko kb qu qe cl2)) (w1 := (rW bd cJ cZ K row2 (nI n) sd vl wt (nI T) kn tl od (nI (pc kb)) cl2 u_5.1 u_5.2)) hP hD [7, 8, 9, 10, 11, 12, 13, 14, 15] [0, 1, 2, 3, 4, 5, 6] rfl rfl (by decide) (by decide) hk1 hFc hP1 hD1
        clear hP1 hD1 hK1 hFc hk1 hz1 hPc hKc hDc
        generalize H1 = H at hP hS ⊢
        have hP : va_P (dC, dI) vwCl ((xW ad cI K row S V (nI n) kw ko kb qu qe cl2) ++ (rW bd cJ cZ K row2 (nI n) sd vl wt (nI T) kn tl od (nI (pc kb)) cl2 u_5.1 u_5.2)) H := hP
        have hD : va_D (fun q : Nat => s.heap.size ≤ q) ((xW ad cI K row S V (nI n) kw ko kb qu qe cl2) ++ (rW bd cJ cZ K row2 (nI n) sd vl wt (nI T) kn tl od (nI (pc kb)) cl2 u_5.1 u_5.2)) := hD
        subst hw
        refine lv_icmp_eq (tgt := 387) hx hb dL_law_205 (by decide) (fun c9 => ?_) (fun c9 => ?_)
        · skip
          exact back _ T _ _ _ _ _ _ _ _ _ _ _ _ _ _ _ _ _ _ _ _ _ _ _ ls hP hD hS (lv_sub hl [0, 1, 2, 3] rfl) (by omega) (⟨hn60, hrow, hSd, hVl, hkb, hno, hRR⟩)
        · skip
          exact absurd (rfl) c9
      · skip
        refine lv_tableIn (off := 168) (tgt := 210) hx hb dL_law_42 (by decide) (by decide) (by decide) (by decide) ?_
        rcases Nat.lt_or_ge n 60 with hlt | hge
        · skip
          refine lv_aload_n hx hb dL_law_210 rfl (lv_at hl 1 rfl) ?_
          refine lv_aload_n hx hb dL_law_211 rfl (lv_at hl 0 rfl) ?_
          refine lv_iload_n hx hb dL_law_212 rfl (lv_at hl 3 rfl) ?_
          refine lv_iconst (v := 1) hx hb dL_law_213 (by decide) ?_
          refine lv_iadd hx hb dL_law_214 ?_
          refine lv_topi (fun z_1 ez_1 => ?_)
          have ez_1 : z_1 = nI (i + 1) := ez_1.trans (nI_add i 1)
          subst ez_1
          refine va_sld hx hb hX hbl hbA hS (vp_in_nI (n := (i + 1)) (by omega) (by omega)) dL_law_215 ?_
          rw [nI_clamp (by omega)]
          refine lv_aload_n hx hb dL_law_216 rfl (lv_at hl 0 rfl) ?_
          refine lv_iload_n hx hb dL_law_217 rfl (lv_at hl 3 rfl) ?_
          refine lv_iconst (v := 2) hx hb dL_law_218 (by decide) ?_
          refine lv_iadd hx hb dL_law_219 ?_
          refine lv_topi (fun z_2 ez_2 => ?_)
          have ez_2 : z_2 = nI (i + 2) := ez_2.trans (nI_add i 2)
          subst ez_2
          refine va_sld hx hb hX hbl hbA hS (vp_in_nI (n := (i + 2)) (by omega) (by omega)) dL_law_220 ?_
          rw [nI_clamp (by omega)]
          have hPc := hP.sub (ws' := (xW ad cI K row S V (nI n) kw ko kb qu qe cl2)) [0, 1, 2, 3, 4, 5, 6] rfl
          have hKc := hK.sub (tys' := [(cI, .int)]) [0] rfl
          have hDc := hD.sub (ws' := (xW ad cI K row S V (nI n) kw ko kb qu qe cl2)) [0, 1, 2, 3, 4, 5, 6] (by decide) rfl
          have hFc := va_free (wc := (xW ad cI K row S V (nI n) kw ko kb qu qe cl2)) hD hS hA [0, 1, 2, 3, 4, 5, 6] rfl
          refine va_calli (va_runV (As := [.int (xs (i + 1)), .int (xs (i + 2))]) (rest := []) ⟨hx, hb, hml, hown, hts⟩ (c_X0_receive l dC dI H.size ad cI K row S V kw ko kb qu qe cl2 hK1 hK2 n hlt (xs (i + 1)) (xs (i + 2)) hS0 hkb hno) (cwV 2 hts gL_law_X0_receive rfl rfl rfl (by decide +kernel) ⟨Nat.le_of_ble_eq_true rfl, Nat.le_of_ble_eq_true rfl⟩) ⟨wFb, va_recv hKc hPc (ci := 0) (q0 := 0) rfl rfl, fun U hU hW => ⟨rfl, by rw [hU], by rw [hU]; exact hPc, va_K.moved hW.alike hKc, hDc.weaken (fun _ _ _ _ => trivial)⟩⟩ rfl rfl hl.1 rfl (lv_room (Nat.le_of_ble_eq_true rfl)) dL_law_221 ⟨Nat.le_of_ble_eq_true rfl, Nat.le_of_ble_eq_true rfl⟩) hS (fun q _ h => hFc q h) hFc (fun r_3 u_4 t H1 locs ht hvm hw hB hz1 hk1 hS => ?_)
          obtain ⟨hP1, hK1, hD1⟩ := hB
          rw [ht] at hP1
          obtain ⟨hP, hD⟩ := va_join (wr := (rW bd cJ cZ K row2 (nI n) sd vl wt (nI T) kn tl od (nI (pc kb)) cl2 inn stt)) (w1 := (xW ad cI K row (upd S n (setA K (xs (i + 1)))) (upd V n (xs (i + 2))) (nI (n + 1)) ((rnF K (n + 1) (upd S n (setA K (xs (i + 1)))) (upd V n (xs (i + 2))) 60 0 (rcI K n (upd S n (setA K (xs (i + 1)))) (upd V n (xs (i + 2))) kw ko kb qu cl2)).1) ((rnF K (n + 1) (upd S n (setA K (xs (i + 1)))) (upd V n (xs (i + 2))) 60 0 (rcI K n (upd S n (setA K (xs (i + 1)))) (upd V n (xs (i + 2))) kw ko kb qu cl2)).2.1) ((rnF K (n + 1) (upd S n (setA K (xs (i + 1)))) (upd V n (xs (i + 2))) 60 0 (rcI K n (upd S n (setA K (xs (i + 1)))) (upd V n (xs (i + 2))) kw ko kb qu cl2)).2.2.1) ((rnF K (n + 1) (upd S n (setA K (xs (i + 1)))) (upd V n (xs (i + 2))) 60 0 (rcI K n (upd S n (setA K (xs (i + 1)))) (upd V n (xs (i + 2))) kw ko kb qu cl2)).2.2.2.1) (nI (rnF K (n + 1) (upd S n (setA K (xs (i + 1)))) (upd V n (xs (i + 2))) 60 0 (rcI K n (upd S n (setA K (xs (i + 1)))) (upd V n (xs (i + 2))) kw ko kb qu cl2)).2.2.2.2.1) ((rnF K (n + 1) (upd S n (setA K (xs (i + 1)))) (upd V n (xs (i + 2))) 60 0 (rcI K n (upd S n (setA K (xs (i + 1)))) (upd V n (xs (i + 2))) kw ko kb qu cl2)).2.2.2.2.2))) hP hD [0, 1, 2, 3, 4, 5, 6] [7, 8, 9, 10, 11, 12, 13, 14, 15] rfl rfl (by decide) (by decide) hk1 hFc hP1 hD1
          clear hP1 hD1 hK1 hFc hk1 hz1 hPc hKc hDc
          generalize H1 = H at hP hS ⊢
          have hP := hP.sub (ws' := ((xW ad cI K row (upd S n (setA K (xs (i + 1)))) (upd V n (xs (i + 2))) (nI (n + 1)) ((rnF K (n + 1) (upd S n (setA K (xs (i + 1)))) (upd V n (xs (i + 2))) 60 0 (rcI K n (upd S n (setA K (xs (i + 1)))) (upd V n (xs (i + 2))) kw ko kb qu cl2)).1) ((rnF K (n + 1) (upd S n (setA K (xs (i + 1)))) (upd V n (xs (i + 2))) 60 0 (rcI K n (upd S n (setA K (xs (i + 1)))) (upd V n (xs (i + 2))) kw ko kb qu cl2)).2.1) ((rnF K (n + 1) (upd S n (setA K (xs (i + 1)))) (upd V n (xs (i + 2))) 60 0 (rcI K n (upd S n (setA K (xs (i + 1)))) (upd V n (xs (i + 2))) kw ko kb qu cl2)).2.2.1) ((rnF K (n + 1) (upd S n (setA K (xs (i + 1)))) (upd V n (xs (i + 2))) 60 0 (rcI K n (upd S n (setA K (xs (i + 1)))) (upd V n (xs (i + 2))) kw ko kb qu cl2)).2.2.2.1) (nI (rnF K (n + 1) (upd S n (setA K (xs (i + 1)))) (upd V n (xs (i + 2))) 60 0 (rcI K n (upd S n (setA K (xs (i + 1)))) (upd V n (xs (i + 2))) kw ko kb qu cl2)).2.2.2.2.1) ((rnF K (n + 1) (upd S n (setA K (xs (i + 1)))) (upd V n (xs (i + 2))) 60 0 (rcI K n (upd S n (setA K (xs (i + 1)))) (upd V n (xs (i + 2))) kw ko kb qu cl2)).2.2.2.2.2)) ++ (rW bd cJ cZ K row2 (nI n) sd vl wt (nI T) kn tl od (nI (pc kb)) cl2 inn stt))) [9, 10, 11, 12, 13, 14, 15, 0, 1, 2, 3, 4, 5, 6, 7, 8] rfl
          have hD := hD.sub (ws' := ((xW ad cI K row (upd S n (setA K (xs (i + 1)))) (upd V n (xs (i + 2))) (nI (n + 1)) ((rnF K (n + 1) (upd S n (setA K (xs (i + 1)))) (upd V n (xs (i + 2))) 60 0 (rcI K n (upd S n (setA K (xs (i + 1)))) (upd V n (xs (i + 2))) kw ko kb qu cl2)).1) ((rnF K (n + 1) (upd S n (setA K (xs (i + 1)))) (upd V n (xs (i + 2))) 60 0 (rcI K n (upd S n (setA K (xs (i + 1)))) (upd V n (xs (i + 2))) kw ko kb qu cl2)).2.1) ((rnF K (n + 1) (upd S n (setA K (xs (i + 1)))) (upd V n (xs (i + 2))) 60 0 (rcI K n (upd S n (setA K (xs (i + 1)))) (upd V n (xs (i + 2))) kw ko kb qu cl2)).2.2.1) ((rnF K (n + 1) (upd S n (setA K (xs (i + 1)))) (upd V n (xs (i + 2))) 60 0 (rcI K n (upd S n (setA K (xs (i + 1)))) (upd V n (xs (i + 2))) kw ko kb qu cl2)).2.2.2.1) (nI (rnF K (n + 1) (upd S n (setA K (xs (i + 1)))) (upd V n (xs (i + 2))) 60 0 (rcI K n (upd S n (setA K (xs (i + 1)))) (upd V n (xs (i + 2))) kw ko kb qu cl2)).2.2.2.2.1) ((rnF K (n + 1) (upd S n (setA K (xs (i + 1)))) (upd V n (xs (i + 2))) 60 0 (rcI K n (upd S n (setA K (xs (i + 1)))) (upd V n (xs (i + 2))) kw ko kb qu cl2)).2.2.2.2.2)) ++ (rW bd cJ cZ K row2 (nI n) sd vl wt (nI T) kn tl od (nI (pc kb)) cl2 inn stt))) [9, 10, 11, 12, 13, 14, 15, 0, 1, 2, 3, 4, 5, 6, 7, 8] (by decide) rfl
          have hP : va_P (dC, dI) vwCl ((xW ad cI K row (upd S n (setA K (xs (i + 1)))) (upd V n (xs (i + 2))) (nI (n + 1)) ((rnF K (n + 1) (upd S n (setA K (xs (i + 1)))) (upd V n (xs (i + 2))) 60 0 (rcI K n (upd S n (setA K (xs (i + 1)))) (upd V n (xs (i + 2))) kw ko kb qu cl2)).1) ((rnF K (n + 1) (upd S n (setA K (xs (i + 1)))) (upd V n (xs (i + 2))) 60 0 (rcI K n (upd S n (setA K (xs (i + 1)))) (upd V n (xs (i + 2))) kw ko kb qu cl2)).2.1) ((rnF K (n + 1) (upd S n (setA K (xs (i + 1)))) (upd V n (xs (i + 2))) 60 0 (rcI K n (upd S n (setA K (xs (i + 1)))) (upd V n (xs (i + 2))) kw ko kb qu cl2)).2.2.1) ((rnF K (n + 1) (upd S n (setA K (xs (i + 1)))) (upd V n (xs (i + 2))) 60 0 (rcI K n (upd S n (setA K (xs (i + 1)))) (upd V n (xs (i + 2))) kw ko kb qu cl2)).2.2.2.1) (nI (rnF K (n + 1) (upd S n (setA K (xs (i + 1)))) (upd V n (xs (i + 2))) 60 0 (rcI K n (upd S n (setA K (xs (i + 1)))) (upd V n (xs (i + 2))) kw ko kb qu cl2)).2.2.2.2.1) ((rnF K (n + 1) (upd S n (setA K (xs (i + 1)))) (upd V n (xs (i + 2))) 60 0 (rcI K n (upd S n (setA K (xs (i + 1)))) (upd V n (xs (i + 2))) kw ko kb qu cl2)).2.2.2.2.2)) ++ (rW bd cJ cZ K row2 (nI n) sd vl wt (nI T) kn tl od (nI (pc kb)) cl2 inn stt)) H := hP
          have hD : va_D (fun q : Nat => s.heap.size ≤ q) ((xW ad cI K row (upd S n (setA K (xs (i + 1)))) (upd V n (xs (i + 2))) (nI (n + 1)) ((rnF K (n + 1) (upd S n (setA K (xs (i + 1)))) (upd V n (xs (i + 2))) 60 0 (rcI K n (upd S n (setA K (xs (i + 1)))) (upd V n (xs (i + 2))) kw ko kb qu cl2)).1) ((rnF K (n + 1) (upd S n (setA K (xs (i + 1)))) (upd V n (xs (i + 2))) 60 0 (rcI K n (upd S n (setA K (xs (i + 1)))) (upd V n (xs (i + 2))) kw ko kb qu cl2)).2.1) ((rnF K (n + 1) (upd S n (setA K (xs (i + 1)))) (upd V n (xs (i + 2))) 60 0 (rcI K n (upd S n (setA K (xs (i + 1)))) (upd V n (xs (i + 2))) kw ko kb qu cl2)).2.2.1) ((rnF K (n + 1) (upd S n (setA K (xs (i + 1)))) (upd V n (xs (i + 2))) 60 0 (rcI K n (upd S n (setA K (xs (i + 1)))) (upd V n (xs (i + 2))) kw ko kb qu cl2)).2.2.2.1) (nI (rnF K (n + 1) (upd S n (setA K (xs (i + 1)))) (upd V n (xs (i + 2))) 60 0 (rcI K n (upd S n (setA K (xs (i + 1)))) (upd V n (xs (i + 2))) kw ko kb qu cl2)).2.2.2.2.1) ((rnF K (n + 1) (upd S n (setA K (xs (i + 1)))) (upd V n (xs (i + 2))) 60 0 (rcI K n (upd S n (setA K (xs (i + 1)))) (upd V n (xs (i + 2))) kw ko kb qu cl2)).2.2.2.2.2)) ++ (rW bd cJ cZ K row2 (nI n) sd vl wt (nI T) kn tl od (nI (pc kb)) cl2 inn stt)) := hD
          subst hw
          have hE := rn_end (V := (upd V n (xs (i + 2)))) hK2 hlt (rc_S (seed := (xs (i + 1))) hK1 hK2 hS0) 60 0 _ rfl (rc_inv (V := (upd V n (xs (i + 2)))) (kw := kw) (ko := ko) (qu := qu) (cl := cl2) hkb hno)
          obtain ⟨Y, hY⟩ : ∃ Y, Y = rnF K (n + 1) (upd S n (setA K (xs (i + 1)))) (upd V n (xs (i + 2))) 60 0 (rcI K n (upd S n (setA K (xs (i + 1)))) (upd V n (xs (i + 2))) kw ko kb qu cl2) := ⟨_, rfl⟩
          rw [← hY] at hP hD hE
          rw [← hY]
          have hq9 := qInv_le hE
          refine lv_aload_n hx hb dL_law_224 rfl (lv_at hl 2 rfl) ?_
          refine lv_aload_n hx hb dL_law_225 rfl (lv_at hl 0 rfl) ?_
          refine lv_iload_n hx hb dL_law_226 rfl (lv_at hl 3 rfl) ?_
          refine lv_iconst (v := 1) hx hb dL_law_227 (by decide) ?_
          refine lv_iadd hx hb dL_law_228 ?_
          refine lv_topi (fun z_5 ez_5 => ?_)
          have ez_5 : z_5 = nI (i + 1) := ez_5.trans (nI_add i 1)
          subst ez_5
          refine va_sld hx hb hX hbl hbA hS (vp_in_nI (n := (i + 1)) (by omega) (by omega)) dL_law_229 ?_
          rw [nI_clamp (by omega)]
          refine lv_aload_n hx hb dL_law_230 rfl (lv_at hl 0 rfl) ?_
          refine lv_iload_n hx hb dL_law_231 rfl (lv_at hl 3 rfl) ?_
          refine lv_iconst (v := 2) hx hb dL_law_232 (by decide) ?_
          refine lv_iadd hx hb dL_law_233 ?_
          refine lv_topi (fun z_6 ez_6 => ?_)
          have ez_6 : z_6 = nI (i + 2) := ez_6.trans (nI_add i 2)
          subst ez_6
          refine va_sld hx hb hX hbl hbA hS (vp_in_nI (n := (i + 2)) (by omega) (by omega)) dL_law_234 ?_
          rw [nI_clamp (by omega)]
          have hPc := hP.sub (ws' := (rW bd cJ cZ K row2 (nI n) sd vl wt (nI T) kn tl od (nI (pc kb)) cl2 inn stt)) [7, 8, 9, 10, 11, 12, 13, 14, 15] rfl
          have hKc := hK.sub (tys' := [(cJ, .int), (cZ, .boolean)]) [1, 2] rfl
          have hDc := hD.sub (ws' := (rW bd cJ cZ K row2 (nI n) sd vl wt (nI T) kn tl od (nI (pc kb)) cl2 inn stt)) [7, 8, 9, 10, 11, 12, 13, 14, 15] (by decide) rfl
          have hFc := va_free (wc := (rW bd cJ cZ K row2 (nI n) sd vl wt (nI T) kn tl od (nI (pc kb)) cl2 inn stt)) hD hS hA [7, 8, 9, 10, 11, 12, 13, 14, 15] rfl
          refine va_calli (va_runV (As := [.int (xs (i + 1)), .int (xs (i + 2))]) (rest := [.int (nI (pc Y.2.2.1))]) ⟨hx, hb, hml, hown, hts⟩ (c_X1_receive l dC dI H.size bd cJ cZ K row2 sd vl wt kn tl od inn stt hK1 hK2 n hlt (xs (i + 1)) (xs (i + 2)) T (by omega) S V kw ko kb qu cl2 hSd hVl hS0 hkb hno hRR) (cwV 2 hts gL_law_X1_receive rfl rfl rfl (by decide +kernel) ⟨Nat.le_of_ble_eq_true rfl, Nat.le_of_ble_eq_true rfl⟩) ⟨wFb, va_recv hKc hPc (ci := 1) (q0 := 0) rfl rfl, fun U hU hW => ⟨rfl, by rw [hU], by rw [hU]; exact hPc, va_K.moved hW.alike hKc, hDc.weaken (fun _ _ _ _ => trivial)⟩⟩ rfl rfl hl.1 rfl (lv_room (Nat.le_of_ble_eq_true rfl)) dL_law_235 ⟨Nat.le_of_ble_eq_true rfl, Nat.le_of_ble_eq_true rfl⟩) hS (fun q _ h => hFc q h) hFc (fun r_7 u_8 t H1 locs ht hvm hw hB hz1 hk1 hS => ?_)
          obtain ⟨hP1, hK1, hD1⟩ := hB
          rw [ht] at hP1
          obtain ⟨hP, hD⟩ := va_join (wr := (xW ad cI K row (upd S n (setA K (xs (i + 1)))) (upd V n (xs (i + 2))) (nI (n + 1)) Y.1 Y.2.1 Y.2.2.1 Y.2.2.2.1 (nI Y.2.2.2.2.1) Y.2.2.2.2.2)) (w1 := (rW bd cJ cZ K row2 (nI (n + 1)) (upd sd n (xs (i + 1))) (upd vl n (xs (i + 2))) u_8.1 u_8.2.1 u_8.2.2.1 u_8.2.2.2.1 u_8.2.2.2.2.1 u_8.2.2.2.2.2.1 u_8.2.2.2.2.2.2.1 u_8.2.2.2.2.2.2.2.1 u_8.2.2.2.2.2.2.2.2)) hP hD [7, 8, 9, 10, 11, 12, 13, 14, 15] [0, 1, 2, 3, 4, 5, 6] rfl rfl (by decide) (by decide) hk1 hFc hP1 hD1
          clear hP1 hD1 hK1 hFc hk1 hz1 hPc hKc hDc
          generalize H1 = H at hP hS ⊢
          have hP : va_P (dC, dI) vwCl ((xW ad cI K row (upd S n (setA K (xs (i + 1)))) (upd V n (xs (i + 2))) (nI (n + 1)) Y.1 Y.2.1 Y.2.2.1 Y.2.2.2.1 (nI Y.2.2.2.2.1) Y.2.2.2.2.2) ++ (rW bd cJ cZ K row2 (nI (n + 1)) (upd sd n (xs (i + 1))) (upd vl n (xs (i + 2))) u_8.1 u_8.2.1 u_8.2.2.1 u_8.2.2.2.1 u_8.2.2.2.2.1 u_8.2.2.2.2.2.1 u_8.2.2.2.2.2.2.1 u_8.2.2.2.2.2.2.2.1 u_8.2.2.2.2.2.2.2.2)) H := hP
          have hD : va_D (fun q : Nat => s.heap.size ≤ q) ((xW ad cI K row (upd S n (setA K (xs (i + 1)))) (upd V n (xs (i + 2))) (nI (n + 1)) Y.1 Y.2.1 Y.2.2.1 Y.2.2.2.1 (nI Y.2.2.2.2.1) Y.2.2.2.2.2) ++ (rW bd cJ cZ K row2 (nI (n + 1)) (upd sd n (xs (i + 1))) (upd vl n (xs (i + 2))) u_8.1 u_8.2.1 u_8.2.2.1 u_8.2.2.2.1 u_8.2.2.2.2.1 u_8.2.2.2.2.2.1 u_8.2.2.2.2.2.2.1 u_8.2.2.2.2.2.2.2.1 u_8.2.2.2.2.2.2.2.2)) := hD
          rw [← hY] at hw; obtain ⟨rfl, hR9⟩ := hw
          refine lv_icmp_eq (tgt := 387) hx hb dL_law_238 (by decide) (fun c9 => ?_) (fun c9 => ?_)
          · skip
            exact back _ _ _ _ _ _ _ _ _ _ _ _ _ _ _ _ _ _ _ _ _ _ _ _ _ ls hP hD hS (lv_sub hl [0, 1, 2, 3] rfl) (by omega) (⟨hlt, hrow, rc_sd hSd, rc_vl hVl, hE.1, qInv_end hE, hR9⟩)
          · skip
            exact absurd (rfl) c9
        · skip
          have hn6 : n = 60 := by omega
          subst hn6
          refine lv_aload_n hx hb dL_law_210 rfl (lv_at hl 1 rfl) ?_
          refine lv_aload_n hx hb dL_law_211 rfl (lv_at hl 0 rfl) ?_
          refine lv_iload_n hx hb dL_law_212 rfl (lv_at hl 3 rfl) ?_
          refine lv_iconst (v := 1) hx hb dL_law_213 (by decide) ?_
          refine lv_iadd hx hb dL_law_214 ?_
          refine lv_topi (fun z_1 ez_1 => ?_)
          have ez_1 : z_1 = nI (i + 1) := ez_1.trans (nI_add i 1)
          subst ez_1
          refine va_sld hx hb hX hbl hbA hS (vp_in_nI (n := (i + 1)) (by omega) (by omega)) dL_law_215 ?_
          rw [nI_clamp (by omega)]
          refine lv_aload_n hx hb dL_law_216 rfl (lv_at hl 0 rfl) ?_
          refine lv_iload_n hx hb dL_law_217 rfl (lv_at hl 3 rfl) ?_
          refine lv_iconst (v := 2) hx hb dL_law_218 (by decide) ?_
          refine lv_iadd hx hb dL_law_219 ?_
          refine lv_topi (fun z_2 ez_2 => ?_)
          have ez_2 : z_2 = nI (i + 2) := ez_2.trans (nI_add i 2)
          subst ez_2
          refine va_sld hx hb hX hbl hbA hS (vp_in_nI (n := (i + 2)) (by omega) (by omega)) dL_law_220 ?_
          rw [nI_clamp (by omega)]
          have hPc := hP.sub (ws' := (xW ad cI K row S V (nI 60) kw ko kb qu qe cl2)) [0, 1, 2, 3, 4, 5, 6] rfl
          have hKc := hK.sub (tys' := [(cI, .int)]) [0] rfl
          have hDc := hD.sub (ws' := (xW ad cI K row S V (nI 60) kw ko kb qu qe cl2)) [0, 1, 2, 3, 4, 5, 6] (by decide) rfl
          have hFc := va_free (wc := (xW ad cI K row S V (nI 60) kw ko kb qu qe cl2)) hD hS hA [0, 1, 2, 3, 4, 5, 6] rfl
          refine va_calli (va_runV (As := [.int (xs (i + 1)), .int (xs (i + 2))]) (rest := []) ⟨hx, hb, hml, hown, hts⟩ (c_X0_receive_full l dC dI H.size ad cI K row S V kw ko kb qu qe cl2 (xs (i + 1)) (xs (i + 2))) (cwV 2 hts gL_law_X0_receive rfl rfl rfl (by decide +kernel) ⟨Nat.le_of_ble_eq_true rfl, Nat.le_of_ble_eq_true rfl⟩) ⟨wFb, va_recv hKc hPc (ci := 0) (q0 := 0) rfl rfl, fun U hU hW => ⟨rfl, by rw [hU], by rw [hU]; exact hPc, va_K.moved hW.alike hKc, hDc.weaken (fun _ _ _ _ => trivial)⟩⟩ rfl rfl hl.1 rfl (lv_room (Nat.le_of_ble_eq_true rfl)) dL_law_221 ⟨Nat.le_of_ble_eq_true rfl, Nat.le_of_ble_eq_true rfl⟩) hS (fun q _ h => hFc q h) hFc (fun r_3 u_4 t H1 locs ht hvm hw hB hz1 hk1 hS => ?_)
          obtain ⟨hP1, hK1, hD1⟩ := hB
          rw [ht] at hP1
          obtain ⟨hP, hD⟩ := va_join (wr := (rW bd cJ cZ K row2 (nI 60) sd vl wt (nI T) kn tl od (nI (pc kb)) cl2 inn stt)) (w1 := (xW ad cI K row S V (nI 60) kw ko kb qu qe cl2)) hP hD [0, 1, 2, 3, 4, 5, 6] [7, 8, 9, 10, 11, 12, 13, 14, 15] rfl rfl (by decide) (by decide) hk1 hFc hP1 hD1
          clear hP1 hD1 hK1 hFc hk1 hz1 hPc hKc hDc
          generalize H1 = H at hP hS ⊢
          have hP := hP.sub (ws' := ((xW ad cI K row S V (nI 60) kw ko kb qu qe cl2) ++ (rW bd cJ cZ K row2 (nI 60) sd vl wt (nI T) kn tl od (nI (pc kb)) cl2 inn stt))) [9, 10, 11, 12, 13, 14, 15, 0, 1, 2, 3, 4, 5, 6, 7, 8] rfl
          have hD := hD.sub (ws' := ((xW ad cI K row S V (nI 60) kw ko kb qu qe cl2) ++ (rW bd cJ cZ K row2 (nI 60) sd vl wt (nI T) kn tl od (nI (pc kb)) cl2 inn stt))) [9, 10, 11, 12, 13, 14, 15, 0, 1, 2, 3, 4, 5, 6, 7, 8] (by decide) rfl
          have hP : va_P (dC, dI) vwCl ((xW ad cI K row S V (nI 60) kw ko kb qu qe cl2) ++ (rW bd cJ cZ K row2 (nI 60) sd vl wt (nI T) kn tl od (nI (pc kb)) cl2 inn stt)) H := hP
          have hD : va_D (fun q : Nat => s.heap.size ≤ q) ((xW ad cI K row S V (nI 60) kw ko kb qu qe cl2) ++ (rW bd cJ cZ K row2 (nI 60) sd vl wt (nI T) kn tl od (nI (pc kb)) cl2 inn stt)) := hD
          subst hw
          refine lv_aload_n hx hb dL_law_224 rfl (lv_at hl 2 rfl) ?_
          refine lv_aload_n hx hb dL_law_225 rfl (lv_at hl 0 rfl) ?_
          refine lv_iload_n hx hb dL_law_226 rfl (lv_at hl 3 rfl) ?_
          refine lv_iconst (v := 1) hx hb dL_law_227 (by decide) ?_
          refine lv_iadd hx hb dL_law_228 ?_
          refine lv_topi (fun z_5 ez_5 => ?_)
          have ez_5 : z_5 = nI (i + 1) := ez_5.trans (nI_add i 1)
          subst ez_5
          refine va_sld hx hb hX hbl hbA hS (vp_in_nI (n := (i + 1)) (by omega) (by omega)) dL_law_229 ?_
          rw [nI_clamp (by omega)]
          refine lv_aload_n hx hb dL_law_230 rfl (lv_at hl 0 rfl) ?_
          refine lv_iload_n hx hb dL_law_231 rfl (lv_at hl 3 rfl) ?_
          refine lv_iconst (v := 2) hx hb dL_law_232 (by decide) ?_
          refine lv_iadd hx hb dL_law_233 ?_
          refine lv_topi (fun z_6 ez_6 => ?_)
          have ez_6 : z_6 = nI (i + 2) := ez_6.trans (nI_add i 2)
          subst ez_6
          refine va_sld hx hb hX hbl hbA hS (vp_in_nI (n := (i + 2)) (by omega) (by omega)) dL_law_234 ?_
          rw [nI_clamp (by omega)]
          have hPc := hP.sub (ws' := (rW bd cJ cZ K row2 (nI 60) sd vl wt (nI T) kn tl od (nI (pc kb)) cl2 inn stt)) [7, 8, 9, 10, 11, 12, 13, 14, 15] rfl
          have hKc := hK.sub (tys' := [(cJ, .int), (cZ, .boolean)]) [1, 2] rfl
          have hDc := hD.sub (ws' := (rW bd cJ cZ K row2 (nI 60) sd vl wt (nI T) kn tl od (nI (pc kb)) cl2 inn stt)) [7, 8, 9, 10, 11, 12, 13, 14, 15] (by decide) rfl
          have hFc := va_free (wc := (rW bd cJ cZ K row2 (nI 60) sd vl wt (nI T) kn tl od (nI (pc kb)) cl2 inn stt)) hD hS hA [7, 8, 9, 10, 11, 12, 13, 14, 15] rfl
          refine va_calli (va_runV (As := [.int (xs (i + 1)), .int (xs (i + 2))]) (rest := [.int (-2)]) ⟨hx, hb, hml, hown, hts⟩ (c_X1_receive_full l dC dI H.size bd cJ cZ K row2 sd vl wt (nI T) kn tl od (nI (pc kb)) cl2 inn stt (xs (i + 1)) (xs (i + 2))) (cwV 2 hts gL_law_X1_receive rfl rfl rfl (by decide +kernel) ⟨Nat.le_of_ble_eq_true rfl, Nat.le_of_ble_eq_true rfl⟩) ⟨wFb, va_recv hKc hPc (ci := 1) (q0 := 0) rfl rfl, fun U hU hW => ⟨rfl, by rw [hU], by rw [hU]; exact hPc, va_K.moved hW.alike hKc, hDc.weaken (fun _ _ _ _ => trivial)⟩⟩ rfl rfl hl.1 rfl (lv_room (Nat.le_of_ble_eq_true rfl)) dL_law_235 ⟨Nat.le_of_ble_eq_true rfl, Nat.le_of_ble_eq_true rfl⟩) hS (fun q _ h => hFc q h) hFc (fun r_7 u_8 t H1 locs ht hvm hw hB hz1 hk1 hS => ?_)
          obtain ⟨hP1, hK1, hD1⟩ := hB
          rw [ht] at hP1
          obtain ⟨hP, hD⟩ := va_join (wr := (xW ad cI K row S V (nI 60) kw ko kb qu qe cl2)) (w1 := (rW bd cJ cZ K row2 (nI 60) sd vl wt (nI T) kn tl od (nI (pc kb)) cl2 inn stt)) hP hD [7, 8, 9, 10, 11, 12, 13, 14, 15] [0, 1, 2, 3, 4, 5, 6] rfl rfl (by decide) (by decide) hk1 hFc hP1 hD1
          clear hP1 hD1 hK1 hFc hk1 hz1 hPc hKc hDc
          generalize H1 = H at hP hS ⊢
          have hP : va_P (dC, dI) vwCl ((xW ad cI K row S V (nI 60) kw ko kb qu qe cl2) ++ (rW bd cJ cZ K row2 (nI 60) sd vl wt (nI T) kn tl od (nI (pc kb)) cl2 inn stt)) H := hP
          have hD : va_D (fun q : Nat => s.heap.size ≤ q) ((xW ad cI K row S V (nI 60) kw ko kb qu qe cl2) ++ (rW bd cJ cZ K row2 (nI 60) sd vl wt (nI T) kn tl od (nI (pc kb)) cl2 inn stt)) := hD
          subst hw
          refine lv_icmp_eq (tgt := 387) hx hb dL_law_238 (by decide) (fun c9 => ?_) (fun c9 => ?_)
          · skip
            exact back _ T _ _ _ _ _ _ _ _ _ _ _ _ _ _ _ _ _ _ _ _ _ _ _ ls hP hD hS (lv_sub hl [0, 1, 2, 3] rfl) (by omega) (⟨hn60, hrow, hSd, hVl, hkb, hno, hRR⟩)
          · skip
            exact absurd (rfl) c9
      · skip
        refine lv_tableIn (off := 201) (tgt := 243) hx hb dL_law_42 (by decide) (by decide) (by decide) (by decide) ?_
        refine lv_aload_n hx hb dL_law_243 rfl (lv_at hl 1 rfl) ?_
        refine lv_aload_n hx hb dL_law_244 rfl (lv_at hl 0 rfl) ?_
        refine lv_iload_n hx hb dL_law_245 rfl (lv_at hl 3 rfl) ?_
        refine lv_iconst (v := 1) hx hb dL_law_246 (by decide) ?_
        refine lv_iadd hx hb dL_law_247 ?_
        refine lv_topi (fun z_1 ez_1 => ?_)
        have ez_1 : z_1 = nI (i + 1) := ez_1.trans (nI_add i 1)
        subst ez_1
        refine va_sld hx hb hX hbl hbA hS (vp_in_nI (n := (i + 1)) (by omega) (by omega)) dL_law_248 ?_
        rw [nI_clamp (by omega)]
        have hPc := hP.sub (ws' := (xW ad cI K row S V (nI n) kw ko kb qu qe cl2)) [0, 1, 2, 3, 4, 5, 6] rfl
        have hKc := hK.sub (tys' := [(cI, .int)]) [0] rfl
        refine vp_callSi (W.runV (As := [.int (xs (i + 1))]) (rest := []) ⟨hx, hb, hml, hown, hts⟩ (c_X0_known l dC dI ad cI K row S V (nI n) kw ko kb qu qe cl2 hK1 hK2 (xs (i + 1))) (cwV 1 hts gL_law_X0_known rfl rfl rfl (by decide +kernel) ⟨Nat.le_of_ble_eq_true rfl, Nat.le_of_ble_eq_true rfl⟩) ⟨rFb, va_recv hKc hPc (ci := 0) (q0 := 0) rfl rfl, fun U hU hW => ⟨rfl, by rw [hU]; exact hPc, va_K.moved hW.alike hKc⟩⟩ rfl rfl hl.1 rfl (lv_room (Nat.le_of_ble_eq_true rfl)) dL_law_249 ⟨Nat.le_of_ble_eq_true rfl, Nat.le_of_ble_eq_true rfl⟩) (fun r_2 er_2 => ?_)
        rw [er_2]
        clear er_2 r_2 hPc hKc
        refine lv_aload_n hx hb dL_law_252 rfl (lv_at hl 2 rfl) ?_
        refine lv_aload_n hx hb dL_law_253 rfl (lv_at hl 0 rfl) ?_
        refine lv_iload_n hx hb dL_law_254 rfl (lv_at hl 3 rfl) ?_
        refine lv_iconst (v := 1) hx hb dL_law_255 (by decide) ?_
        refine lv_iadd hx hb dL_law_256 ?_
        refine lv_topi (fun z_3 ez_3 => ?_)
        have ez_3 : z_3 = nI (i + 1) := ez_3.trans (nI_add i 1)
        subst ez_3
        refine va_sld hx hb hX hbl hbA hS (vp_in_nI (n := (i + 1)) (by omega) (by omega)) dL_law_257 ?_
        rw [nI_clamp (by omega)]
        have hPc := hP.sub (ws' := (rW bd cJ cZ K row2 (nI n) sd vl wt (nI T) kn tl od (nI (pc kb)) cl2 inn stt)) [7, 8, 9, 10, 11, 12, 13, 14, 15] rfl
        have hKc := hK.sub (tys' := [(cJ, .int), (cZ, .boolean)]) [1, 2] rfl
        refine vp_callSi (W.runV (As := [.int (xs (i + 1))]) (rest := [.int (knF K kb (xs (i + 1)))]) ⟨hx, hb, hml, hown, hts⟩ (c_X1_known l dC dI bd cJ cZ K row2 (nI n) sd vl wt (nI T) kn tl od (nI (pc kb)) cl2 inn stt hK1 hK2 kb hkn (xs (i + 1))) (cwV 1 hts gL_law_X1_known rfl rfl rfl (by decide +kernel) ⟨Nat.le_of_ble_eq_true rfl, Nat.le_of_ble_eq_true rfl⟩) ⟨rFb, va_recv hKc hPc (ci := 1) (q0 := 0) rfl rfl, fun U hU hW => ⟨rfl, by rw [hU]; exact hPc, va_K.moved hW.alike hKc⟩⟩ rfl rfl hl.1 rfl (lv_room (Nat.le_of_ble_eq_true rfl)) dL_law_258 ⟨Nat.le_of_ble_eq_true rfl, Nat.le_of_ble_eq_true rfl⟩) (fun r_4 er_4 => ?_)
        rw [er_4]
        clear er_4 r_4 hPc hKc
        refine lv_icmp_eq (tgt := 387) hx hb dL_law_261 (by decide) (fun c9 => ?_) (fun c9 => ?_)
        · skip
          exact back _ T _ _ _ _ _ _ _ _ _ _ _ _ _ _ _ _ _ _ _ _ _ _ _ ls hP hD hS (lv_sub hl [0, 1, 2, 3] rfl) (by omega) (⟨hn60, hrow, hSd, hVl, hkb, hno, hRR⟩)
        · skip
          exact absurd (rfl) c9
      · skip
        refine lv_tableIn (off := 224) (tgt := 266) hx hb dL_law_42 (by decide) (by decide) (by decide) (by decide) ?_
        refine lv_aload_n hx hb dL_law_266 rfl (lv_at hl 1 rfl) ?_
        refine lv_aload_n hx hb dL_law_267 rfl (lv_at hl 0 rfl) ?_
        refine lv_iload_n hx hb dL_law_268 rfl (lv_at hl 3 rfl) ?_
        refine lv_iconst (v := 1) hx hb dL_law_269 (by decide) ?_
        refine lv_iadd hx hb dL_law_270 ?_
        refine lv_topi (fun z_1 ez_1 => ?_)
        have ez_1 : z_1 = nI (i + 1) := ez_1.trans (nI_add i 1)
        subst ez_1
        refine va_sld hx hb hX hbl hbA hS (vp_in_nI (n := (i + 1)) (by omega) (by omega)) dL_law_271 ?_
        rw [nI_clamp (by omega)]
        have hPc := hP.sub (ws' := (xW ad cI K row S V (nI n) kw ko kb qu qe cl2)) [0, 1, 2, 3, 4, 5, 6] rfl
        have hKc := hK.sub (tys' := [(cI, .int)]) [0] rfl
        refine vp_callSi (W.runV (As := [.int (xs (i + 1))]) (rest := []) ⟨hx, hb, hml, hown, hts⟩ (c_X0_word l dC dI ad cI K row S V (nI n) kw ko kb qu qe cl2 hK1 hK2 (xs (i + 1))) (cwV 1 hts gL_law_X0_word rfl rfl rfl (by decide +kernel) ⟨Nat.le_of_ble_eq_true rfl, Nat.le_of_ble_eq_true rfl⟩) ⟨rFb, va_recv hKc hPc (ci := 0) (q0 := 0) rfl rfl, fun U hU hW => ⟨rfl, by rw [hU]; exact hPc, va_K.moved hW.alike hKc⟩⟩ rfl rfl hl.1 rfl (lv_room (Nat.le_of_ble_eq_true rfl)) dL_law_272 ⟨Nat.le_of_ble_eq_true rfl, Nat.le_of_ble_eq_true rfl⟩) (fun r_2 er_2 => ?_)
        rw [er_2]
        clear er_2 r_2 hPc hKc
        refine lv_aload_n hx hb dL_law_275 rfl (lv_at hl 2 rfl) ?_
        refine lv_aload_n hx hb dL_law_276 rfl (lv_at hl 0 rfl) ?_
        refine lv_iload_n hx hb dL_law_277 rfl (lv_at hl 3 rfl) ?_
        refine lv_iconst (v := 1) hx hb dL_law_278 (by decide) ?_
        refine lv_iadd hx hb dL_law_279 ?_
        refine lv_topi (fun z_3 ez_3 => ?_)
        have ez_3 : z_3 = nI (i + 1) := ez_3.trans (nI_add i 1)
        subst ez_3
        refine va_sld hx hb hX hbl hbA hS (vp_in_nI (n := (i + 1)) (by omega) (by omega)) dL_law_280 ?_
        rw [nI_clamp (by omega)]
        have hPc := hP.sub (ws' := (rW bd cJ cZ K row2 (nI n) sd vl wt (nI T) kn tl od (nI (pc kb)) cl2 inn stt)) [7, 8, 9, 10, 11, 12, 13, 14, 15] rfl
        have hKc := hK.sub (tys' := [(cJ, .int), (cZ, .boolean)]) [1, 2] rfl
        refine vp_callSi (W.runV (As := [.int (xs (i + 1))]) (rest := [.int (wdF K kb kw (xs (i + 1)))]) ⟨hx, hb, hml, hown, hts⟩ (c_X1_word l dC dI bd cJ cZ K row2 (nI n) sd vl wt (nI T) kn tl od (nI (pc kb)) cl2 inn stt hK1 hK2 kb hkn (xs (i + 1))) (cwV 1 hts gL_law_X1_word rfl rfl rfl (by decide +kernel) ⟨Nat.le_of_ble_eq_true rfl, Nat.le_of_ble_eq_true rfl⟩) ⟨rFb, va_recv hKc hPc (ci := 1) (q0 := 0) rfl rfl, fun U hU hW => ⟨rfl, by rw [hU]; exact hPc, va_K.moved hW.alike hKc⟩⟩ rfl rfl hl.1 rfl (lv_room (Nat.le_of_ble_eq_true rfl)) dL_law_281 ⟨Nat.le_of_ble_eq_true rfl, Nat.le_of_ble_eq_true rfl⟩) (fun r_4 er_4 => ?_)
        rw [er_4]
        clear er_4 r_4 hPc hKc
        refine lv_icmp_eq (tgt := 387) hx hb dL_law_284 (by decide) (fun c9 => ?_) (fun c9 => ?_)
        · skip
          exact back _ T _ _ _ _ _ _ _ _ _ _ _ _ _ _ _ _ _ _ _ _ _ _ _ ls hP hD hS (lv_sub hl [0, 1, 2, 3] rfl) (by omega) (⟨hn60, hrow, hSd, hVl, hkb, hno, hRR⟩)
        · skip
          exact absurd (wd_eq hRR.2.1) c9
      · skip
        refine lv_tableIn (off := 247) (tgt := 289) hx hb dL_law_42 (by decide) (by decide) (by decide) (by decide) ?_
        refine lv_aload_n hx hb dL_law_289 rfl (lv_at hl 1 rfl) ?_
        refine lv_aload_n hx hb dL_law_290 rfl (lv_at hl 0 rfl) ?_
        refine lv_iload_n hx hb dL_law_291 rfl (lv_at hl 3 rfl) ?_
        refine lv_iconst (v := 1) hx hb dL_law_292 (by decide) ?_
        refine lv_iadd hx hb dL_law_293 ?_
        refine lv_topi (fun z_1 ez_1 => ?_)
        have ez_1 : z_1 = nI (i + 1) := ez_1.trans (nI_add i 1)
        subst ez_1
        refine va_sld hx hb hX hbl hbA hS (vp_in_nI (n := (i + 1)) (by omega) (by omega)) dL_law_294 ?_
        rw [nI_clamp (by omega)]
        have hPc := hP.sub (ws' := (xW ad cI K row S V (nI n) kw ko kb qu qe cl2)) [0, 1, 2, 3, 4, 5, 6] rfl
        have hKc := hK.sub (tys' := [(cI, .int)]) [0] rfl
        refine vp_callSi (W.runV (As := [.int (xs (i + 1))]) (rest := []) ⟨hx, hb, hml, hown, hts⟩ (c_X0_order l dC dI ad cI K row S V (nI n) kw ko kb qu qe cl2 hK1 hK2 hpcK (xs (i + 1))) (cwV 1 hts gL_law_X0_order rfl rfl rfl (by decide +kernel) ⟨Nat.le_of_ble_eq_true rfl, Nat.le_of_ble_eq_true rfl⟩) ⟨rFb, va_recv hKc hPc (ci := 0) (q0 := 0) rfl rfl, fun U hU hW => ⟨rfl, by rw [hU]; exact hPc, va_K.moved hW.alike hKc⟩⟩ rfl rfl hl.1 rfl (lv_room (Nat.le_of_ble_eq_true rfl)) dL_law_295 ⟨Nat.le_of_ble_eq_true rfl, Nat.le_of_ble_eq_true rfl⟩) (fun r_2 er_2 => ?_)
        rw [er_2]
        clear er_2 r_2 hPc hKc
        refine lv_aload_n hx hb dL_law_298 rfl (lv_at hl 2 rfl) ?_
        refine lv_aload_n hx hb dL_law_299 rfl (lv_at hl 0 rfl) ?_
        refine lv_iload_n hx hb dL_law_300 rfl (lv_at hl 3 rfl) ?_
        refine lv_iconst (v := 1) hx hb dL_law_301 (by decide) ?_
        refine lv_iadd hx hb dL_law_302 ?_
        refine lv_topi (fun z_3 ez_3 => ?_)
        have ez_3 : z_3 = nI (i + 1) := ez_3.trans (nI_add i 1)
        subst ez_3
        refine va_sld hx hb hX hbl hbA hS (vp_in_nI (n := (i + 1)) (by omega) (by omega)) dL_law_303 ?_
        rw [nI_clamp (by omega)]
        have hPc := hP.sub (ws' := (rW bd cJ cZ K row2 (nI n) sd vl wt (nI T) kn tl od (nI (pc kb)) cl2 inn stt)) [7, 8, 9, 10, 11, 12, 13, 14, 15] rfl
        have hKc := hK.sub (tys' := [(cJ, .int), (cZ, .boolean)]) [1, 2] rfl
        refine vp_callSi (W.runV (As := [.int (xs (i + 1))]) (rest := [.int (odF (pc kb) ko (xs (i + 1)))]) ⟨hx, hb, hml, hown, hts⟩ (c_X1_order l dC dI bd cJ cZ K row2 (nI n) sd vl wt (nI T) kn tl od cl2 inn stt (pc kb) (by omega) (xs (i + 1))) (cwV 1 hts gL_law_X1_order rfl rfl rfl (by decide +kernel) ⟨Nat.le_of_ble_eq_true rfl, Nat.le_of_ble_eq_true rfl⟩) ⟨rFb, va_recv hKc hPc (ci := 1) (q0 := 0) rfl rfl, fun U hU hW => ⟨rfl, by rw [hU]; exact hPc, va_K.moved hW.alike hKc⟩⟩ rfl rfl hl.1 rfl (lv_room (Nat.le_of_ble_eq_true rfl)) dL_law_304 ⟨Nat.le_of_ble_eq_true rfl, Nat.le_of_ble_eq_true rfl⟩) (fun r_4 er_4 => ?_)
        rw [er_4]
        clear er_4 r_4 hPc hKc
        refine lv_icmp_eq (tgt := 387) hx hb dL_law_307 (by decide) (fun c9 => ?_) (fun c9 => ?_)
        · skip
          exact back _ T _ _ _ _ _ _ _ _ _ _ _ _ _ _ _ _ _ _ _ _ _ _ _ ls hP hD hS (lv_sub hl [0, 1, 2, 3] rfl) (by omega) (⟨hn60, hrow, hSd, hVl, hkb, hno, hRR⟩)
        · skip
          exact absurd (od_eq (by omega) hRR.2.2.1) c9
      · skip
        refine lv_tableIn (off := 270) (tgt := 312) hx hb dL_law_42 (by decide) (by decide) (by decide) (by decide) ?_
        refine lv_aload_n hx hb dL_law_312 rfl (lv_at hl 1 rfl) ?_
        refine lv_aload_n hx hb dL_law_313 rfl (lv_at hl 0 rfl) ?_
        refine lv_iload_n hx hb dL_law_314 rfl (lv_at hl 3 rfl) ?_
        refine lv_iconst (v := 1) hx hb dL_law_315 (by decide) ?_
        refine lv_iadd hx hb dL_law_316 ?_
        refine lv_topi (fun z_1 ez_1 => ?_)
        have ez_1 : z_1 = nI (i + 1) := ez_1.trans (nI_add i 1)
        subst ez_1
        refine va_sld hx hb hX hbl hbA hS (vp_in_nI (n := (i + 1)) (by omega) (by omega)) dL_law_317 ?_
        rw [nI_clamp (by omega)]
        have hPc := hP.sub (ws' := (xW ad cI K row S V (nI n) kw ko kb qu qe cl2)) [0, 1, 2, 3, 4, 5, 6] rfl
        have hKc := hK.sub (tys' := [(cI, .int)]) [0] rfl
        refine vp_callSi (W.runV (As := [.int (xs (i + 1))]) (rest := []) ⟨hx, hb, hml, hown, hts⟩ (c_X0_open l dC dI ad cI K row S V kw ko kb qu qe cl2 n hn60 (xs (i + 1))) (cwV 1 hts gL_law_X0_open rfl rfl rfl (by decide +kernel) ⟨Nat.le_of_ble_eq_true rfl, Nat.le_of_ble_eq_true rfl⟩) ⟨rFb, va_recv hKc hPc (ci := 0) (q0 := 0) rfl rfl, fun U hU hW => ⟨rfl, by rw [hU]; exact hPc, va_K.moved hW.alike hKc⟩⟩ rfl rfl hl.1 rfl (lv_room (Nat.le_of_ble_eq_true rfl)) dL_law_318 ⟨Nat.le_of_ble_eq_true rfl, Nat.le_of_ble_eq_true rfl⟩) (fun r_2 er_2 => ?_)
        rw [er_2]
        clear er_2 r_2 hPc hKc
        refine lv_aload_n hx hb dL_law_321 rfl (lv_at hl 2 rfl) ?_
        refine lv_aload_n hx hb dL_law_322 rfl (lv_at hl 0 rfl) ?_
        refine lv_iload_n hx hb dL_law_323 rfl (lv_at hl 3 rfl) ?_
        refine lv_iconst (v := 1) hx hb dL_law_324 (by decide) ?_
        refine lv_iadd hx hb dL_law_325 ?_
        refine lv_topi (fun z_3 ez_3 => ?_)
        have ez_3 : z_3 = nI (i + 1) := ez_3.trans (nI_add i 1)
        subst ez_3
        refine va_sld hx hb hX hbl hbA hS (vp_in_nI (n := (i + 1)) (by omega) (by omega)) dL_law_326 ?_
        rw [nI_clamp (by omega)]
        have hPc := hP.sub (ws' := (rW bd cJ cZ K row2 (nI n) sd vl wt (nI T) kn tl od (nI (pc kb)) cl2 inn stt)) [7, 8, 9, 10, 11, 12, 13, 14, 15] rfl
        have hKc := hK.sub (tys' := [(cJ, .int), (cZ, .boolean)]) [1, 2] rfl
        have hDc := hD.sub (ws' := (rW bd cJ cZ K row2 (nI n) sd vl wt (nI T) kn tl od (nI (pc kb)) cl2 inn stt)) [7, 8, 9, 10, 11, 12, 13, 14, 15] (by decide) rfl
        have hFc := va_free (wc := (rW bd cJ cZ K row2 (nI n) sd vl wt (nI T) kn tl od (nI (pc kb)) cl2 inn stt)) hD hS hA [7, 8, 9, 10, 11, 12, 13, 14, 15] rfl
        refine va_calli (va_runV (As := [.int (xs (i + 1))]) (rest := [.int (opF n S kb (xs (i + 1)))]) ⟨hx, hb, hml, hown, hts⟩ (c_X1_open l dC dI H.size bd cJ cZ K row2 sd vl wt (nI T) kn tl od (nI (pc kb)) cl2 inn stt hK1 hK2 n hn60 kb hkn (xs (i + 1))) (cwV 1 hts gL_law_X1_open rfl rfl rfl (by decide +kernel) ⟨Nat.le_of_ble_eq_true rfl, Nat.le_of_ble_eq_true rfl⟩) ⟨wFb, va_recv hKc hPc (ci := 1) (q0 := 0) rfl rfl, fun U hU hW => ⟨rfl, by rw [hU], by rw [hU]; exact hPc, va_K.moved hW.alike hKc, hDc.weaken (fun _ _ _ _ => trivial)⟩⟩ rfl rfl hl.1 rfl (lv_room (Nat.le_of_ble_eq_true rfl)) dL_law_327 ⟨Nat.le_of_ble_eq_true rfl, Nat.le_of_ble_eq_true rfl⟩) hS (fun q _ h => hFc q h) hFc (fun r_4 u_5 t H1 locs ht hvm hw hB hz1 hk1 hS => ?_)
        obtain ⟨hP1, hK1, hD1⟩ := hB
        rw [ht] at hP1
        obtain ⟨hP, hD⟩ := va_join (wr := (xW ad cI K row S V (nI n) kw ko kb qu qe cl2)) (w1 := (rW bd cJ cZ K row2 (nI n) sd vl wt (nI T) kn tl od (nI (pc kb)) cl2 u_5.1 u_5.2)) hP hD [7, 8, 9, 10, 11, 12, 13, 14, 15] [0, 1, 2, 3, 4, 5, 6] rfl rfl (by decide) (by decide) hk1 hFc hP1 hD1
        clear hP1 hD1 hK1 hFc hk1 hz1 hPc hKc hDc
        generalize H1 = H at hP hS ⊢
        have hP : va_P (dC, dI) vwCl ((xW ad cI K row S V (nI n) kw ko kb qu qe cl2) ++ (rW bd cJ cZ K row2 (nI n) sd vl wt (nI T) kn tl od (nI (pc kb)) cl2 u_5.1 u_5.2)) H := hP
        have hD : va_D (fun q : Nat => s.heap.size ≤ q) ((xW ad cI K row S V (nI n) kw ko kb qu qe cl2) ++ (rW bd cJ cZ K row2 (nI n) sd vl wt (nI T) kn tl od (nI (pc kb)) cl2 u_5.1 u_5.2)) := hD
        subst hw
        refine lv_icmp_eq (tgt := 387) hx hb dL_law_330 (by decide) (fun c9 => ?_) (fun c9 => ?_)
        · skip
          exact back _ T _ _ _ _ _ _ _ _ _ _ _ _ _ _ _ _ _ _ _ _ _ _ _ ls hP hD hS (lv_sub hl [0, 1, 2, 3] rfl) (by omega) (⟨hn60, hrow, hSd, hVl, hkb, hno, hRR⟩)
        · skip
          exact absurd (op_eq hn60 hSd) c9
      · skip
        refine lv_tableIn (off := 293) (tgt := 335) hx hb dL_law_42 (by decide) (by decide) (by decide) (by decide) ?_
        refine lv_aload_n hx hb dL_law_335 rfl (lv_at hl 1 rfl) ?_
        have hPc := hP.sub (ws' := (xW ad cI K row S V (nI n) kw ko kb qu qe cl2)) [0, 1, 2, 3, 4, 5, 6] rfl
        have hKc := hK.sub (tys' := [(cI, .int)]) [0] rfl
        refine vp_callSi (W.runV (As := []) (rest := []) ⟨hx, hb, hml, hown, hts⟩ (c_X0_drops l dC dI ad cI K row S V (nI n) kw ko kb qu qe cl2) (cwV 0 hts gL_law_X0_drops rfl rfl rfl (by decide +kernel) ⟨Nat.le_of_ble_eq_true rfl, Nat.le_of_ble_eq_true rfl⟩) ⟨rFb, va_recv hKc hPc (ci := 0) (q0 := 0) rfl rfl, fun U hU hW => ⟨rfl, by rw [hU]; exact hPc, va_K.moved hW.alike hKc⟩⟩ rfl rfl hl.1 rfl (lv_room (Nat.le_of_ble_eq_true rfl)) dL_law_336 ⟨Nat.le_of_ble_eq_true rfl, Nat.le_of_ble_eq_true rfl⟩) (fun r_1 er_1 => ?_)
        rw [er_1]
        clear er_1 r_1 hPc hKc
        refine lv_aload_n hx hb dL_law_339 rfl (lv_at hl 2 rfl) ?_
        have hPc := hP.sub (ws' := (rW bd cJ cZ K row2 (nI n) sd vl wt (nI T) kn tl od (nI (pc kb)) cl2 inn stt)) [7, 8, 9, 10, 11, 12, 13, 14, 15] rfl
        have hKc := hK.sub (tys' := [(cJ, .int), (cZ, .boolean)]) [1, 2] rfl
        refine vp_callSi (W.runV (As := []) (rest := [.int (nI n)]) ⟨hx, hb, hml, hown, hts⟩ (c_X1_drops l dC dI bd cJ cZ K row2 (nI n) sd vl wt (nI T) kn tl od (nI (pc kb)) cl2 inn stt) (cwV 0 hts gL_law_X1_drops rfl rfl rfl (by decide +kernel) ⟨Nat.le_of_ble_eq_true rfl, Nat.le_of_ble_eq_true rfl⟩) ⟨rFb, va_recv hKc hPc (ci := 1) (q0 := 0) rfl rfl, fun U hU hW => ⟨rfl, by rw [hU]; exact hPc, va_K.moved hW.alike hKc⟩⟩ rfl rfl hl.1 rfl (lv_room (Nat.le_of_ble_eq_true rfl)) dL_law_340 ⟨Nat.le_of_ble_eq_true rfl, Nat.le_of_ble_eq_true rfl⟩) (fun r_2 er_2 => ?_)
        rw [er_2]
        clear er_2 r_2 hPc hKc
        refine lv_icmp_eq (tgt := 387) hx hb dL_law_343 (by decide) (fun c9 => ?_) (fun c9 => ?_)
        · skip
          exact back _ T _ _ _ _ _ _ _ _ _ _ _ _ _ _ _ _ _ _ _ _ _ _ _ ls hP hD hS (lv_sub hl [0, 1, 2, 3] rfl) (by omega) (⟨hn60, hrow, hSd, hVl, hkb, hno, hRR⟩)
        · skip
          exact absurd (rfl) c9
      · skip
        refine lv_tableIn (off := 306) (tgt := 348) hx hb dL_law_42 (by decide) (by decide) (by decide) (by decide) ?_
        refine lv_aload_n hx hb dL_law_348 rfl (lv_at hl 1 rfl) ?_
        have hPc := hP.sub (ws' := (xW ad cI K row S V (nI n) kw ko kb qu qe cl2)) [0, 1, 2, 3, 4, 5, 6] rfl
        have hKc := hK.sub (tys' := [(cI, .int)]) [0] rfl
        refine vp_callSi (W.runV (As := []) (rest := []) ⟨hx, hb, hml, hown, hts⟩ (c_X0_count l dC dI ad cI K row S V (nI n) kw ko kb qu qe cl2) (cwV 0 hts gL_law_X0_count rfl rfl rfl (by decide +kernel) ⟨Nat.le_of_ble_eq_true rfl, Nat.le_of_ble_eq_true rfl⟩) ⟨rFb, va_recv hKc hPc (ci := 0) (q0 := 0) rfl rfl, fun U hU hW => ⟨rfl, by rw [hU]; exact hPc, va_K.moved hW.alike hKc⟩⟩ rfl rfl hl.1 rfl (lv_room (Nat.le_of_ble_eq_true rfl)) dL_law_349 ⟨Nat.le_of_ble_eq_true rfl, Nat.le_of_ble_eq_true rfl⟩) (fun r_1 er_1 => ?_)
        rw [er_1]
        clear er_1 r_1 hPc hKc
        refine lv_aload_n hx hb dL_law_352 rfl (lv_at hl 2 rfl) ?_
        have hPc := hP.sub (ws' := (rW bd cJ cZ K row2 (nI n) sd vl wt (nI T) kn tl od (nI (pc kb)) cl2 inn stt)) [7, 8, 9, 10, 11, 12, 13, 14, 15] rfl
        have hKc := hK.sub (tys' := [(cJ, .int), (cZ, .boolean)]) [1, 2] rfl
        refine vp_callSi (W.runV (As := []) (rest := [.int (nI (pc kb))]) ⟨hx, hb, hml, hown, hts⟩ (c_X1_count l dC dI bd cJ cZ K row2 (nI n) sd vl wt (nI T) kn tl od (nI (pc kb)) cl2 inn stt) (cwV 0 hts gL_law_X1_count rfl rfl rfl (by decide +kernel) ⟨Nat.le_of_ble_eq_true rfl, Nat.le_of_ble_eq_true rfl⟩) ⟨rFb, va_recv hKc hPc (ci := 1) (q0 := 0) rfl rfl, fun U hU hW => ⟨rfl, by rw [hU]; exact hPc, va_K.moved hW.alike hKc⟩⟩ rfl rfl hl.1 rfl (lv_room (Nat.le_of_ble_eq_true rfl)) dL_law_353 ⟨Nat.le_of_ble_eq_true rfl, Nat.le_of_ble_eq_true rfl⟩) (fun r_2 er_2 => ?_)
        rw [er_2]
        clear er_2 r_2 hPc hKc
        refine lv_icmp_eq (tgt := 387) hx hb dL_law_356 (by decide) (fun c9 => ?_) (fun c9 => ?_)
        · skip
          exact back _ T _ _ _ _ _ _ _ _ _ _ _ _ _ _ _ _ _ _ _ _ _ _ _ ls hP hD hS (lv_sub hl [0, 1, 2, 3] rfl) (by omega) (⟨hn60, hrow, hSd, hVl, hkb, hno, hRR⟩)
        · skip
          exact absurd (rfl) c9
      · skip
        refine lv_tableIn (off := 319) (tgt := 361) hx hb dL_law_42 (by decide) (by decide) (by decide) (by decide) ?_
        refine lv_aload_n hx hb dL_law_361 rfl (lv_at hl 1 rfl) ?_
        have hPc := hP.sub (ws' := (xW ad cI K row S V (nI n) kw ko kb qu qe cl2)) [0, 1, 2, 3, 4, 5, 6] rfl
        have hKc := hK.sub (tys' := [(cI, .int)]) [0] rfl
        refine vp_callSi (W.runV (As := []) (rest := []) ⟨hx, hb, hml, hown, hts⟩ (c_X0_clashes l dC dI ad cI K row S V (nI n) kw ko kb qu qe cl2) (cwV 0 hts gL_law_X0_clashes rfl rfl rfl (by decide +kernel) ⟨Nat.le_of_ble_eq_true rfl, Nat.le_of_ble_eq_true rfl⟩) ⟨rFb, va_recv hKc hPc (ci := 0) (q0 := 0) rfl rfl, fun U hU hW => ⟨rfl, by rw [hU]; exact hPc, va_K.moved hW.alike hKc⟩⟩ rfl rfl hl.1 rfl (lv_room (Nat.le_of_ble_eq_true rfl)) dL_law_362 ⟨Nat.le_of_ble_eq_true rfl, Nat.le_of_ble_eq_true rfl⟩) (fun r_1 er_1 => ?_)
        rw [er_1]
        clear er_1 r_1 hPc hKc
        refine lv_aload_n hx hb dL_law_365 rfl (lv_at hl 2 rfl) ?_
        have hPc := hP.sub (ws' := (rW bd cJ cZ K row2 (nI n) sd vl wt (nI T) kn tl od (nI (pc kb)) cl2 inn stt)) [7, 8, 9, 10, 11, 12, 13, 14, 15] rfl
        have hKc := hK.sub (tys' := [(cJ, .int), (cZ, .boolean)]) [1, 2] rfl
        refine vp_callSi (W.runV (As := []) (rest := [.int cl2]) ⟨hx, hb, hml, hown, hts⟩ (c_X1_clashes l dC dI bd cJ cZ K row2 (nI n) sd vl wt (nI T) kn tl od (nI (pc kb)) cl2 inn stt) (cwV 0 hts gL_law_X1_clashes rfl rfl rfl (by decide +kernel) ⟨Nat.le_of_ble_eq_true rfl, Nat.le_of_ble_eq_true rfl⟩) ⟨rFb, va_recv hKc hPc (ci := 1) (q0 := 0) rfl rfl, fun U hU hW => ⟨rfl, by rw [hU]; exact hPc, va_K.moved hW.alike hKc⟩⟩ rfl rfl hl.1 rfl (lv_room (Nat.le_of_ble_eq_true rfl)) dL_law_366 ⟨Nat.le_of_ble_eq_true rfl, Nat.le_of_ble_eq_true rfl⟩) (fun r_2 er_2 => ?_)
        rw [er_2]
        clear er_2 r_2 hPc hKc
        refine lv_icmp_eq (tgt := 387) hx hb dL_law_369 (by decide) (fun c9 => ?_) (fun c9 => ?_)
        · skip
          exact back _ T _ _ _ _ _ _ _ _ _ _ _ _ _ _ _ _ _ _ _ _ _ _ _ ls hP hD hS (lv_sub hl [0, 1, 2, 3] rfl) (by omega) (⟨hn60, hrow, hSd, hVl, hkb, hno, hRR⟩)
        · skip
          exact absurd (rfl) c9
      · skip
        refine lv_tableIn (off := 332) (tgt := 374) hx hb dL_law_42 (by decide) (by decide) (by decide) (by decide) ?_
        refine lv_aload_n hx hb dL_law_374 rfl (lv_at hl 1 rfl) ?_
        have hPc := hP.sub (ws' := (xW ad cI K row S V (nI n) kw ko kb qu qe cl2)) [0, 1, 2, 3, 4, 5, 6] rfl
        have hKc := hK.sub (tys' := [(cI, .int)]) [0] rfl
        have hDc := hD.sub (ws' := (xW ad cI K row S V (nI n) kw ko kb qu qe cl2)) [0, 1, 2, 3, 4, 5, 6] (by decide) rfl
        have hFc := va_free (wc := (xW ad cI K row S V (nI n) kw ko kb qu qe cl2)) hD hS hA [0, 1, 2, 3, 4, 5, 6] rfl
        refine va_calli (va_runV (As := []) (rest := []) ⟨hx, hb, hml, hown, hts⟩ (c_X0_forget l dC dI H.size ad cI K row S V (nI n) kw ko kb qu qe cl2) (cwV 0 hts gL_law_X0_forget rfl rfl rfl (by decide +kernel) ⟨Nat.le_of_ble_eq_true rfl, Nat.le_of_ble_eq_true rfl⟩) ⟨wFb, va_recv hKc hPc (ci := 0) (q0 := 0) rfl rfl, fun U hU hW => ⟨rfl, by rw [hU], by rw [hU]; exact hPc, va_K.moved hW.alike hKc, hDc.weaken (fun _ _ _ _ => trivial)⟩⟩ rfl rfl hl.1 rfl (lv_room (Nat.le_of_ble_eq_true rfl)) dL_law_375 ⟨Nat.le_of_ble_eq_true rfl, Nat.le_of_ble_eq_true rfl⟩) hS (fun q _ h => hFc q h) hFc (fun r_1 u_2 t H1 locs ht hvm hw hB hz1 hk1 hS => ?_)
        obtain ⟨hP1, hK1, hD1⟩ := hB
        rw [ht] at hP1
        obtain ⟨hP, hD⟩ := va_join (wr := (rW bd cJ cZ K row2 (nI n) sd vl wt (nI T) kn tl od (nI (pc kb)) cl2 inn stt)) (w1 := (xW ad cI K row S V (nI 0) kw ko 0 qu qe 0)) hP hD [0, 1, 2, 3, 4, 5, 6] [7, 8, 9, 10, 11, 12, 13, 14, 15] rfl rfl (by decide) (by decide) hk1 hFc hP1 hD1
        clear hP1 hD1 hK1 hFc hk1 hz1 hPc hKc hDc
        generalize H1 = H at hP hS ⊢
        have hP := hP.sub (ws' := ((xW ad cI K row S V (nI 0) kw ko 0 qu qe 0) ++ (rW bd cJ cZ K row2 (nI n) sd vl wt (nI T) kn tl od (nI (pc kb)) cl2 inn stt))) [9, 10, 11, 12, 13, 14, 15, 0, 1, 2, 3, 4, 5, 6, 7, 8] rfl
        have hD := hD.sub (ws' := ((xW ad cI K row S V (nI 0) kw ko 0 qu qe 0) ++ (rW bd cJ cZ K row2 (nI n) sd vl wt (nI T) kn tl od (nI (pc kb)) cl2 inn stt))) [9, 10, 11, 12, 13, 14, 15, 0, 1, 2, 3, 4, 5, 6, 7, 8] (by decide) rfl
        have hP : va_P (dC, dI) vwCl ((xW ad cI K row S V (nI 0) kw ko 0 qu qe 0) ++ (rW bd cJ cZ K row2 (nI n) sd vl wt (nI T) kn tl od (nI (pc kb)) cl2 inn stt)) H := hP
        have hD : va_D (fun q : Nat => s.heap.size ≤ q) ((xW ad cI K row S V (nI 0) kw ko 0 qu qe 0) ++ (rW bd cJ cZ K row2 (nI n) sd vl wt (nI T) kn tl od (nI (pc kb)) cl2 inn stt)) := hD
        subst hw
        refine lv_aload_n hx hb dL_law_378 rfl (lv_at hl 2 rfl) ?_
        have hPc := hP.sub (ws' := (rW bd cJ cZ K row2 (nI n) sd vl wt (nI T) kn tl od (nI (pc kb)) cl2 inn stt)) [7, 8, 9, 10, 11, 12, 13, 14, 15] rfl
        have hKc := hK.sub (tys' := [(cJ, .int), (cZ, .boolean)]) [1, 2] rfl
        have hDc := hD.sub (ws' := (rW bd cJ cZ K row2 (nI n) sd vl wt (nI T) kn tl od (nI (pc kb)) cl2 inn stt)) [7, 8, 9, 10, 11, 12, 13, 14, 15] (by decide) rfl
        have hFc := va_free (wc := (rW bd cJ cZ K row2 (nI n) sd vl wt (nI T) kn tl od (nI (pc kb)) cl2 inn stt)) hD hS hA [7, 8, 9, 10, 11, 12, 13, 14, 15] rfl
        refine va_calli (va_runV (As := []) (rest := [.int (nI n)]) ⟨hx, hb, hml, hown, hts⟩ (c_X1_forget l dC dI H.size bd cJ cZ K row2 (nI n) sd vl wt (nI T) kn tl od (nI (pc kb)) cl2 inn stt hK1 hK2) (cwV 0 hts gL_law_X1_forget rfl rfl rfl (by decide +kernel) ⟨Nat.le_of_ble_eq_true rfl, Nat.le_of_ble_eq_true rfl⟩) ⟨wFb, va_recv hKc hPc (ci := 1) (q0 := 0) rfl rfl, fun U hU hW => ⟨rfl, by rw [hU], by rw [hU]; exact hPc, va_K.moved hW.alike hKc, hDc.weaken (fun _ _ _ _ => trivial)⟩⟩ rfl rfl hl.1 rfl (lv_room (Nat.le_of_ble_eq_true rfl)) dL_law_379 ⟨Nat.le_of_ble_eq_true rfl, Nat.le_of_ble_eq_true rfl⟩) hS (fun q _ h => hFc q h) hFc (fun r_3 u_4 t H1 locs ht hvm hw hB hz1 hk1 hS => ?_)
        obtain ⟨hP1, hK1, hD1⟩ := hB
        rw [ht] at hP1
        obtain ⟨hP, hD⟩ := va_join (wr := (xW ad cI K row S V (nI 0) kw ko 0 qu qe 0)) (w1 := (rW bd cJ cZ K row2 (nI 0) sd vl wt (nI T) u_4 tl od 0 0 inn stt)) hP hD [7, 8, 9, 10, 11, 12, 13, 14, 15] [0, 1, 2, 3, 4, 5, 6] rfl rfl (by decide) (by decide) hk1 hFc hP1 hD1
        clear hP1 hD1 hK1 hFc hk1 hz1 hPc hKc hDc
        generalize H1 = H at hP hS ⊢
        have hP : va_P (dC, dI) vwCl ((xW ad cI K row S V (nI 0) kw ko 0 qu qe 0) ++ (rW bd cJ cZ K row2 (nI 0) sd vl wt (nI T) u_4 tl od 0 0 inn stt)) H := hP
        have hD : va_D (fun q : Nat => s.heap.size ≤ q) ((xW ad cI K row S V (nI 0) kw ko 0 qu qe 0) ++ (rW bd cJ cZ K row2 (nI 0) sd vl wt (nI T) u_4 tl od 0 0 inn stt)) := hD
        obtain ⟨rfl, hk9⟩ := hw
        refine lv_icmp_eq (tgt := 387) hx hb dL_law_382 (by decide) (fun c9 => ?_) (fun c9 => ?_)
        · skip
          exact back _ T _ _ _ _ _ _ _ _ _ _ _ _ _ _ _ _ _ _ _ _ _ _ _ ls hP hD hS (lv_sub hl [0, 1, 2, 3] rfl) (by omega) (lw_fg hrow hk9)
        · skip
          exact absurd (rfl) c9
      · skip
        have hsw3 : (nI sw).toInt = (sw : Int) := nI_toInt (by omega)
        refine lv_tableOut (tgt := 387) hx hb dL_law_42 (Or.inr (by rw [hsw3]; omega)) (by decide) ?_
        exact back _ T _ _ _ _ _ _ _ _ _ _ _ _ _ _ _ _ _ _ _ _ _ _ _ ls hP hD hS (lv_sub hl [0, 1, 2, 3] rfl) (by omega) (⟨hn60, hrow, hSd, hVl, hkb, hno, hRR⟩)
end
section
set_option maxHeartbeats 4000000 in
set_option maxRecDepth 100000 in
/-- THE LAW, from its entry -/
theorem whole_start {p : Program} {e : Env} {s : State} {m : MethodId} {below : List Frame} {meth : Method} {c : Code} (l : Launch) {b L : Nat} {xs : Nat → Int32} (hL : L ≤ 1537) (C0 : lw_At p s m meth c b L xs) : W p l e room_1 s m #[Value.ref b] below meth c s.heap [] 0 0 (lw_Z below #[Value.ref b] s) (entryFrame m ([Value.ref b] : List Value).toArray 4) := by
  obtain ⟨hx, hb, hr, hml, hown, hts0, hX, hbl, hlocks, hgv⟩ := id C0
  have hts := fun w h => hts0 w (wsL_law_in w h)
  have hown : s.vm.findClass RL = some m.cls := hown
  have hb : c.code = cL_law := hb
  have hA : ∀ q : Nat, s.heap.size ≤ q → (fun q : Nat => s.heap.size ≤ q) q := fun _ h => h
  have hbA : ¬ (fun q : Nat => s.heap.size ≤ q) b := Nat.not_le.mpr hbl
  obtain ⟨K, hK1, hK2, hk⟩ := fmF_K (lwC L xs)
  obtain ⟨c0, iS0, hKn0⟩ := u_known (C := RX0) (T := TX0) (N := 11) (n := 11) hts inlX0 (hts (.instantiable RX0 11) (by decide +kernel))
  obtain ⟨c1, iS1, hKn1⟩ := u_known (C := RX1) (T := TX1) (N := 14) (n := 14) hts inlX1 (hts (.instantiable RX1 14) (by decide +kernel))
  obtain ⟨dC, dI, hKc⟩ : ∃ (dC : Nat → ClassId) (dI : Nat → Nat → Nat), ∀ (k : Nat) (q : vw_C), vwCl[k]? = some q → u_Kn s q.1 q.2.1 q.2.2 (dC k) (dI k) := by
    refine ⟨fun k => if k = 0 then c0 else c1, fun k => if k = 0 then iS0 else iS1, ?_⟩
    intro k q hq
    match k, hq with
    | 0, hq => cases hq; exact hKn0
    | 1, hq => cases hq; exact hKn1
    | k + 2, hq => simp [vwCl] at hq
  have hS : va_S (fun q : Nat => s.heap.size ≤ q) s.heap s.heap [] := va_S.rf
  have hK : va_K (dC, dI) vwCl [] s := ⟨hKc, fun k q h => by simp at h⟩
  have hP : va_P (dC, dI) vwCl [] s.heap := fun k q h => by simp at h
  have hD : va_D (fun q : Nat => s.heap.size ≤ q) [] := ⟨fun i j p q h => by simp at h, fun k q h => by simp at h⟩
  have hl := lv_entry ([.ref b]) (n := 4) (Nat.le_of_ble_eq_true rfl)
  rw [lg_entry_eq]
  generalize (lg_sl ([.ref b]) ++ List.replicate (4 - (lg_sl ([.ref b])).length) Slot.unset).toArray = ls at hl ⊢
  have hl : lv_has ls 4 [(0, .ref b)] := hl
  refine va_new (ci := 0) (fs := [.int 0, .null, .null, .null, .int 0, .null, .null, .int 0, .null, .int 0, .int 0]) (C := RX0) (T := TX0) (N := 11) hx hb hts inlX0 tyX0 tyX0_ok hown (hts (.classLink RL 7 RX0) (by decide +kernel)) (hts (.instantiable RX0 11) (by decide +kernel)) (hts (.initialized RX0) (by decide +kernel)) hK hP hD hS hA rfl (fun j hj => by rcases (show j = 0 ∨ j = 1 ∨ j = 2 ∨ j = 3 ∨ j = 4 ∨ j = 5 ∨ j = 6 ∨ j = 7 ∨ j = 8 ∨ j = 9 ∨ j = 10 by omega) with rfl | rfl | rfl | rfl | rfl | rfl | rfl | rfl | rfl | rfl | rfl <;> rfl) (Nat.le_of_ble_eq_true rfl) (Nat.le_of_ble_eq_true rfl) dL_law_0 (fun q0 H hP hD hS => ?_)
  have hP : va_P (dC, dI) vwCl [(q0, .inr (0, [.int 0, .null, .null, .null, .int 0, .null, .null, .int 0, .null, .int 0, .int 0]))] H := hP
  have hD : va_D (fun q : Nat => s.heap.size ≤ q) [(q0, .inr (0, [.int 0, .null, .null, .null, .int 0, .null, .null, .int 0, .null, .int 0, .int 0]))] := hD
  refine lv_dup hx hb dL_law_3 rfl ?_
  refine lv_aload_n hx hb dL_law_4 rfl (lv_at hl 0 rfl) ?_
  refine lv_iconst (v := 0) hx hb dL_law_5 (by decide) ?_
  refine vp_callSi (W.runS (As := [.ref b, .int 0]) (rest := [.ref q0, .ref q0]) ⟨hx, hb, hml, hown, hts⟩ (c_L_cell l b L xs hL) (va_cwS 2 hts gL_law_L_cell rfl rfl rfl (by decide +kernel) ⟨Nat.le_of_ble_eq_true rfl, Nat.le_of_ble_eq_true rfl⟩) ⟨xFbX, fun U hU hW => ⟨rfl, by show va_X b L xs U U.heap; rw [hU]; exact (hX.kept (hS.2.1 b hbl hbA)).moved hW.alike⟩⟩ rfl rfl hl.1 rfl (lv_room (Nat.le_of_ble_eq_true rfl)) dL_law_6 ⟨Nat.le_of_ble_eq_true rfl, Nat.le_of_ble_eq_true rfl⟩) (fun k9 ek9 => ?_)
  subst ek9
  have hPc := hP.sub (ws' := [(q0, .inr (0, [.int 0, .null, .null, .null, .int 0, .null, .null, .int 0, .null, .int 0, .int 0]))]) [0] rfl
  have hDc := hD.sub (ws' := [(q0, .inr (0, [.int 0, .null, .null, .null, .int 0, .null, .null, .int 0, .null, .int 0, .int 0]))]) [0] (by decide) rfl
  have hKc := hK.sub (tys' := []) [] rfl
  have hFc := va_free (wc := [(q0, .inr (0, [.int 0, .null, .null, .null, .int 0, .null, .null, .int 0, .null, .int 0, .int 0]))]) hD hS hA [0] rfl
  refine va_callv (va_runI (As := [.int (lwC L xs)]) (rest := [.ref q0]) ⟨hx, hb, hml, hown, hts⟩ (c_X0_init l dC dI H.size q0 K hK1 hK2 (lwC L xs) hk) (cwI 1 hts gL_law_X0_init rfl rfl rfl (hts (.initialized RX0) (by decide +kernel)) (hts (.methodLink RL 15 yX0_init) (by decide +kernel)) (hts (.instanceMethod yX0_init) (by decide +kernel)) rfl (by decide +kernel) ⟨Nat.le_of_ble_eq_true rfl, Nat.le_of_ble_eq_true rfl⟩) ⟨wFb, fun U hU hW => ⟨rfl, by rw [hU], by rw [hU]; exact hPc, va_K.moved hW.alike hKc, hDc.weaken (fun _ _ _ _ => trivial)⟩⟩ rfl rfl hl.1 rfl (lv_room (Nat.le_of_ble_eq_true rfl)) dL_law_9 ⟨Nat.le_of_ble_eq_true rfl, Nat.le_of_ble_eq_true rfl⟩) hS (fun q _ h => hFc q h) hFc (fun u0 t H1 locs ht hvm hw hB hz1 hk1 hS => ?_)
  obtain ⟨hP1, hK1a, hD1⟩ := hB
  rw [ht] at hP1
  have hK1a := va_K.moved hvm.symm hK1a
  obtain ⟨hPn, hDn⟩ := va_join (wr := []) (w1 := (xW u0.1 u0.2.1 K (fun _ => 0) (fun _ => 0) (fun _ => 0) 0 (fun _ => 0) (fun _ => 0) 0 (fun _ => 0) 0 0)) hP hD [0] [] rfl rfl (by decide) (by decide) hk1 hFc hP1 hD1
  have hK := (hK.sub (tys' := []) [] rfl).app hK1a
  clear hP1 hD1 hK1a hFc hk1 hz1 hPc hDc hKc
  generalize H1 = H at hPn hS ⊢
  have hw : u0.1 0 = q0 := hw
  subst hw
  have hP : va_P (dC, dI) vwCl (xW u0.1 u0.2.1 K (fun _ => 0) (fun _ => 0) (fun _ => 0) 0 (fun _ => 0) (fun _ => 0) 0 (fun _ => 0) 0 0) H := hPn
  have hD : va_D (fun q : Nat => s.heap.size ≤ q) (xW u0.1 u0.2.1 K (fun _ => 0) (fun _ => 0) (fun _ => 0) 0 (fun _ => 0) (fun _ => 0) 0 (fun _ => 0) 0 0) := hDn
  have hK : va_K (dC, dI) vwCl [(u0.2.1, .int)] s := hK
  refine lv_astore_n (lv' := [(1, .ref (u0.1 0)), (0, .ref b)]) hx hb dL_law_12 rfl hl (by decide) rfl (fun ls hl => ?_)
  refine va_new (ci := 1) (fs := [.int 0, .null, .int 0, .null, .null, .null, .int 0, .null, .null, .null, .int 0, .int 0, .null, .int 0]) (C := RX1) (T := TX1) (N := 14) hx hb hts inlX1 tyX1 tyX1_ok hown (hts (.classLink RL 18 RX1) (by decide +kernel)) (hts (.instantiable RX1 14) (by decide +kernel)) (hts (.initialized RX1) (by decide +kernel)) hK hP hD hS hA rfl (fun j hj => by rcases (show j = 0 ∨ j = 1 ∨ j = 2 ∨ j = 3 ∨ j = 4 ∨ j = 5 ∨ j = 6 ∨ j = 7 ∨ j = 8 ∨ j = 9 ∨ j = 10 ∨ j = 11 ∨ j = 12 ∨ j = 13 by omega) with rfl | rfl | rfl | rfl | rfl | rfl | rfl | rfl | rfl | rfl | rfl | rfl | rfl | rfl <;> rfl) (Nat.le_of_ble_eq_true rfl) (Nat.le_of_ble_eq_true rfl) dL_law_13 (fun q1 H hP hD hS => ?_)
  have hP : va_P (dC, dI) vwCl ((xW u0.1 u0.2.1 K (fun _ => 0) (fun _ => 0) (fun _ => 0) 0 (fun _ => 0) (fun _ => 0) 0 (fun _ => 0) 0 0) ++ [(q1, .inr (1, [.int 0, .null, .int 0, .null, .null, .null, .int 0, .null, .null, .null, .int 0, .int 0, .null, .int 0]))]) H := hP
  have hD : va_D (fun q : Nat => s.heap.size ≤ q) ((xW u0.1 u0.2.1 K (fun _ => 0) (fun _ => 0) (fun _ => 0) 0 (fun _ => 0) (fun _ => 0) 0 (fun _ => 0) 0 0) ++ [(q1, .inr (1, [.int 0, .null, .int 0, .null, .null, .null, .int 0, .null, .null, .null, .int 0, .int 0, .null, .int 0]))]) := hD
  refine lv_dup hx hb dL_law_16 rfl ?_
  refine lv_aload_n hx hb dL_law_17 rfl (lv_at hl 1 rfl) ?_
  refine lv_iconst (v := 0) hx hb dL_law_18 (by decide) ?_
  refine vp_callSi (W.runS (As := [.ref b, .int 0]) (rest := [.ref q1, .ref q1]) ⟨hx, hb, hml, hown, hts⟩ (c_L_cell l b L xs hL) (va_cwS 2 hts gL_law_L_cell rfl rfl rfl (by decide +kernel) ⟨Nat.le_of_ble_eq_true rfl, Nat.le_of_ble_eq_true rfl⟩) ⟨xFbX, fun U hU hW => ⟨rfl, by show va_X b L xs U U.heap; rw [hU]; exact (hX.kept (hS.2.1 b hbl hbA)).moved hW.alike⟩⟩ rfl rfl hl.1 rfl (lv_room (Nat.le_of_ble_eq_true rfl)) dL_law_19 ⟨Nat.le_of_ble_eq_true rfl, Nat.le_of_ble_eq_true rfl⟩) (fun k9 ek9 => ?_)
  subst ek9
  have hPc := hP.sub (ws' := [(q1, .inr (1, [.int 0, .null, .int 0, .null, .null, .null, .int 0, .null, .null, .null, .int 0, .int 0, .null, .int 0]))]) [7] rfl
  have hDc := hD.sub (ws' := [(q1, .inr (1, [.int 0, .null, .int 0, .null, .null, .null, .int 0, .null, .null, .null, .int 0, .int 0, .null, .int 0]))]) [7] (by decide) rfl
  have hKc := hK.sub (tys' := []) [] rfl
  have hFc := va_free (wc := [(q1, .inr (1, [.int 0, .null, .int 0, .null, .null, .null, .int 0, .null, .null, .null, .int 0, .int 0, .null, .int 0]))]) hD hS hA [7] rfl
  refine va_callv (va_runI (As := [.int (lwC L xs)]) (rest := [.ref q1]) ⟨hx, hb, hml, hown, hts⟩ (c_X1_init l dC dI H.size q1 K hK1 hK2 (lwC L xs) hk) (cwI 1 hts gL_law_X1_init rfl rfl rfl (hts (.initialized RX1) (by decide +kernel)) (hts (.methodLink RL 20 yX1_init) (by decide +kernel)) (hts (.instanceMethod yX1_init) (by decide +kernel)) rfl (by decide +kernel) ⟨Nat.le_of_ble_eq_true rfl, Nat.le_of_ble_eq_true rfl⟩) ⟨wFb, fun U hU hW => ⟨rfl, by rw [hU], by rw [hU]; exact hPc, va_K.moved hW.alike hKc, hDc.weaken (fun _ _ _ _ => trivial)⟩⟩ rfl rfl hl.1 rfl (lv_room (Nat.le_of_ble_eq_true rfl)) dL_law_22 ⟨Nat.le_of_ble_eq_true rfl, Nat.le_of_ble_eq_true rfl⟩) hS (fun q _ h => hFc q h) hFc (fun u1 t H1 locs ht hvm hw hB hz1 hk1 hS => ?_)
  obtain ⟨hP1, hK1a, hD1⟩ := hB
  rw [ht] at hP1
  have hK1a := va_K.moved hvm.symm hK1a
  obtain ⟨hPn, hDn⟩ := va_join (wr := (xW u0.1 u0.2.1 K (fun _ => 0) (fun _ => 0) (fun _ => 0) 0 (fun _ => 0) (fun _ => 0) 0 (fun _ => 0) 0 0)) (w1 := (rW u1.1 u1.2.1 u1.2.2 K (fun _ => 0) 0 (fun _ => 0) (fun _ => 0) (fun _ => 0) 0 (fun _ => 0) (fun _ => 0) (fun _ => 0) 0 0 (fun _ => 0) 0)) hP hD [7] [0, 1, 2, 3, 4, 5, 6] rfl rfl (by decide) (by decide) hk1 hFc hP1 hD1
  have hK := (hK.sub (tys' := [(u0.2.1, .int)]) [0] rfl).app hK1a
  clear hP1 hD1 hK1a hFc hk1 hz1 hPc hDc hKc
  generalize H1 = H at hPn hS ⊢
  have hw : u1.1 0 = q1 := hw
  subst hw
  have hP : va_P (dC, dI) vwCl ((xW u0.1 u0.2.1 K (fun _ => 0) (fun _ => 0) (fun _ => 0) 0 (fun _ => 0) (fun _ => 0) 0 (fun _ => 0) 0 0) ++ (rW u1.1 u1.2.1 u1.2.2 K (fun _ => 0) 0 (fun _ => 0) (fun _ => 0) (fun _ => 0) 0 (fun _ => 0) (fun _ => 0) (fun _ => 0) 0 0 (fun _ => 0) 0)) H := hPn
  have hD : va_D (fun q : Nat => s.heap.size ≤ q) ((xW u0.1 u0.2.1 K (fun _ => 0) (fun _ => 0) (fun _ => 0) 0 (fun _ => 0) (fun _ => 0) 0 (fun _ => 0) 0 0) ++ (rW u1.1 u1.2.1 u1.2.2 K (fun _ => 0) 0 (fun _ => 0) (fun _ => 0) (fun _ => 0) 0 (fun _ => 0) (fun _ => 0) (fun _ => 0) 0 0 (fun _ => 0) 0)) := hDn
  have hK : va_K (dC, dI) vwCl [(u0.2.1, .int), (u1.2.1, .int), (u1.2.2, .boolean)] s := hK
  refine lv_astore_n (lv' := [(2, .ref (u1.1 0)), (1, .ref (u0.1 0)), (0, .ref b)]) hx hb dL_law_25 rfl hl (by decide) rfl (fun ls hl => ?_)
  refine lv_iconst (v := 1) hx hb dL_law_26 (by decide) ?_
  refine lv_istore_n (lv' := [(3, .int 1), (2, .ref (u1.1 0)), (1, .ref (u0.1 0)), (0, .ref b)]) hx hb dL_law_27 rfl hl (by decide) rfl (fun ls hl => ?_)
  exact law_loop hL C0 u0.1 u1.1 u0.2.1 u1.2.1 u1.2.2 K hK1 hK2 hK L 1 0 0 (fun _ => 0) (fun _ => 0) (fun _ => 0) (fun _ => 0) (fun _ => 0) 0 (fun _ => 0) 0 0 (fun _ => 0) (fun _ => 0) (fun _ => 0) (fun _ => 0) 0 (fun _ => 0) (fun _ => 0) (fun _ => 0) 0 0 (fun _ => 0) 0 H _ ls hP hD hS (lv_sub hl [3, 2, 1, 0] rfl) (by omega) (by omega) (by omega) lw_0
end
section
set_option maxHeartbeats 4000000 in
theorem lw_walk (l : Launch) (b : Addr) (xs : List Int32) : MetFree l x (headSpec (Jvm.Cond.code x code maxLocals ret :: tables_1) room_1) (lw_P b xs) (fun _ _ _ _ _ => True) lw_Q := by
  refine MetFree.of_bodyS (code := code) (maxLocals := maxLocals) (ret := ret) (by decide) ?_ ?_
  · intro args s m h hn
    obtain ⟨meth, c, h1, h2, h3, h4, h5, h6, -, -⟩ := Cond.code_spec hn (atoms_spec (ws := Jvm.Cond.code x code maxLocals ret :: tables_1) h _ List.mem_cons_self)
    exact ⟨meth, c, h1, h2, h3, h4, h5, h6⟩
  · intro p e s m args below meth c s₁ B hml0 hP _
    obtain ⟨rfl, hx, hbd, hgv⟩ := hP
    obtain ⟨scr, harrAt, hlist, hof, hsmall⟩ := hx
    obtain ⟨hcb, hkn, -, -⟩ := State.arrayAt?_spec harrAt
    have hown : s.vm.findClass R_law = some m.cls := findClass_of_methodNamed B.named
    have hts0 : ∀ c ∈ (Jvm.Cond.code x code maxLocals ret :: tables_1), c.before #[Value.ref b] s = true := atoms_spec (ws := Jvm.Cond.code x code maxLocals ret :: tables_1) B.pre
    have hts : ∀ w ∈ lw_tbl, w.before #[Value.ref b] s = true := k2_hts_sels lw_privs (fun w hw => hts0 w (List.mem_cons_of_mem _ hw)) lw_privs_ok
    have hml : c.maxLocals = 4 := B.maxLocals_eq (hts0 _ List.mem_cons_self)
    have X₀ : Stand p l e room_1 s m #[Value.ref b] below meth c s₁ [] 0 0 := Stand.of_body B
    have hh0 : s₁.heap = s.heap := by rw [B.state]; rfl
    have hsz : scr.slots.size = xs.length := by rw [← Array.length_toList, hlist, List.length_map]
    have hval : ∀ j : Nat, j < xs.length → scr.slots[j]? = some (.int (xs.getD j 0)) := fun j hj => by
      rw [← Array.getElem?_toList, hlist]
      simp [hj]
    have hbl : b < s.heap.size := (Array.getElem?_eq_some_iff.mp hcb).1
    have hX : va_X b xs.length (fun j => xs.getD j 0) s s.heap := ⟨scr, hcb, hof, hkn, hsz, hval⟩
    have K : W p l e room_1 s m #[Value.ref b] below meth c s₁.heap [] 0 0 (lw_Z below #[Value.ref b] s) (entryFrame m ([Value.ref b] : List Value).toArray 4) := by
      rw [hh0]
      exact whole_start l hbd ⟨B.exec, B.bytes, B.returns, hml, hown, hts, hX, hbl, B.notSynchronized, hgv⟩
    obtain ⟨t, a1, o, b1, b2, b3⟩ := K s₁ rfl X₀
    exact ⟨t, o, a1, b1, b2, b3⟩
theorem lw_pre_spec {args : Array Value} {s : State} (h : (Jvm.Cond.and given_1 narrow_1).before args s = true) (hr : rest_1_c.before args s = true) : ∃ (b : Addr) (xs : List Int32), lw_P b xs args s := by
  have hs := flat_of_before _ h
  have hq := flat_of_before _ hr
  have hc : (Cond.count 1).before args s = true := hs _ (by decide +kernel)
  have harr : (Cond.arrayOf (.arg 0) .int).before args s = true := hs _ (by decide +kernel)
  have hle : (Cond.le (.length (.arg 0)) (.int 1537)).before args s = true := hs _ (by decide +kernel)
  have hlen : (Cond.isInt (.length (.arg 0))).before args s = true := hq _ (by decide +kernel)
  have hall : (Cond.all (.arg 0) (.isInt (.elem (.arg 0) (.index 0)))).before args s = true := hq _ (by decide +kernel)
  obtain ⟨b, xs, hb, hx⟩ := State.ints_of_pre rfl harr hlen hall
  have hsm : xs.length < 2 ^ 31 := hx.choose_spec.2.2.2
  have hev : (Term.length (.arg 0)).eval args s none [] s = some (.int xs.length.toInt32) := hx.length_eval hb
  have hv := Cond.le_ints hev (show (Term.int 1537).eval args s none [] s = some (.int 1537) from rfl)
  have hd : xs.length.toInt32 ≤ 1537 := by
    simpa [Cond.before, Cond.holds, hv] using hle
  have hN : xs.length ≤ 1537 := (Int32.ofNat_le_ofNat hsm (by decide)).mp (show Int32.ofNat xs.length ≤ Int32.ofNat 1537 from hd)
  exact ⟨b, xs, Cond.one_arg hc (show args[0]? = some (.ref b) from hb), hx, hN, h⟩
theorem lw_comes (l : Launch) : Comes l x (Jvm.Cond.code x code maxLocals ret :: tables_1) room_1 (fun tb e args s => Calls_1 tb e args s ∧ rest_1 tb e args s ∧ Pre_1 tb e args s)
    (fun _ _ args s o t => lw_Q args s o t) := by
  intro p e ha hc hk s m args below hf hfit hheap happ hpre
  obtain ⟨b, xs, hP⟩ := lw_pre_spec hpre.2.2 hpre.2.1
  obtain ⟨k, o, h1, h2, h3, hQ⟩ := lw_walk l b xs p e ha hc hk s m args below hf ((Spec.applies_iff_loose hf).mp happ).1 hP trivial
  exact ⟨k, o, h1, h2, h3, hQ⟩
theorem lw_frame {s t : State} {o : Outcome} {args : Array Value} (h : Framed s o t [] 600000 7302250) :
    Framed s o t (fieldLocs frame_1_writes args s ++ arrayLocs frame_1_arrays args s ++ staticLocs frame_1_statics s) 600000 7302250 := h
theorem lw_limb (L : Cond) (hL : ∀ (args : Array Value) (s t : State), L.after args s (.returned (some (.int 1))) t = true) :
    ArmFor flags0 classFile x code maxLocals ret World_1 tables_1 room_1 Calls_1 rest_1 Pre_1
      (fun tb e a s o t => postC L tb e a s o t ∧ Framed s o t (fieldLocs frame_1_writes a s ++ arrayLocs frame_1_arrays a s ++ staticLocs frame_1_statics s) 600000 7302250) := by
  intro l _ _ _ p e ha hc hk s m args below hf hfit hheap happ hpre
  obtain ⟨k, o, h1, h2, h3, rfl, hF⟩ := lw_comes l p e ha hc hk s m args below hf hfit hheap happ hpre
  exact ⟨k, _, h1, h2, h3, hL args s _, lw_frame hF⟩
theorem i_vc : Claimed_1_1 ∧ Claimed_1_2 := ⟨lw_limb limb_1_1 (fun args s t => by simp [limb_1_1, Cond.after, Cond.holds, Cond.value]), lw_limb limb_1_2 (fun args s t => Cond.after_iff.mpr (by
  first | (rw [show limb_1_2 = Cond.eq .result (.int 1) from rfl, Cond.eq_ints (x := 1) (y := 1) rfl rfl]; simp; done) | (simp [limb_1_2, Cond.value, Term.eval]; done)))⟩
end

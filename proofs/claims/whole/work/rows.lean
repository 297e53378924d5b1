section
-- ===== PART A: goes FIRST, ahead of the names: the tables' words, and 'selects' of the private methods out of them =====
/-- a private method of a class that the tables say can be made, by its rows of tables_1 -/
def lw_okq (q : MethodName × Nat) : Prop := (q.1.cls ≠ "java/lang/invoke/MethodHandle" ∧ q.1.cls ≠ "java/lang/invoke/VarHandle") ∧ Cond.instantiable q.1.cls q.2 ∈ tables_1 ∧ Cond.privateMethod q.1 ∈ tables_1 ∧ Cond.instanceMethod q.1 ∈ tables_1
theorem lw_p0 : lw_okq (⟨"CallNumbers$Plan", "draw", "(LCallNumbers$Calls;I)V"⟩, 7) := ⟨⟨by decide +kernel, by decide +kernel⟩, List.mem_of_getElem? (i := 111) (by decide +kernel), List.mem_of_getElem? (i := 151) (by decide +kernel), List.mem_of_getElem? (i := 152) (by decide +kernel)⟩
theorem lw_p1 : lw_okq (⟨"CallNumbers$Walk", "end", "(I)V"⟩, 5) := ⟨⟨by decide +kernel, by decide +kernel⟩, List.mem_of_getElem? (i := 155) (by decide +kernel), List.mem_of_getElem? (i := 188) (by decide +kernel), List.mem_of_getElem? (i := 189) (by decide +kernel)⟩
theorem lw_p2 : lw_okq (⟨"CallNumbers$Plan", "weigh", "(LCallNumbers$Calls;II)V"⟩, 7) := ⟨⟨by decide +kernel, by decide +kernel⟩, List.mem_of_getElem? (i := 111) (by decide +kernel), List.mem_of_getElem? (i := 195) (by decide +kernel), List.mem_of_getElem? (i := 196) (by decide +kernel)⟩
theorem lw_p3 : lw_okq (⟨"CallNumbers$Plan", "kindOf", "(LCallNumbers$Calls;I)I"⟩, 7) := ⟨⟨by decide +kernel, by decide +kernel⟩, List.mem_of_getElem? (i := 111) (by decide +kernel), List.mem_of_getElem? (i := 200) (by decide +kernel), List.mem_of_getElem? (i := 201) (by decide +kernel)⟩
theorem lw_p4 : lw_okq (⟨"CallNumbers$Plan", "waysOfPlainCallsTo", "(LCallNumbers$Calls;I)I"⟩, 7) := ⟨⟨by decide +kernel, by decide +kernel⟩, List.mem_of_getElem? (i := 111) (by decide +kernel), List.mem_of_getElem? (i := 204) (by decide +kernel), List.mem_of_getElem? (i := 205) (by decide +kernel)⟩
theorem lw_p5 : lw_okq (⟨"CallNumbers", "isCall", "(I)Z"⟩, 10) := ⟨⟨by decide +kernel, by decide +kernel⟩, List.mem_of_getElem? (i := 14) (by decide +kernel), List.mem_of_getElem? (i := 250) (by decide +kernel), List.mem_of_getElem? (i := 251) (by decide +kernel)⟩
theorem lw_p6 : lw_okq (⟨"CallNumbers", "planOf", "(I)LCallNumbers$Plan;"⟩, 10) := ⟨⟨by decide +kernel, by decide +kernel⟩, List.mem_of_getElem? (i := 14) (by decide +kernel), List.mem_of_getElem? (i := 267) (by decide +kernel), List.mem_of_getElem? (i := 268) (by decide +kernel)⟩
theorem lw_p7 : lw_okq (⟨"CallNumbers$Decoder", "read", "(LCallNumbers$Plan;LCallNumbers$Calls;III)Z"⟩, 2) := ⟨⟨by decide +kernel, by decide +kernel⟩, List.mem_of_getElem? (i := 98) (by decide +kernel), List.mem_of_getElem? (i := 290) (by decide +kernel), List.mem_of_getElem? (i := 291) (by decide +kernel)⟩
theorem lw_p8 : lw_okq (⟨"CallNumbers$Decoder", "nth", "(I)I"⟩, 2) := ⟨⟨by decide +kernel, by decide +kernel⟩, List.mem_of_getElem? (i := 98) (by decide +kernel), List.mem_of_getElem? (i := 298) (by decide +kernel), List.mem_of_getElem? (i := 299) (by decide +kernel)⟩
theorem lw_p9 : lw_okq (⟨"CallNumbers$CallStack", "here", "(LCallNumbers$Calls;)I"⟩, 2) := ⟨⟨by decide +kernel, by decide +kernel⟩, List.mem_of_getElem? (i := 53) (by decide +kernel), List.mem_of_getElem? (i := 306) (by decide +kernel), List.mem_of_getElem? (i := 307) (by decide +kernel)⟩
theorem lw_p10 : lw_okq (⟨"CallNumbers$Code", "write", "(LCallNumbers$Plan;LCallNumbers$Calls;LCallNumbers$CallStack;)V"⟩, 4) := ⟨⟨by decide +kernel, by decide +kernel⟩, List.mem_of_getElem? (i := 74) (by decide +kernel), List.mem_of_getElem? (i := 322) (by decide +kernel), List.mem_of_getElem? (i := 323) (by decide +kernel)⟩
theorem lw_p11 : lw_okq (⟨"CallNumbers$Code", "begin", "(I)V"⟩, 4) := ⟨⟨by decide +kernel, by decide +kernel⟩, List.mem_of_getElem? (i := 74) (by decide +kernel), List.mem_of_getElem? (i := 326) (by decide +kernel), List.mem_of_getElem? (i := 327) (by decide +kernel)⟩
theorem lw_p12 : lw_okq (⟨"CallNumbers$Code", "lastNumber", "()I"⟩, 4) := ⟨⟨by decide +kernel, by decide +kernel⟩, List.mem_of_getElem? (i := 74) (by decide +kernel), List.mem_of_getElem? (i := 344) (by decide +kernel), List.mem_of_getElem? (i := 345) (by decide +kernel)⟩
theorem lw_p13 : lw_okq (⟨"CallNumbers", "snapOf", "(I)LCallNumbers$Snap;"⟩, 10) := ⟨⟨by decide +kernel, by decide +kernel⟩, List.mem_of_getElem? (i := 14) (by decide +kernel), List.mem_of_getElem? (i := 389) (by decide +kernel), List.mem_of_getElem? (i := 390) (by decide +kernel)⟩
theorem lw_p14 : lw_okq (⟨"CallNumbersModel", "makesPlan", "()V"⟩, 28) := ⟨⟨by decide +kernel, by decide +kernel⟩, List.mem_of_getElem? (i := 408) (by decide +kernel), List.mem_of_getElem? (i := 414) (by decide +kernel), List.mem_of_getElem? (i := 415) (by decide +kernel)⟩
theorem lw_p15 : lw_okq (⟨"CallNumbersModel", "goesThrough", "(I)V"⟩, 28) := ⟨⟨by decide +kernel, by decide +kernel⟩, List.mem_of_getElem? (i := 408) (by decide +kernel), List.mem_of_getElem? (i := 418) (by decide +kernel), List.mem_of_getElem? (i := 419) (by decide +kernel)⟩
def lw_privs_1 : List (MethodName × Nat) := [(⟨"CallNumbers$Plan", "draw", "(LCallNumbers$Calls;I)V"⟩, 7), (⟨"CallNumbers$Walk", "end", "(I)V"⟩, 5), (⟨"CallNumbers$Plan", "weigh", "(LCallNumbers$Calls;II)V"⟩, 7), (⟨"CallNumbers$Plan", "kindOf", "(LCallNumbers$Calls;I)I"⟩, 7), (⟨"CallNumbers$Plan", "waysOfPlainCallsTo", "(LCallNumbers$Calls;I)I"⟩, 7), (⟨"CallNumbers", "isCall", "(I)Z"⟩, 10), (⟨"CallNumbers", "planOf", "(I)LCallNumbers$Plan;"⟩, 10), (⟨"CallNumbers$Decoder", "read", "(LCallNumbers$Plan;LCallNumbers$Calls;III)Z"⟩, 2), (⟨"CallNumbers$Decoder", "nth", "(I)I"⟩, 2), (⟨"CallNumbers$CallStack", "here", "(LCallNumbers$Calls;)I"⟩, 2), (⟨"CallNumbers$Code", "write", "(LCallNumbers$Plan;LCallNumbers$Calls;LCallNumbers$CallStack;)V"⟩, 4), (⟨"CallNumbers$Code", "begin", "(I)V"⟩, 4), (⟨"CallNumbers$Code", "lastNumber", "()I"⟩, 4), (⟨"CallNumbers", "snapOf", "(I)LCallNumbers$Snap;"⟩, 10), (⟨"CallNumbersModel", "makesPlan", "()V"⟩, 28), (⟨"CallNumbersModel", "goesThrough", "(I)V"⟩, 28)]
theorem lw_r1 : ∀ q ∈ lw_privs_1, lw_okq q := List.forall_mem_cons.mpr ⟨lw_p0, List.forall_mem_cons.mpr ⟨lw_p1, List.forall_mem_cons.mpr ⟨lw_p2, List.forall_mem_cons.mpr ⟨lw_p3, List.forall_mem_cons.mpr ⟨lw_p4, List.forall_mem_cons.mpr ⟨lw_p5, List.forall_mem_cons.mpr ⟨lw_p6, List.forall_mem_cons.mpr ⟨lw_p7, List.forall_mem_cons.mpr ⟨lw_p8, List.forall_mem_cons.mpr ⟨lw_p9, List.forall_mem_cons.mpr ⟨lw_p10, List.forall_mem_cons.mpr ⟨lw_p11, List.forall_mem_cons.mpr ⟨lw_p12, List.forall_mem_cons.mpr ⟨lw_p13, List.forall_mem_cons.mpr ⟨lw_p14, List.forall_mem_cons.mpr ⟨lw_p15, fun _ h => absurd h List.not_mem_nil⟩⟩⟩⟩⟩⟩⟩⟩⟩⟩⟩⟩⟩⟩⟩⟩
theorem lw_p16 : lw_okq (⟨"CallNumbersModel", "comesTo", "(II)V"⟩, 28) := ⟨⟨by decide +kernel, by decide +kernel⟩, List.mem_of_getElem? (i := 408) (by decide +kernel), List.mem_of_getElem? (i := 422) (by decide +kernel), List.mem_of_getElem? (i := 423) (by decide +kernel)⟩
theorem lw_p17 : lw_okq (⟨"CallNumbersModel", "goesAlong", "(II)V"⟩, 28) := ⟨⟨by decide +kernel, by decide +kernel⟩, List.mem_of_getElem? (i := 408) (by decide +kernel), List.mem_of_getElem? (i := 426) (by decide +kernel), List.mem_of_getElem? (i := 427) (by decide +kernel)⟩
theorem lw_p18 : lw_okq (⟨"CallNumbersModel", "findWays", "(I)V"⟩, 28) := ⟨⟨by decide +kernel, by decide +kernel⟩, List.mem_of_getElem? (i := 408) (by decide +kernel), List.mem_of_getElem? (i := 433) (by decide +kernel), List.mem_of_getElem? (i := 434) (by decide +kernel)⟩
theorem lw_p19 : lw_okq (⟨"CallNumbersModel", "getsWays", "(III)Z"⟩, 28) := ⟨⟨by decide +kernel, by decide +kernel⟩, List.mem_of_getElem? (i := 408) (by decide +kernel), List.mem_of_getElem? (i := 437) (by decide +kernel), List.mem_of_getElem? (i := 438) (by decide +kernel)⟩
theorem lw_p20 : lw_okq (⟨"CallNumbersModel", "counts", "(II)Z"⟩, 28) := ⟨⟨by decide +kernel, by decide +kernel⟩, List.mem_of_getElem? (i := 408) (by decide +kernel), List.mem_of_getElem? (i := 441) (by decide +kernel), List.mem_of_getElem? (i := 442) (by decide +kernel)⟩
theorem lw_p21 : lw_okq (⟨"CallNumbersModel", "findAdds", "(I)V"⟩, 28) := ⟨⟨by decide +kernel, by decide +kernel⟩, List.mem_of_getElem? (i := 408) (by decide +kernel), List.mem_of_getElem? (i := 445) (by decide +kernel), List.mem_of_getElem? (i := 446) (by decide +kernel)⟩
theorem lw_p22 : lw_okq (⟨"CallNumbersModel", "isCall", "(I)Z"⟩, 28) := ⟨⟨by decide +kernel, by decide +kernel⟩, List.mem_of_getElem? (i := 408) (by decide +kernel), List.mem_of_getElem? (i := 548) (by decide +kernel), List.mem_of_getElem? (i := 549) (by decide +kernel)⟩
theorem lw_p23 : lw_okq (⟨"CallNumbersModel", "isPlan", "(I)Z"⟩, 28) := ⟨⟨by decide +kernel, by decide +kernel⟩, List.mem_of_getElem? (i := 408) (by decide +kernel), List.mem_of_getElem? (i := 565) (by decide +kernel), List.mem_of_getElem? (i := 566) (by decide +kernel)⟩
theorem lw_p24 : lw_okq (⟨"CallNumbersModel", "isPlain", "(II)Z"⟩, 28) := ⟨⟨by decide +kernel, by decide +kernel⟩, List.mem_of_getElem? (i := 408) (by decide +kernel), List.mem_of_getElem? (i := 573) (by decide +kernel), List.mem_of_getElem? (i := 574) (by decide +kernel)⟩
theorem lw_p25 : lw_okq (⟨"CallNumbersModel", "decodes", "(IIII)Z"⟩, 28) := ⟨⟨by decide +kernel, by decide +kernel⟩, List.mem_of_getElem? (i := 408) (by decide +kernel), List.mem_of_getElem? (i := 590) (by decide +kernel), List.mem_of_getElem? (i := 591) (by decide +kernel)⟩
theorem lw_p26 : lw_okq (⟨"CallNumbersModel", "lastTo", "(III)I"⟩, 28) := ⟨⟨by decide +kernel, by decide +kernel⟩, List.mem_of_getElem? (i := 408) (by decide +kernel), List.mem_of_getElem? (i := 594) (by decide +kernel), List.mem_of_getElem? (i := 595) (by decide +kernel)⟩
theorem lw_p27 : lw_okq (⟨"CallNumbersModel", "here", "()I"⟩, 28) := ⟨⟨by decide +kernel, by decide +kernel⟩, List.mem_of_getElem? (i := 408) (by decide +kernel), List.mem_of_getElem? (i := 602) (by decide +kernel), List.mem_of_getElem? (i := 603) (by decide +kernel)⟩
theorem lw_p28 : lw_okq (⟨"CallNumbersModel", "codes", "(I[III)V"⟩, 28) := ⟨⟨by decide +kernel, by decide +kernel⟩, List.mem_of_getElem? (i := 408) (by decide +kernel), List.mem_of_getElem? (i := 618) (by decide +kernel), List.mem_of_getElem? (i := 619) (by decide +kernel)⟩
theorem lw_p29 : lw_okq (⟨"CallNumbersModel", "begins", "(I)V"⟩, 28) := ⟨⟨by decide +kernel, by decide +kernel⟩, List.mem_of_getElem? (i := 408) (by decide +kernel), List.mem_of_getElem? (i := 622) (by decide +kernel), List.mem_of_getElem? (i := 623) (by decide +kernel)⟩
theorem lw_p30 : lw_okq (⟨"CallNumbersModel", "isSnap", "(I)Z"⟩, 28) := ⟨⟨by decide +kernel, by decide +kernel⟩, List.mem_of_getElem? (i := 408) (by decide +kernel), List.mem_of_getElem? (i := 638) (by decide +kernel), List.mem_of_getElem? (i := 639) (by decide +kernel)⟩
def lw_privs_2 : List (MethodName × Nat) := [(⟨"CallNumbersModel", "comesTo", "(II)V"⟩, 28), (⟨"CallNumbersModel", "goesAlong", "(II)V"⟩, 28), (⟨"CallNumbersModel", "findWays", "(I)V"⟩, 28), (⟨"CallNumbersModel", "getsWays", "(III)Z"⟩, 28), (⟨"CallNumbersModel", "counts", "(II)Z"⟩, 28), (⟨"CallNumbersModel", "findAdds", "(I)V"⟩, 28), (⟨"CallNumbersModel", "isCall", "(I)Z"⟩, 28), (⟨"CallNumbersModel", "isPlan", "(I)Z"⟩, 28), (⟨"CallNumbersModel", "isPlain", "(II)Z"⟩, 28), (⟨"CallNumbersModel", "decodes", "(IIII)Z"⟩, 28), (⟨"CallNumbersModel", "lastTo", "(III)I"⟩, 28), (⟨"CallNumbersModel", "here", "()I"⟩, 28), (⟨"CallNumbersModel", "codes", "(I[III)V"⟩, 28), (⟨"CallNumbersModel", "begins", "(I)V"⟩, 28), (⟨"CallNumbersModel", "isSnap", "(I)Z"⟩, 28)]
theorem lw_r2 : ∀ q ∈ lw_privs_2, lw_okq q := List.forall_mem_cons.mpr ⟨lw_p16, List.forall_mem_cons.mpr ⟨lw_p17, List.forall_mem_cons.mpr ⟨lw_p18, List.forall_mem_cons.mpr ⟨lw_p19, List.forall_mem_cons.mpr ⟨lw_p20, List.forall_mem_cons.mpr ⟨lw_p21, List.forall_mem_cons.mpr ⟨lw_p22, List.forall_mem_cons.mpr ⟨lw_p23, List.forall_mem_cons.mpr ⟨lw_p24, List.forall_mem_cons.mpr ⟨lw_p25, List.forall_mem_cons.mpr ⟨lw_p26, List.forall_mem_cons.mpr ⟨lw_p27, List.forall_mem_cons.mpr ⟨lw_p28, List.forall_mem_cons.mpr ⟨lw_p29, List.forall_mem_cons.mpr ⟨lw_p30, fun _ h => absurd h List.not_mem_nil⟩⟩⟩⟩⟩⟩⟩⟩⟩⟩⟩⟩⟩⟩⟩
def lw_privs : List (MethodName × Nat) := lw_privs_1 ++ (lw_privs_2)
def lw_tbl : List Cond := k2_sels lw_privs ++ tables_1
theorem lw_privs_ok : ∀ q ∈ lw_privs, lw_okq q := by
  show ∀ q ∈ lw_privs_1 ++ (lw_privs_2), lw_okq q
  exact List.forall_mem_append.mpr ⟨lw_r1, lw_r2⟩
end
section
/-! ===== BEGIN words of one list among another's, by their places ===== -/
theorem goodIn_r {big : List Cond} (ws : List Cond) (ps : List Nat) (hp : ws = ps.filterMap (fun i => big[i]?)) (h : ws.all goodWord = true) : GoodIn big ws := by
  intro w hw
  have h1 := List.all_eq_true.mp h w hw
  rw [hp] at hw
  obtain ⟨i, -, hi⟩ := List.mem_filterMap.mp hw
  have hm : w ∈ big := by first | exact List.mem_of_getElem? hi | exact List.getElem?_mem hi
  exact ⟨hm, good_of_word h1⟩
theorem goodIn_app {big a b : List Cond} (ha : GoodIn big a) (hb : GoodIn big b) : GoodIn big (a ++ b) := fun w h => (List.mem_append.mp h).elim (ha w) (hb w)
theorem goodIn_ca {big a b : List Cond} {c : Cond} (ha : GoodIn big (c :: a)) (hb : GoodIn big b) : GoodIn big (c :: (a ++ b)) := fun w h => (List.mem_cons.mp h).elim (fun e => ha w (List.mem_cons.mpr (Or.inl e))) (fun h => (List.mem_append.mp h).elim (fun h => ha w (List.mem_cons.mpr (Or.inr h))) (hb w))
theorem goodIn_sub {big ws : List Cond} (hm : ∀ w ∈ ws, w ∈ big) (h : ws.all goodWord = true) : GoodIn big ws := fun w hw => ⟨hm w hw, good_of_word (List.all_eq_true.mp h w hw)⟩
/-! ===== END ===== -/

/-! ===== BEGIN printed: names, fields, word lists, decode rows ===== -/
def RX0 : String := "CallNumbers$CallStack"
def TX0 : u_T := fun k => match k with
  | 0 => ("CallNumbers$CallStack", "row", "[I", true)
  | _ => ("CallNumbers$CallStack", "count", "I", false)
def tyX0 : Nat → FieldType := fun k => match k with
  | 0 => .array .int
  | _ => .int
abbrev wsX00 : List Cond := u_ws RX0 TX0 2
theorem nmX0 : ∀ a, a < 2 → ∀ b, b < 2 → a ≠ b → (TX0 a).2.1 ≠ (TX0 b).2.1 := by decide +kernel
theorem tyX0_ok : ∀ k, k < 2 → parseFieldDescriptor (TX0 k).2.2.1 = some (tyX0 k) := by decide +kernel
abbrev cX0_init : ByteArray := prog_2_method_1_code
def yX0_init : MethodName := ⟨RX0, "<init>", "()V"⟩
abbrev cX0_here : ByteArray := prog_2_method_2_code
def yX0_here : MethodName := ⟨RX0, "here", "(LCallNumbers$Calls;)I"⟩
def RX1 : String := "CallNumbers$Calls"
def TX1 : u_T := fun k => match k with
  | 0 => ("CallNumbers$Calls", "from", "[I", true)
  | 1 => ("CallNumbers$Calls", "to", "[I", true)
  | _ => ("CallNumbers$Calls", "count", "I", false)
def tyX1 : Nat → FieldType := fun k => match k with
  | 0 => .array .int
  | 1 => .array .int
  | _ => .int
abbrev wsX10 : List Cond := u_ws RX1 TX1 3
theorem nmX1 : ∀ a, a < 3 → ∀ b, b < 3 → a ≠ b → (TX1 a).2.1 ≠ (TX1 b).2.1 := by decide +kernel
theorem tyX1_ok : ∀ k, k < 3 → parseFieldDescriptor (TX1 k).2.2.1 = some (tyX1 k) := by decide +kernel
abbrev cX1_init : ByteArray := prog_3_method_1_code
def yX1_init : MethodName := ⟨RX1, "<init>", "()V"⟩
def RX2 : String := "CallNumbers$Code"
def TX2 : u_T := fun k => match k with
  | 0 => ("CallNumbers$Code", "start", "[I", true)
  | 1 => ("CallNumbers$Code", "number", "[I", true)
  | 2 => ("CallNumbers$Code", "via", "[I", true)
  | _ => ("CallNumbers$Code", "count", "I", false)
def tyX2 : Nat → FieldType := fun k => match k with
  | 0 => .array .int
  | 1 => .array .int
  | 2 => .array .int
  | _ => .int
abbrev wsX20 : List Cond := u_ws RX2 TX2 4
theorem nmX2 : ∀ a, a < 4 → ∀ b, b < 4 → a ≠ b → (TX2 a).2.1 ≠ (TX2 b).2.1 := by decide +kernel
theorem tyX2_ok : ∀ k, k < 4 → parseFieldDescriptor (TX2 k).2.2.1 = some (tyX2 k) := by decide +kernel
abbrev cX2_init : ByteArray := prog_4_method_1_code
def yX2_init : MethodName := ⟨RX2, "<init>", "()V"⟩
abbrev cX2_write : ByteArray := prog_4_method_2_code
def yX2_write : MethodName := ⟨RX2, "write", "(LCallNumbers$Plan;LCallNumbers$Calls;LCallNumbers$CallStack;)V"⟩
abbrev cX2_begin : ByteArray := prog_4_method_3_code
def yX2_begin : MethodName := ⟨RX2, "begin", "(I)V"⟩
abbrev cX2_lastNumber : ByteArray := prog_4_method_4_code
def yX2_lastNumber : MethodName := ⟨RX2, "lastNumber", "()I"⟩
def RX3 : String := "CallNumbers$Decoder"
def TX3 : u_T := fun k => match k with
  | 0 => ("CallNumbers$Decoder", "backward", "[I", true)
  | _ => ("CallNumbers$Decoder", "count", "I", false)
def tyX3 : Nat → FieldType := fun k => match k with
  | 0 => .array .int
  | _ => .int
abbrev wsX30 : List Cond := u_ws RX3 TX3 2
theorem nmX3 : ∀ a, a < 2 → ∀ b, b < 2 → a ≠ b → (TX3 a).2.1 ≠ (TX3 b).2.1 := by decide +kernel
theorem tyX3_ok : ∀ k, k < 2 → parseFieldDescriptor (TX3 k).2.2.1 = some (tyX3 k) := by decide +kernel
abbrev cX3_init : ByteArray := prog_5_method_1_code
def yX3_init : MethodName := ⟨RX3, "<init>", "()V"⟩
abbrev cX3_read : ByteArray := prog_5_method_2_code
def yX3_read : MethodName := ⟨RX3, "read", "(LCallNumbers$Plan;LCallNumbers$Calls;III)Z"⟩
abbrev cX3_lastCall : ByteArray := prog_5_method_3_code
def yX3_lastCall : MethodName := ⟨RX3, "lastCall", "(LCallNumbers$Plan;LCallNumbers$Calls;II)I"⟩
abbrev cX3_nth : ByteArray := prog_5_method_4_code
def yX3_nth : MethodName := ⟨RX3, "nth", "(I)I"⟩
def RX4 : String := "CallNumbers$Plan"
def TX4 : u_T := fun k => match k with
  | 0 => ("CallNumbers$Plan", "ways", "[I", true)
  | 1 => ("CallNumbers$Plan", "adds", "[I", true)
  | 2 => ("CallNumbers$Plan", "seen", "I", false)
  | 3 => ("CallNumbers$Plan", "met", "I", false)
  | 4 => ("CallNumbers$Plan", "anchors", "I", false)
  | 5 => ("CallNumbers$Plan", "rings", "I", false)
  | _ => ("CallNumbers$Plan", "plain", "I", false)
def tyX4 : Nat → FieldType := fun k => match k with
  | 0 => .array .int
  | 1 => .array .int
  | 2 => .int
  | 3 => .int
  | 4 => .int
  | 5 => .int
  | _ => .int
abbrev wsX40 : List Cond := u_ws RX4 TX4 7
theorem nmX4 : ∀ a, a < 7 → ∀ b, b < 7 → a ≠ b → (TX4 a).2.1 ≠ (TX4 b).2.1 := by decide +kernel
theorem tyX4_ok : ∀ k, k < 7 → parseFieldDescriptor (TX4 k).2.2.1 = some (tyX4 k) := by decide +kernel
abbrev cX4_init : ByteArray := prog_6_method_1_code
def yX4_init : MethodName := ⟨RX4, "<init>", "()V"⟩
abbrev cX4_draw : ByteArray := prog_6_method_2_code
def yX4_draw : MethodName := ⟨RX4, "draw", "(LCallNumbers$Calls;I)V"⟩
abbrev cX4_weigh : ByteArray := prog_6_method_3_code
def yX4_weigh : MethodName := ⟨RX4, "weigh", "(LCallNumbers$Calls;II)V"⟩
abbrev cX4_waysOfPlainCallsTo : ByteArray := prog_6_method_4_code
def yX4_waysOfPlainCallsTo : MethodName := ⟨RX4, "waysOfPlainCallsTo", "(LCallNumbers$Calls;I)I"⟩
abbrev cX4_kindOf : ByteArray := prog_6_method_5_code
def yX4_kindOf : MethodName := ⟨RX4, "kindOf", "(LCallNumbers$Calls;I)I"⟩
def RX5 : String := "CallNumbers$Snap"
def TX5 : u_T := fun k => match k with
  | 0 => ("CallNumbers$Snap", "plan", "I", true)
  | 1 => ("CallNumbers$Snap", "here", "I", true)
  | 2 => ("CallNumbers$Snap", "pieces", "I", true)
  | 3 => ("CallNumbers$Snap", "lastNumber", "I", true)
  | _ => ("CallNumbers$Snap", "row", "[I", true)
def tyX5 : Nat → FieldType := fun k => match k with
  | 0 => .int
  | 1 => .int
  | 2 => .int
  | 3 => .int
  | _ => .array .int
abbrev wsX50 : List Cond := u_ws RX5 TX5 5
theorem nmX5 : ∀ a, a < 5 → ∀ b, b < 5 → a ≠ b → (TX5 a).2.1 ≠ (TX5 b).2.1 := by decide +kernel
theorem tyX5_ok : ∀ k, k < 5 → parseFieldDescriptor (TX5 k).2.2.1 = some (tyX5 k) := by decide +kernel
abbrev cX5_init : ByteArray := prog_7_method_1_code
def yX5_init : MethodName := ⟨RX5, "<init>", "(IILCallNumbers$Code;LCallNumbers$CallStack;)V"⟩
def RX6 : String := "CallNumbers$Walk"
def TX6 : u_T := fun k => match k with
  | 0 => ("CallNumbers$Walk", "ended", "[I", true)
  | 1 => ("CallNumbers$Walk", "endedCount", "I", false)
  | 2 => ("CallNumbers$Walk", "met", "I", false)
  | 3 => ("CallNumbers$Walk", "open", "I", false)
  | _ => ("CallNumbers$Walk", "rings", "I", false)
def tyX6 : Nat → FieldType := fun k => match k with
  | 0 => .array .int
  | 1 => .int
  | 2 => .int
  | 3 => .int
  | _ => .int
abbrev wsX60 : List Cond := u_ws RX6 TX6 5
theorem nmX6 : ∀ a, a < 5 → ∀ b, b < 5 → a ≠ b → (TX6 a).2.1 ≠ (TX6 b).2.1 := by decide +kernel
theorem tyX6_ok : ∀ k, k < 5 → parseFieldDescriptor (TX6 k).2.2.1 = some (tyX6 k) := by decide +kernel
abbrev cX6_init : ByteArray := prog_8_method_1_code
def yX6_init : MethodName := ⟨RX6, "<init>", "()V"⟩
abbrev cX6_goThrough : ByteArray := prog_8_method_2_code
def yX6_goThrough : MethodName := ⟨RX6, "goThrough", "(LCallNumbers$Walk;LCallNumbers$Calls;II)V"⟩
abbrev cX6_end : ByteArray := prog_8_method_3_code
def yX6_end : MethodName := ⟨RX6, "end", "(I)V"⟩
def RX7 : String := "CallNumbers"
def TX7 : u_T := fun k => match k with
  | 0 => ("CallNumbers", "calls", "LCallNumbers$Calls;", true)
  | 1 => ("CallNumbers", "plans", "[LCallNumbers$Plan;", true)
  | 2 => ("CallNumbers", "stack", "LCallNumbers$CallStack;", true)
  | 3 => ("CallNumbers", "snaps", "[LCallNumbers$Snap;", true)
  | 4 => ("CallNumbers", "code", "LCallNumbers$Code;", true)
  | 5 => ("CallNumbers", "decoder", "LCallNumbers$Decoder;", true)
  | 6 => ("CallNumbers", "inForce", "LCallNumbers$Plan;", false)
  | 7 => ("CallNumbers", "planCount", "I", false)
  | 8 => ("CallNumbers", "snapCount", "I", false)
  | _ => ("CallNumbers", "limit", "I", false)
def tyX7 : Nat → FieldType := fun k => match k with
  | 0 => .object "CallNumbers$Calls"
  | 1 => .array (.object "CallNumbers$Plan")
  | 2 => .object "CallNumbers$CallStack"
  | 3 => .array (.object "CallNumbers$Snap")
  | 4 => .object "CallNumbers$Code"
  | 5 => .object "CallNumbers$Decoder"
  | 6 => .object "CallNumbers$Plan"
  | 7 => .int
  | 8 => .int
  | _ => .int
abbrev wsX70 : List Cond := u_ws RX7 TX7 10
theorem nmX7 : ∀ a, a < 10 → ∀ b, b < 10 → a ≠ b → (TX7 a).2.1 ≠ (TX7 b).2.1 := by decide +kernel
theorem tyX7_ok : ∀ k, k < 10 → parseFieldDescriptor (TX7 k).2.2.1 = some (tyX7 k) := by decide +kernel
abbrev cX7_init : ByteArray := prog_1_method_1_code
def yX7_init : MethodName := ⟨RX7, "<init>", "()V"⟩
abbrev cX7_add : ByteArray := prog_1_method_2_code
def yX7_add : MethodName := ⟨RX7, "add", "(II)I"⟩
abbrev cX7_ofCall : ByteArray := prog_1_method_3_code
def yX7_ofCall : MethodName := ⟨RX7, "ofCall", "(II)I"⟩
abbrev cX7_limit : ByteArray := prog_1_method_4_code
def yX7_limit : MethodName := ⟨RX7, "limit", "(I)I"⟩
abbrev cX7_plan : ByteArray := prog_1_method_5_code
def yX7_plan : MethodName := ⟨RX7, "plan", "()I"⟩
abbrev cX7_kind : ByteArray := prog_1_method_6_code
def yX7_kind : MethodName := ⟨RX7, "kind", "(II)I"⟩
abbrev cX7_adds : ByteArray := prog_1_method_7_code
def yX7_adds : MethodName := ⟨RX7, "adds", "(II)I"⟩
abbrev cX7_ways : ByteArray := prog_1_method_8_code
def yX7_ways : MethodName := ⟨RX7, "ways", "(II)I"⟩
abbrev cX7_ofPlan : ByteArray := prog_1_method_9_code
def yX7_ofPlan : MethodName := ⟨RX7, "ofPlan", "(II)I"⟩
abbrev cX7_decoded : ByteArray := prog_1_method_10_code
def yX7_decoded : MethodName := ⟨RX7, "decoded", "(IIIII)I"⟩
abbrev cX7_call : ByteArray := prog_1_method_11_code
def yX7_call : MethodName := ⟨RX7, "call", "(I)I"⟩
abbrev cX7_back : ByteArray := prog_1_method_12_code
def yX7_back : MethodName := ⟨RX7, "back", "()I"⟩
abbrev cX7_running : ByteArray := prog_1_method_13_code
def yX7_running : MethodName := ⟨RX7, "running", "(I)I"⟩
abbrev cX7_piece : ByteArray := prog_1_method_14_code
def yX7_piece : MethodName := ⟨RX7, "piece", "(III)I"⟩
abbrev cX7_pieces : ByteArray := prog_1_method_15_code
def yX7_pieces : MethodName := ⟨RX7, "pieces", "(I)I"⟩
abbrev cX7_snap : ByteArray := prog_1_method_16_code
def yX7_snap : MethodName := ⟨RX7, "snap", "()I"⟩
abbrev cX7_ofSnap : ByteArray := prog_1_method_17_code
def yX7_ofSnap : MethodName := ⟨RX7, "ofSnap", "(II)I"⟩
abbrev cX7_snapped : ByteArray := prog_1_method_18_code
def yX7_snapped : MethodName := ⟨RX7, "snapped", "(II)I"⟩
abbrev cX7_same : ByteArray := prog_1_method_19_code
def yX7_same : MethodName := ⟨RX7, "same", "(II)I"⟩
abbrev cX7_many : ByteArray := prog_1_method_20_code
def yX7_many : MethodName := ⟨RX7, "many", "(I)I"⟩
abbrev cX7_isRoutine : ByteArray := prog_1_method_21_code
def yX7_isRoutine : MethodName := ⟨RX7, "isRoutine", "(I)Z"⟩
abbrev cX7_isCall : ByteArray := prog_1_method_22_code
def yX7_isCall : MethodName := ⟨RX7, "isCall", "(I)Z"⟩
abbrev cX7_planOf : ByteArray := prog_1_method_23_code
def yX7_planOf : MethodName := ⟨RX7, "planOf", "(I)LCallNumbers$Plan;"⟩
abbrev cX7_snapOf : ByteArray := prog_1_method_24_code
def yX7_snapOf : MethodName := ⟨RX7, "snapOf", "(I)LCallNumbers$Snap;"⟩
abbrev cX7_has : ByteArray := prog_1_method_25_code
def yX7_has : MethodName := ⟨RX7, "has", "(II)Z"⟩
abbrev cX7_sameRows : ByteArray := prog_1_method_26_code
def yX7_sameRows : MethodName := ⟨RX7, "sameRows", "([I[I)Z"⟩
def RX8 : String := "CallNumbersModel"
def TX8 : u_T := fun k => match k with
  | 0 => ("CallNumbersModel", "calls", "I", false)
  | 1 => ("CallNumbersModel", "fromOf", "[I", true)
  | 2 => ("CallNumbersModel", "toOf", "[I", true)
  | 3 => ("CallNumbersModel", "limitNow", "I", false)
  | 4 => ("CallNumbersModel", "plans", "I", false)
  | 5 => ("CallNumbersModel", "callsOf", "[I", true)
  | 6 => ("CallNumbersModel", "metOf", "[I", true)
  | 7 => ("CallNumbersModel", "anchorsOf", "[I", true)
  | 8 => ("CallNumbersModel", "ringsOf", "[I", true)
  | 9 => ("CallNumbersModel", "plainOf", "[I", true)
  | 10 => ("CallNumbersModel", "waysOf", "[I", true)
  | 11 => ("CallNumbersModel", "addOf", "[I", true)
  | 12 => ("CallNumbersModel", "goingMany", "I", false)
  | 13 => ("CallNumbersModel", "going", "[I", true)
  | 14 => ("CallNumbersModel", "nextOf", "[I", true)
  | 15 => ("CallNumbersModel", "goingSet", "I", false)
  | 16 => ("CallNumbersModel", "decodedMany", "I", false)
  | 17 => ("CallNumbersModel", "decodedCall", "[I", true)
  | 18 => ("CallNumbersModel", "deep", "I", false)
  | 19 => ("CallNumbersModel", "stack", "[I", true)
  | 20 => ("CallNumbersModel", "pieceMany", "I", false)
  | 21 => ("CallNumbersModel", "startOf", "[I", true)
  | 22 => ("CallNumbersModel", "numberOf", "[I", true)
  | 23 => ("CallNumbersModel", "viaOf", "[I", true)
  | 24 => ("CallNumbersModel", "snaps", "I", false)
  | 25 => ("CallNumbersModel", "snapPlan", "[I", true)
  | 26 => ("CallNumbersModel", "snapDeep", "[I", true)
  | _ => ("CallNumbersModel", "snapStack", "[I", true)
def tyX8 : Nat → FieldType := fun k => match k with
  | 0 => .int
  | 1 => .array .int
  | 2 => .array .int
  | 3 => .int
  | 4 => .int
  | 5 => .array .int
  | 6 => .array .int
  | 7 => .array .int
  | 8 => .array .int
  | 9 => .array .int
  | 10 => .array .int
  | 11 => .array .int
  | 12 => .int
  | 13 => .array .int
  | 14 => .array .int
  | 15 => .int
  | 16 => .int
  | 17 => .array .int
  | 18 => .int
  | 19 => .array .int
  | 20 => .int
  | 21 => .array .int
  | 22 => .array .int
  | 23 => .array .int
  | 24 => .int
  | 25 => .array .int
  | 26 => .array .int
  | _ => .array .int
abbrev wsX80 : List Cond := u_ws RX8 TX8 28
theorem nmX8 : ∀ a, a < 28 → ∀ b, b < 28 → a ≠ b → (TX8 a).2.1 ≠ (TX8 b).2.1 := by decide +kernel
theorem tyX8_ok : ∀ k, k < 28 → parseFieldDescriptor (TX8 k).2.2.1 = some (tyX8 k) := by decide +kernel
abbrev cX8_init : ByteArray := prog_10_method_1_code
def yX8_init : MethodName := ⟨RX8, "<init>", "()V"⟩
abbrev cX8_within : ByteArray := prog_10_method_2_code
def yX8_within : MethodName := ⟨RX8, "within", "(III)Z"⟩
abbrev cX8_has : ByteArray := prog_10_method_3_code
def yX8_has : MethodName := ⟨RX8, "has", "(II)Z"⟩
abbrev cX8_isRoutine : ByteArray := prog_10_method_4_code
def yX8_isRoutine : MethodName := ⟨RX8, "isRoutine", "(I)Z"⟩
abbrev cX8_isCall : ByteArray := prog_10_method_5_code
def yX8_isCall : MethodName := ⟨RX8, "isCall", "(I)Z"⟩
abbrev cX8_add : ByteArray := prog_10_method_6_code
def yX8_add : MethodName := ⟨RX8, "add", "(II)I"⟩
abbrev cX8_ofCall : ByteArray := prog_10_method_7_code
def yX8_ofCall : MethodName := ⟨RX8, "ofCall", "(II)I"⟩
abbrev cX8_limit : ByteArray := prog_10_method_8_code
def yX8_limit : MethodName := ⟨RX8, "limit", "(I)I"⟩
abbrev cX8_isPlan : ByteArray := prog_10_method_9_code
def yX8_isPlan : MethodName := ⟨RX8, "isPlan", "(I)Z"⟩
abbrev cX8_comesTo : ByteArray := prog_10_method_10_code
def yX8_comesTo : MethodName := ⟨RX8, "comesTo", "(II)V"⟩
abbrev cX8_goesThrough : ByteArray := prog_10_method_11_code
def yX8_goesThrough : MethodName := ⟨RX8, "goesThrough", "(I)V"⟩
abbrev cX8_goesAlong : ByteArray := prog_10_method_12_code
def yX8_goesAlong : MethodName := ⟨RX8, "goesAlong", "(II)V"⟩
abbrev cX8_counts : ByteArray := prog_10_method_13_code
def yX8_counts : MethodName := ⟨RX8, "counts", "(II)Z"⟩
abbrev cX8_getsWays : ByteArray := prog_10_method_14_code
def yX8_getsWays : MethodName := ⟨RX8, "getsWays", "(III)Z"⟩
abbrev cX8_findWays : ByteArray := prog_10_method_15_code
def yX8_findWays : MethodName := ⟨RX8, "findWays", "(I)V"⟩
abbrev cX8_findAdds : ByteArray := prog_10_method_16_code
def yX8_findAdds : MethodName := ⟨RX8, "findAdds", "(I)V"⟩
abbrev cX8_makesPlan : ByteArray := prog_10_method_17_code
def yX8_makesPlan : MethodName := ⟨RX8, "makesPlan", "()V"⟩
abbrev cX8_plan : ByteArray := prog_10_method_18_code
def yX8_plan : MethodName := ⟨RX8, "plan", "()I"⟩
abbrev cX8_isPlain : ByteArray := prog_10_method_19_code
def yX8_isPlain : MethodName := ⟨RX8, "isPlain", "(II)Z"⟩
abbrev cX8_kind : ByteArray := prog_10_method_20_code
def yX8_kind : MethodName := ⟨RX8, "kind", "(II)I"⟩
abbrev cX8_adds : ByteArray := prog_10_method_21_code
def yX8_adds : MethodName := ⟨RX8, "adds", "(II)I"⟩
abbrev cX8_ways : ByteArray := prog_10_method_22_code
def yX8_ways : MethodName := ⟨RX8, "ways", "(II)I"⟩
abbrev cX8_ofPlan : ByteArray := prog_10_method_23_code
def yX8_ofPlan : MethodName := ⟨RX8, "ofPlan", "(II)I"⟩
abbrev cX8_lastTo : ByteArray := prog_10_method_24_code
def yX8_lastTo : MethodName := ⟨RX8, "lastTo", "(III)I"⟩
abbrev cX8_decodes : ByteArray := prog_10_method_25_code
def yX8_decodes : MethodName := ⟨RX8, "decodes", "(IIII)Z"⟩
abbrev cX8_decoded : ByteArray := prog_10_method_26_code
def yX8_decoded : MethodName := ⟨RX8, "decoded", "(IIIII)I"⟩
abbrev cX8_here : ByteArray := prog_10_method_27_code
def yX8_here : MethodName := ⟨RX8, "here", "()I"⟩
abbrev cX8_call : ByteArray := prog_10_method_28_code
def yX8_call : MethodName := ⟨RX8, "call", "(I)I"⟩
abbrev cX8_back : ByteArray := prog_10_method_29_code
def yX8_back : MethodName := ⟨RX8, "back", "()I"⟩
abbrev cX8_running : ByteArray := prog_10_method_30_code
def yX8_running : MethodName := ⟨RX8, "running", "(I)I"⟩
abbrev cX8_begins : ByteArray := prog_10_method_31_code
def yX8_begins : MethodName := ⟨RX8, "begins", "(I)V"⟩
abbrev cX8_codes : ByteArray := prog_10_method_32_code
def yX8_codes : MethodName := ⟨RX8, "codes", "(I[III)V"⟩
abbrev cX8_piece : ByteArray := prog_10_method_33_code
def yX8_piece : MethodName := ⟨RX8, "piece", "(III)I"⟩
abbrev cX8_pieces : ByteArray := prog_10_method_34_code
def yX8_pieces : MethodName := ⟨RX8, "pieces", "(I)I"⟩
abbrev cX8_isSnap : ByteArray := prog_10_method_35_code
def yX8_isSnap : MethodName := ⟨RX8, "isSnap", "(I)Z"⟩
abbrev cX8_snap : ByteArray := prog_10_method_36_code
def yX8_snap : MethodName := ⟨RX8, "snap", "()I"⟩
abbrev cX8_ofSnap : ByteArray := prog_10_method_37_code
def yX8_ofSnap : MethodName := ⟨RX8, "ofSnap", "(II)I"⟩
abbrev cX8_snapped : ByteArray := prog_10_method_38_code
def yX8_snapped : MethodName := ⟨RX8, "snapped", "(II)I"⟩
abbrev cX8_same : ByteArray := prog_10_method_39_code
def yX8_same : MethodName := ⟨RX8, "same", "(II)I"⟩
abbrev cX8_many : ByteArray := prog_10_method_40_code
def yX8_many : MethodName := ⟨RX8, "many", "(I)I"⟩
def RJx8e188 : String := "java/lang/Cloneable"
def TJx8e188 : u_T := fun k => match k with
  | _ => ("", "", "", false)
def tyJx8e188 : Nat → FieldType := fun k => match k with
  | _ => .int
abbrev wsJx8e1880 : List Cond := u_ws RJx8e188 TJx8e188 0
theorem nmJx8e188 : ∀ a, a < 0 → ∀ b, b < 0 → a ≠ b → (TJx8e188 a).2.1 ≠ (TJx8e188 b).2.1 := by decide +kernel
theorem tyJx8e188_ok : ∀ k, k < 0 → parseFieldDescriptor (TJx8e188 k).2.2.1 = some (tyJx8e188 k) := by decide +kernel
def RJ9 : String := "java/lang/Math"
def TJ9 : u_T := fun k => match k with
  | _ => ("", "", "", false)
def tyJ9 : Nat → FieldType := fun k => match k with
  | _ => .int
abbrev wsJ90 : List Cond := u_ws RJ9 TJ9 0
theorem nmJ9 : ∀ a, a < 0 → ∀ b, b < 0 → a ≠ b → (TJ9 a).2.1 ≠ (TJ9 b).2.1 := by decide +kernel
theorem tyJ9_ok : ∀ k, k < 0 → parseFieldDescriptor (TJ9 k).2.2.1 = some (tyJ9 k) := by decide +kernel
abbrev cJ9_min_7cf53 : ByteArray := prog_12_method_69_code
def yJ9_min_7cf53 : MethodName := ⟨RJ9, "min", "(II)I"⟩
def RJ10 : String := "java/lang/System"
def TJ10 : u_T := fun k => match k with
  | _ => ("", "", "", false)
def tyJ10 : Nat → FieldType := fun k => match k with
  | _ => .int
abbrev wsJ100 : List Cond := u_ws RJ10 TJ10 0
theorem nmJ10 : ∀ a, a < 0 → ∀ b, b < 0 → a ≠ b → (TJ10 a).2.1 ≠ (TJ10 b).2.1 := by decide +kernel
theorem tyJ10_ok : ∀ k, k < 0 → parseFieldDescriptor (TJ10 k).2.2.1 = some (tyJ10 k) := by decide +kernel
def RJ7 : String := "java/util/Arrays"
def TJ7 : u_T := fun k => match k with
  | _ => ("", "", "", false)
def tyJ7 : Nat → FieldType := fun k => match k with
  | _ => .int
abbrev wsJ70 : List Cond := u_ws RJ7 TJ7 0
theorem nmJ7 : ∀ a, a < 0 → ∀ b, b < 0 → a ≠ b → (TJ7 a).2.1 ≠ (TJ7 b).2.1 := by decide +kernel
theorem tyJ7_ok : ∀ k, k < 0 → parseFieldDescriptor (TJ7 k).2.2.1 = some (tyJ7 k) := by decide +kernel
abbrev cJ7_fill_53178 : ByteArray := prog_14_method_103_code
def yJ7_fill_53178 : MethodName := ⟨RJ7, "fill", "([II)V"⟩
abbrev cJ7_copyOf_59c91 : ByteArray := prog_14_method_123_code
def yJ7_copyOf_59c91 : MethodName := ⟨RJ7, "copyOf", "([II)[I"⟩
def RL : String := "CallNumbersLaw"
abbrev cL_law : ByteArray := code
def yL_law : MethodName := ⟨RL, "law", "([I)Z"⟩
def wsX0_init : List Cond := .code yX0_init cX0_init 1 none :: ([.methodLink RX0 3 objectInit, .instanceMethod objectInit, .code objectInit ⟨#[0xb1]⟩ 1 none, .arrayClass .int, .fieldLink RX0 9 "CallNumbers$CallStack" "row" "[I"] ++ wsX00)
def wsX0_here : List Cond := .code yX0_here cX0_here 2 (some .int) :: ([.fieldLink RX0 15 "CallNumbers$CallStack" "count" "I", .fieldLink RX0 9 "CallNumbers$CallStack" "row" "[I"] ++ wsX00 ++ wsX10)
def wsX1_init : List Cond := .code yX1_init cX1_init 1 none :: ([.methodLink RX1 3 objectInit, .instanceMethod objectInit, .code objectInit ⟨#[0xb1]⟩ 1 none, .arrayClass .int, .fieldLink RX1 9 "CallNumbers$Calls" "from" "[I", .fieldLink RX1 15 "CallNumbers$Calls" "to" "[I"] ++ wsX10)
def wsX2_init : List Cond := .code yX2_init cX2_init 1 none :: ([.methodLink RX2 3 objectInit, .instanceMethod objectInit, .code objectInit ⟨#[0xb1]⟩ 1 none, .arrayClass .int, .fieldLink RX2 9 "CallNumbers$Code" "start" "[I", .fieldLink RX2 15 "CallNumbers$Code" "number" "[I", .fieldLink RX2 18 "CallNumbers$Code" "via" "[I"] ++ wsX20)
def wsX2_begin : List Cond := .code yX2_begin cX2_begin 2 none :: ([.fieldLink RX2 21 "CallNumbers$Code" "count" "I", .fieldLink RX2 9 "CallNumbers$Code" "start" "[I", .fieldLink RX2 15 "CallNumbers$Code" "number" "[I", .fieldLink RX2 18 "CallNumbers$Code" "via" "[I"] ++ wsX20)
def wsX7_has : List Cond := .code yX7_has cX7_has 2 (some .boolean) :: ([])
def wsX2_write : List Cond := .code yX2_write cX2_write 6 none :: ([.fieldLink RX2 21 "CallNumbers$Code" "count" "I", .fieldLink RX2 15 "CallNumbers$Code" "number" "[I", .fieldLink RX2 18 "CallNumbers$Code" "via" "[I", .methodLink RX2 25 yX2_begin, .instanceMethod yX2_begin, .selects RX2 yX2_begin yX2_begin, .initialized RX2, .code yX2_begin cX2_begin 2 none, .fieldLink RX2 9 "CallNumbers$Code" "start" "[I", .static yX7_has, .initialized RX7, .code yX7_has cX7_has 2 (some .boolean)] ++ wsX20 ++ wsX00 ++ wsX40 ++ wsX10)
def wsX2_lastNumber : List Cond := .code yX2_lastNumber cX2_lastNumber 1 (some .int) :: ([.fieldLink RX2 21 "CallNumbers$Code" "count" "I", .fieldLink RX2 15 "CallNumbers$Code" "number" "[I"] ++ wsX20)
def wsX3_init : List Cond := .code yX3_init cX3_init 1 none :: ([.methodLink RX3 3 objectInit, .instanceMethod objectInit, .code objectInit ⟨#[0xb1]⟩ 1 none, .arrayClass .int, .fieldLink RX3 9 "CallNumbers$Decoder" "backward" "[I"] ++ wsX30)
def wsX3_lastCall : List Cond := .code yX3_lastCall cX3_lastCall 6 (some .int) :: ([.static yX7_has, .initialized RX7, .code yX7_has cX7_has 2 (some .boolean)] ++ wsX40 ++ wsX10)
def wsX3_read : List Cond := .code yX3_read cX3_read 10 (some .boolean) :: ([.fieldLink RX3 15 "CallNumbers$Decoder" "count" "I", .fieldLink RX3 9 "CallNumbers$Decoder" "backward" "[I", .methodLink RX3 19 yX3_lastCall, .static yX3_lastCall, .initialized RX3, .code yX3_lastCall cX3_lastCall 6 (some .int), .static yX7_has, .initialized RX7, .code yX7_has cX7_has 2 (some .boolean)] ++ wsX30 ++ wsX40 ++ wsX10)
def wsX3_nth : List Cond := .code yX3_nth cX3_nth 2 (some .int) :: ([.fieldLink RX3 15 "CallNumbers$Decoder" "count" "I", .fieldLink RX3 9 "CallNumbers$Decoder" "backward" "[I"] ++ wsX30)
def wsX4_init : List Cond := .code yX4_init cX4_init 1 none :: ([.methodLink RX4 3 objectInit, .instanceMethod objectInit, .code objectInit ⟨#[0xb1]⟩ 1 none, .arrayClass .int, .fieldLink RX4 9 "CallNumbers$Plan" "ways" "[I", .fieldLink RX4 15 "CallNumbers$Plan" "adds" "[I"] ++ wsX40)
def wsX6_init : List Cond := .code yX6_init cX6_init 1 none :: ([.methodLink RX6 3 objectInit, .instanceMethod objectInit, .code objectInit ⟨#[0xb1]⟩ 1 none, .arrayClass .int, .fieldLink RX6 9 "CallNumbers$Walk" "ended" "[I"] ++ wsX60)
def wsX6_end : List Cond := .code yX6_end cX6_end 2 none :: ([.fieldLink RX6 15 "CallNumbers$Walk" "endedCount" "I", .fieldLink RX6 9 "CallNumbers$Walk" "ended" "[I"] ++ wsX60)
def wsX6_goThrough : List Cond := .code yX6_goThrough cX6_goThrough 5 none :: ([.fieldLink RX6 15 "CallNumbers$Walk" "endedCount" "I", .fieldLink RX6 19 "CallNumbers$Walk" "met" "I", .fieldLink RX6 22 "CallNumbers$Walk" "open" "I", .fieldLink RX6 40 "CallNumbers$Walk" "rings" "I", .static yX7_has, .initialized RX7, .code yX7_has cX7_has 2 (some .boolean), .methodLink RX6 43 yX6_goThrough, .static yX6_goThrough, .initialized RX6, .methodLink RX6 47 yX6_end, .instanceMethod yX6_end, .selects RX6 yX6_end yX6_end, .code yX6_end cX6_end 2 none, .fieldLink RX6 9 "CallNumbers$Walk" "ended" "[I"] ++ wsX60 ++ wsX10)
def wsJ7_fill_53178 : List Cond := .code yJ7_fill_53178 cJ7_fill_53178 4 none :: ([])
def wsX4_weigh : List Cond := .code yX4_weigh cX4_weigh 6 none :: ([.fieldLink RX4 31 "CallNumbers$Plan" "seen" "I", .fieldLink RX4 37 "CallNumbers$Plan" "met" "I", .fieldLink RX4 41 "CallNumbers$Plan" "rings" "I", .fieldLink RX4 9 "CallNumbers$Plan" "ways" "[I", .fieldLink RX4 78 "CallNumbers$Plan" "anchors" "I", .static yX7_has, .initialized RX7, .code yX7_has cX7_has 2 (some .boolean)] ++ wsX40 ++ wsX10)
def wsX4_kindOf : List Cond := .code yX4_kindOf cX4_kindOf 3 (some .int) :: ([.fieldLink RX4 41 "CallNumbers$Plan" "rings" "I", .fieldLink RX4 31 "CallNumbers$Plan" "seen" "I", .fieldLink RX4 37 "CallNumbers$Plan" "met" "I", .fieldLink RX4 78 "CallNumbers$Plan" "anchors" "I", .static yX7_has, .initialized RX7, .code yX7_has cX7_has 2 (some .boolean)] ++ wsX40 ++ wsX10)
def wsX4_waysOfPlainCallsTo : List Cond := .code yX4_waysOfPlainCallsTo cX4_waysOfPlainCallsTo 5 (some .int) :: ([.fieldLink RX4 31 "CallNumbers$Plan" "seen" "I", .fieldLink RX4 68 "CallNumbers$Plan" "plain" "I", .fieldLink RX4 9 "CallNumbers$Plan" "ways" "[I", .static yX7_has, .initialized RX7, .code yX7_has cX7_has 2 (some .boolean)] ++ wsX40 ++ wsX10)
def wsX4_draw_r1 : List Cond := [Cond.classLink RX4 18 RX6, Cond.instantiable RX6 5, Cond.initialized RX6, Cond.fieldLink RX4 31 "CallNumbers$Plan" "seen" "I", Cond.fieldLink RX4 37 "CallNumbers$Plan" "met" "I", Cond.fieldLink RX4 41 "CallNumbers$Plan" "rings" "I", Cond.fieldLink RX4 9 "CallNumbers$Plan" "ways" "[I", Cond.fieldLink RX4 15 "CallNumbers$Plan" "adds" "[I", Cond.fieldLink RX4 68 "CallNumbers$Plan" "plain" "I", Cond.instanceMethod yX6_init, Cond.code yX6_init cX6_init 1 none, Cond.methodLink RX6 3 objectInit, Cond.instanceMethod objectInit, Cond.code objectInit ⟨#[0xb1]⟩ 1 none, Cond.arrayClass .int, Cond.fieldLink RX6 9 "CallNumbers$Walk" "ended" "[I", Cond.static yX6_goThrough, Cond.code yX6_goThrough cX6_goThrough 5 none, Cond.fieldLink RX6 15 "CallNumbers$Walk" "endedCount" "I", Cond.fieldLink RX6 19 "CallNumbers$Walk" "met" "I", Cond.fieldLink RX6 22 "CallNumbers$Walk" "open" "I", Cond.fieldLink RX6 40 "CallNumbers$Walk" "rings" "I", Cond.static yX7_has, Cond.initialized RX7]
def wsX4_draw_r2 : List Cond := [Cond.code yX7_has cX7_has 2 (some .boolean), Cond.methodLink RX6 43 yX6_goThrough, Cond.methodLink RX6 47 yX6_end, Cond.instanceMethod yX6_end, Cond.selects RX6 yX6_end yX6_end, Cond.code yX6_end cX6_end 2 none, Cond.methodLink RX4 42 yJ7_fill_53178, Cond.static yJ7_fill_53178, Cond.initialized RJ7, Cond.code yJ7_fill_53178 cJ7_fill_53178 4 none, Cond.methodLink RX4 54 yX4_weigh, Cond.instanceMethod yX4_weigh, Cond.selects RX4 yX4_weigh yX4_weigh, Cond.initialized RX4, Cond.code yX4_weigh cX4_weigh 6 none, Cond.fieldLink RX4 78 "CallNumbers$Plan" "anchors" "I", Cond.methodLink RX4 58 yX4_kindOf, Cond.instanceMethod yX4_kindOf, Cond.selects RX4 yX4_kindOf yX4_kindOf, Cond.code yX4_kindOf cX4_kindOf 3 (some .int), Cond.methodLink RX4 65 yX4_waysOfPlainCallsTo, Cond.instanceMethod yX4_waysOfPlainCallsTo, Cond.selects RX4 yX4_waysOfPlainCallsTo yX4_waysOfPlainCallsTo, Cond.code yX4_waysOfPlainCallsTo cX4_waysOfPlainCallsTo 5 (some .int)]
def wsX4_draw : List Cond := .code yX4_draw cX4_draw 5 none :: ((wsX4_draw_r1 ++ wsX4_draw_r2) ++ wsX60 ++ wsX10 ++ wsX40)
def wsJ7_copyOf_59c91 : List Cond := .code yJ7_copyOf_59c91 cJ7_copyOf_59c91 3 (some (.array .int)) :: ([.methodLink RJ7 316 ⟨"[I", "clone", "()Ljava/lang/Object;"⟩, .sameMethod "[I" "java/lang/Object" "clone" "()Ljava/lang/Object;", .native ⟨"java/lang/Object", "clone", "()Ljava/lang/Object;"⟩, .instanceMethod ⟨"java/lang/Object", "clone", "()Ljava/lang/Object;"⟩, .selects "[I" ⟨"[I", "clone", "()Ljava/lang/Object;"⟩ ⟨"java/lang/Object", "clone", "()Ljava/lang/Object;"⟩, .classLink RJ7 317 "[I", .arrayClass .int, .methodLink RJ7 304 Lib.Math.min.name, .static Lib.Math.min.name, .initialized "java/lang/Math", .code Lib.Math.min.name Lib.Math.min.code 2 (some .int), .methodLink RJ7 150 arraycopyName, .native arraycopyName, .static arraycopyName, .initialized "java/lang/System"])
def wsX5_init_r1 : List Cond := [Cond.methodLink RX5 1 objectInit, Cond.instanceMethod objectInit, Cond.code objectInit ⟨#[0xb1]⟩ 1 none, Cond.fieldLink RX5 7 "CallNumbers$Snap" "plan" "I", Cond.fieldLink RX5 13 "CallNumbers$Snap" "here" "I", Cond.fieldLink RX5 21 "CallNumbers$Snap" "pieces" "I", Cond.fieldLink RX5 28 "CallNumbers$Snap" "lastNumber" "I", Cond.fieldLink RX5 43 "CallNumbers$Snap" "row" "[I", Cond.instanceMethod yX2_lastNumber, Cond.initialized RX2, Cond.selects RX2 yX2_lastNumber yX2_lastNumber, Cond.code yX2_lastNumber cX2_lastNumber 1 (some .int), Cond.fieldLink RX2 21 "CallNumbers$Code" "count" "I", Cond.fieldLink RX2 15 "CallNumbers$Code" "number" "[I", Cond.methodLink RX5 37 yJ7_copyOf_59c91, Cond.static yJ7_copyOf_59c91, Cond.initialized RJ7, Cond.code yJ7_copyOf_59c91 cJ7_copyOf_59c91 3 (some (.array .int)), Cond.methodLink RJ7 316 ⟨"[I", "clone", "()Ljava/lang/Object;"⟩, Cond.sameMethod "[I" "java/lang/Object" "clone" "()Ljava/lang/Object;", Cond.native ⟨"java/lang/Object", "clone", "()Ljava/lang/Object;"⟩, Cond.instanceMethod ⟨"java/lang/Object", "clone", "()Ljava/lang/Object;"⟩, Cond.selects "[I" ⟨"[I", "clone", "()Ljava/lang/Object;"⟩ ⟨"java/lang/Object", "clone", "()Ljava/lang/Object;"⟩, Cond.classLink RJ7 317 "[I"]
def wsX5_init_r2 : List Cond := [Cond.arrayClass .int, Cond.methodLink RJ7 304 Lib.Math.min.name, Cond.static Lib.Math.min.name, Cond.initialized "java/lang/Math", Cond.code Lib.Math.min.name Lib.Math.min.code 2 (some .int), Cond.methodLink RJ7 150 arraycopyName, Cond.native arraycopyName, Cond.static arraycopyName, Cond.initialized "java/lang/System"]
def wsX5_init : List Cond := .code yX5_init cX5_init 5 none :: ((wsX5_init_r1 ++ wsX5_init_r2) ++ wsX50 ++ wsX20 ++ wsX00)
def wsX7_init_r1 : List Cond := [Cond.methodLink RX7 1 objectInit, Cond.instanceMethod objectInit, Cond.code objectInit ⟨#[0xb1]⟩ 1 none, Cond.classLink RX7 7 RX1, Cond.instantiable RX1 3, Cond.initialized RX1, Cond.fieldLink RX7 10 "CallNumbers" "calls" "LCallNumbers$Calls;", Cond.classLink RX7 16 RX4, Cond.fieldLink RX7 18 "CallNumbers" "plans" "[LCallNumbers$Plan;", Cond.classLink RX7 22 RX0, Cond.instantiable RX0 2, Cond.initialized RX0, Cond.fieldLink RX7 25 "CallNumbers" "stack" "LCallNumbers$CallStack;", Cond.classLink RX7 29 RX5, Cond.fieldLink RX7 31 "CallNumbers" "snaps" "[LCallNumbers$Snap;", Cond.classLink RX7 35 RX2, Cond.instantiable RX2 4, Cond.initialized RX2, Cond.fieldLink RX7 38 "CallNumbers" "code" "LCallNumbers$Code;", Cond.classLink RX7 42 RX3, Cond.instantiable RX3 2, Cond.initialized RX3, Cond.fieldLink RX7 45 "CallNumbers" "decoder" "LCallNumbers$Decoder;", Cond.fieldLink RX7 49 "CallNumbers" "limit" "I"]
def wsX7_init_r2 : List Cond := [Cond.instantiable RX4 7, Cond.initialized RX4, Cond.fieldLink RX7 54 "CallNumbers" "inForce" "LCallNumbers$Plan;", Cond.fieldLink RX7 62 "CallNumbers" "planCount" "I", Cond.instanceMethod yX1_init, Cond.code yX1_init cX1_init 1 none, Cond.methodLink RX1 3 objectInit, Cond.arrayClass .int, Cond.fieldLink RX1 9 "CallNumbers$Calls" "from" "[I", Cond.fieldLink RX1 15 "CallNumbers$Calls" "to" "[I", Cond.instanceMethod yX0_init, Cond.code yX0_init cX0_init 1 none, Cond.methodLink RX0 3 objectInit, Cond.fieldLink RX0 9 "CallNumbers$CallStack" "row" "[I", Cond.instanceMethod yX2_init, Cond.code yX2_init cX2_init 1 none, Cond.methodLink RX2 3 objectInit, Cond.fieldLink RX2 9 "CallNumbers$Code" "start" "[I", Cond.fieldLink RX2 15 "CallNumbers$Code" "number" "[I", Cond.fieldLink RX2 18 "CallNumbers$Code" "via" "[I", Cond.instanceMethod yX3_init, Cond.code yX3_init cX3_init 1 none, Cond.methodLink RX3 3 objectInit, Cond.fieldLink RX3 9 "CallNumbers$Decoder" "backward" "[I"]
def wsX7_init_r3 : List Cond := [Cond.instanceMethod yX4_init, Cond.code yX4_init cX4_init 1 none, Cond.methodLink RX4 3 objectInit, Cond.fieldLink RX4 9 "CallNumbers$Plan" "ways" "[I", Cond.fieldLink RX4 15 "CallNumbers$Plan" "adds" "[I", Cond.instanceMethod yX4_draw, Cond.selects RX4 yX4_draw yX4_draw, Cond.code yX4_draw cX4_draw 5 none, Cond.classLink RX4 18 RX6, Cond.instantiable RX6 5, Cond.initialized RX6, Cond.fieldLink RX4 31 "CallNumbers$Plan" "seen" "I", Cond.fieldLink RX4 37 "CallNumbers$Plan" "met" "I", Cond.fieldLink RX4 41 "CallNumbers$Plan" "rings" "I", Cond.fieldLink RX4 68 "CallNumbers$Plan" "plain" "I", Cond.instanceMethod yX6_init, Cond.code yX6_init cX6_init 1 none, Cond.methodLink RX6 3 objectInit, Cond.fieldLink RX6 9 "CallNumbers$Walk" "ended" "[I", Cond.static yX6_goThrough, Cond.code yX6_goThrough cX6_goThrough 5 none, Cond.fieldLink RX6 15 "CallNumbers$Walk" "endedCount" "I", Cond.fieldLink RX6 19 "CallNumbers$Walk" "met" "I", Cond.fieldLink RX6 22 "CallNumbers$Walk" "open" "I"]
def wsX7_init_r4 : List Cond := [Cond.fieldLink RX6 40 "CallNumbers$Walk" "rings" "I", Cond.static yX7_has, Cond.initialized RX7, Cond.code yX7_has cX7_has 2 (some .boolean), Cond.methodLink RX6 43 yX6_goThrough, Cond.methodLink RX6 47 yX6_end, Cond.instanceMethod yX6_end, Cond.selects RX6 yX6_end yX6_end, Cond.code yX6_end cX6_end 2 none, Cond.methodLink RX4 42 yJ7_fill_53178, Cond.static yJ7_fill_53178, Cond.initialized RJ7, Cond.code yJ7_fill_53178 cJ7_fill_53178 4 none, Cond.methodLink RX4 54 yX4_weigh, Cond.instanceMethod yX4_weigh, Cond.selects RX4 yX4_weigh yX4_weigh, Cond.code yX4_weigh cX4_weigh 6 none, Cond.fieldLink RX4 78 "CallNumbers$Plan" "anchors" "I", Cond.methodLink RX4 58 yX4_kindOf, Cond.instanceMethod yX4_kindOf, Cond.selects RX4 yX4_kindOf yX4_kindOf, Cond.code yX4_kindOf cX4_kindOf 3 (some .int), Cond.methodLink RX4 65 yX4_waysOfPlainCallsTo, Cond.instanceMethod yX4_waysOfPlainCallsTo]
def wsX7_init_r5 : List Cond := [Cond.selects RX4 yX4_waysOfPlainCallsTo yX4_waysOfPlainCallsTo, Cond.code yX4_waysOfPlainCallsTo cX4_waysOfPlainCallsTo 5 (some .int)]
def wsX7_init : List Cond := .code yX7_init cX7_init 1 none :: ((wsX7_init_r1 ++ (wsX7_init_r2 ++ (wsX7_init_r3 ++ (wsX7_init_r4 ++ wsX7_init_r5)))) ++ wsX10 ++ wsX70 ++ wsX00 ++ wsX20 ++ wsX30 ++ wsX40 ++ wsX60)
def wsX7_isRoutine : List Cond := .code yX7_isRoutine cX7_isRoutine 1 (some .boolean) :: ([])
def wsX7_add : List Cond := .code yX7_add cX7_add 3 (some .int) :: ([.fieldLink RX7 10 "CallNumbers" "calls" "LCallNumbers$Calls;", .methodLink RX7 65 yX7_isRoutine, .static yX7_isRoutine, .initialized RX7, .code yX7_isRoutine cX7_isRoutine 1 (some .boolean)] ++ wsX70 ++ wsX10)
def wsX7_isCall : List Cond := .code yX7_isCall cX7_isCall 2 (some .boolean) :: ([.fieldLink RX7 10 "CallNumbers" "calls" "LCallNumbers$Calls;"] ++ wsX70 ++ wsX10)
def wsX7_ofCall : List Cond := .code yX7_ofCall cX7_ofCall 3 (some .int) :: ([.fieldLink RX7 10 "CallNumbers" "calls" "LCallNumbers$Calls;", .methodLink RX7 79 yX7_isCall, .instanceMethod yX7_isCall, .selects RX7 yX7_isCall yX7_isCall, .initialized RX7, .code yX7_isCall cX7_isCall 2 (some .boolean)] ++ wsX70 ++ wsX10)
def wsX7_limit : List Cond := .code yX7_limit cX7_limit 3 (some .int) :: ([.constant RX7 82 (1000000), .fieldLink RX7 49 "CallNumbers" "limit" "I"] ++ wsX70)
def wsX7_plan_r1 : List Cond := [Cond.fieldLink RX7 62 "CallNumbers" "planCount" "I", Cond.classLink RX7 16 RX4, Cond.instantiable RX4 7, Cond.initialized RX4, Cond.fieldLink RX7 54 "CallNumbers" "inForce" "LCallNumbers$Plan;", Cond.fieldLink RX7 10 "CallNumbers" "calls" "LCallNumbers$Calls;", Cond.fieldLink RX7 49 "CallNumbers" "limit" "I", Cond.fieldLink RX7 18 "CallNumbers" "plans" "[LCallNumbers$Plan;", Cond.instanceMethod yX4_init, Cond.code yX4_init cX4_init 1 none, Cond.methodLink RX4 3 objectInit, Cond.instanceMethod objectInit, Cond.code objectInit ⟨#[0xb1]⟩ 1 none, Cond.arrayClass .int, Cond.fieldLink RX4 9 "CallNumbers$Plan" "ways" "[I", Cond.fieldLink RX4 15 "CallNumbers$Plan" "adds" "[I", Cond.instanceMethod yX4_draw, Cond.selects RX4 yX4_draw yX4_draw, Cond.code yX4_draw cX4_draw 5 none, Cond.classLink RX4 18 RX6, Cond.instantiable RX6 5, Cond.initialized RX6, Cond.fieldLink RX4 31 "CallNumbers$Plan" "seen" "I", Cond.fieldLink RX4 37 "CallNumbers$Plan" "met" "I"]
def wsX7_plan_r2 : List Cond := [Cond.fieldLink RX4 41 "CallNumbers$Plan" "rings" "I", Cond.fieldLink RX4 68 "CallNumbers$Plan" "plain" "I", Cond.instanceMethod yX6_init, Cond.code yX6_init cX6_init 1 none, Cond.methodLink RX6 3 objectInit, Cond.fieldLink RX6 9 "CallNumbers$Walk" "ended" "[I", Cond.static yX6_goThrough, Cond.code yX6_goThrough cX6_goThrough 5 none, Cond.fieldLink RX6 15 "CallNumbers$Walk" "endedCount" "I", Cond.fieldLink RX6 19 "CallNumbers$Walk" "met" "I", Cond.fieldLink RX6 22 "CallNumbers$Walk" "open" "I", Cond.fieldLink RX6 40 "CallNumbers$Walk" "rings" "I", Cond.static yX7_has, Cond.initialized RX7, Cond.code yX7_has cX7_has 2 (some .boolean), Cond.methodLink RX6 43 yX6_goThrough, Cond.methodLink RX6 47 yX6_end, Cond.instanceMethod yX6_end, Cond.selects RX6 yX6_end yX6_end, Cond.code yX6_end cX6_end 2 none, Cond.methodLink RX4 42 yJ7_fill_53178, Cond.static yJ7_fill_53178, Cond.initialized RJ7, Cond.code yJ7_fill_53178 cJ7_fill_53178 4 none]
def wsX7_plan_r3 : List Cond := [Cond.methodLink RX4 54 yX4_weigh, Cond.instanceMethod yX4_weigh, Cond.selects RX4 yX4_weigh yX4_weigh, Cond.code yX4_weigh cX4_weigh 6 none, Cond.fieldLink RX4 78 "CallNumbers$Plan" "anchors" "I", Cond.methodLink RX4 58 yX4_kindOf, Cond.instanceMethod yX4_kindOf, Cond.selects RX4 yX4_kindOf yX4_kindOf, Cond.code yX4_kindOf cX4_kindOf 3 (some .int), Cond.methodLink RX4 65 yX4_waysOfPlainCallsTo, Cond.instanceMethod yX4_waysOfPlainCallsTo, Cond.selects RX4 yX4_waysOfPlainCallsTo yX4_waysOfPlainCallsTo, Cond.code yX4_waysOfPlainCallsTo cX4_waysOfPlainCallsTo 5 (some .int)]
def wsX7_plan : List Cond := .code yX7_plan cX7_plan 1 (some .int) :: ((wsX7_plan_r1 ++ (wsX7_plan_r2 ++ wsX7_plan_r3)) ++ wsX70 ++ wsX40 ++ wsX60 ++ wsX10)
def wsX7_planOf : List Cond := .code yX7_planOf cX7_planOf 2 (some (.object "CallNumbers$Plan")) :: ([.fieldLink RX7 62 "CallNumbers" "planCount" "I", .fieldLink RX7 18 "CallNumbers" "plans" "[LCallNumbers$Plan;"] ++ wsX70)
def wsX7_kind : List Cond := .code yX7_kind cX7_kind 4 (some .int) :: ([.fieldLink RX7 10 "CallNumbers" "calls" "LCallNumbers$Calls;", .methodLink RX7 83 yX7_planOf, .instanceMethod yX7_planOf, .selects RX7 yX7_planOf yX7_planOf, .initialized RX7, .code yX7_planOf cX7_planOf 2 (some (.object "CallNumbers$Plan")), .fieldLink RX7 62 "CallNumbers" "planCount" "I", .fieldLink RX7 18 "CallNumbers" "plans" "[LCallNumbers$Plan;", .methodLink RX7 79 yX7_isCall, .instanceMethod yX7_isCall, .selects RX7 yX7_isCall yX7_isCall, .code yX7_isCall cX7_isCall 2 (some .boolean), .instanceMethod yX4_kindOf, .initialized RX4, .selects RX4 yX4_kindOf yX4_kindOf, .code yX4_kindOf cX4_kindOf 3 (some .int), .fieldLink RX4 41 "CallNumbers$Plan" "rings" "I", .fieldLink RX4 31 "CallNumbers$Plan" "seen" "I", .fieldLink RX4 37 "CallNumbers$Plan" "met" "I", .fieldLink RX4 78 "CallNumbers$Plan" "anchors" "I", .static yX7_has, .code yX7_has cX7_has 2 (some .boolean)] ++ wsX70 ++ wsX10 ++ wsX40)
def wsX7_adds : List Cond := .code yX7_adds cX7_adds 4 (some .int) :: ([.methodLink RX7 83 yX7_planOf, .instanceMethod yX7_planOf, .selects RX7 yX7_planOf yX7_planOf, .initialized RX7, .code yX7_planOf cX7_planOf 2 (some (.object "CallNumbers$Plan")), .fieldLink RX7 62 "CallNumbers" "planCount" "I", .fieldLink RX7 18 "CallNumbers" "plans" "[LCallNumbers$Plan;", .methodLink RX7 79 yX7_isCall, .instanceMethod yX7_isCall, .selects RX7 yX7_isCall yX7_isCall, .code yX7_isCall cX7_isCall 2 (some .boolean), .fieldLink RX7 10 "CallNumbers" "calls" "LCallNumbers$Calls;", .methodLink RX7 94 yX7_has, .static yX7_has, .code yX7_has cX7_has 2 (some .boolean)] ++ wsX40 ++ wsX70 ++ wsX10)
def wsX7_ways : List Cond := .code yX7_ways cX7_ways 4 (some .int) :: ([.methodLink RX7 83 yX7_planOf, .instanceMethod yX7_planOf, .selects RX7 yX7_planOf yX7_planOf, .initialized RX7, .code yX7_planOf cX7_planOf 2 (some (.object "CallNumbers$Plan")), .fieldLink RX7 62 "CallNumbers" "planCount" "I", .fieldLink RX7 18 "CallNumbers" "plans" "[LCallNumbers$Plan;", .methodLink RX7 65 yX7_isRoutine, .static yX7_isRoutine, .code yX7_isRoutine cX7_isRoutine 1 (some .boolean)] ++ wsX40 ++ wsX70)
def wsX7_ofPlan : List Cond := .code yX7_ofPlan cX7_ofPlan 4 (some .int) :: ([.methodLink RX7 83 yX7_planOf, .instanceMethod yX7_planOf, .selects RX7 yX7_planOf yX7_planOf, .initialized RX7, .code yX7_planOf cX7_planOf 2 (some (.object "CallNumbers$Plan")), .fieldLink RX7 62 "CallNumbers" "planCount" "I", .fieldLink RX7 18 "CallNumbers" "plans" "[LCallNumbers$Plan;"] ++ wsX40 ++ wsX70)
def wsX7_decoded_r1 : List Cond := [Cond.constant RX7 113 (1000000000), Cond.fieldLink RX7 45 "CallNumbers" "decoder" "LCallNumbers$Decoder;", Cond.fieldLink RX7 10 "CallNumbers" "calls" "LCallNumbers$Calls;", Cond.methodLink RX7 83 yX7_planOf, Cond.instanceMethod yX7_planOf, Cond.selects RX7 yX7_planOf yX7_planOf, Cond.initialized RX7, Cond.code yX7_planOf cX7_planOf 2 (some (.object "CallNumbers$Plan")), Cond.fieldLink RX7 62 "CallNumbers" "planCount" "I", Cond.fieldLink RX7 18 "CallNumbers" "plans" "[LCallNumbers$Plan;", Cond.methodLink RX7 65 yX7_isRoutine, Cond.static yX7_isRoutine, Cond.code yX7_isRoutine cX7_isRoutine 1 (some .boolean), Cond.instanceMethod yX3_read, Cond.initialized RX3, Cond.selects RX3 yX3_read yX3_read, Cond.code yX3_read cX3_read 10 (some .boolean), Cond.fieldLink RX3 15 "CallNumbers$Decoder" "count" "I", Cond.fieldLink RX3 9 "CallNumbers$Decoder" "backward" "[I", Cond.methodLink RX3 19 yX3_lastCall, Cond.static yX3_lastCall, Cond.code yX3_lastCall cX3_lastCall 6 (some .int), Cond.static yX7_has, Cond.code yX7_has cX7_has 2 (some .boolean)]
def wsX7_decoded_r2 : List Cond := [Cond.instanceMethod yX3_nth, Cond.selects RX3 yX3_nth yX3_nth, Cond.code yX3_nth cX3_nth 2 (some .int)]
def wsX7_decoded : List Cond := .code yX7_decoded cX7_decoded 7 (some .int) :: ((wsX7_decoded_r1 ++ wsX7_decoded_r2) ++ wsX70 ++ wsX30 ++ wsX40 ++ wsX10)
def wsX7_call : List Cond := .code yX7_call cX7_call 2 (some .int) :: ([.fieldLink RX7 10 "CallNumbers" "calls" "LCallNumbers$Calls;", .fieldLink RX7 25 "CallNumbers" "stack" "LCallNumbers$CallStack;", .methodLink RX7 79 yX7_isCall, .instanceMethod yX7_isCall, .selects RX7 yX7_isCall yX7_isCall, .initialized RX7, .code yX7_isCall cX7_isCall 2 (some .boolean), .instanceMethod yX0_here, .initialized RX0, .selects RX0 yX0_here yX0_here, .code yX0_here cX0_here 2 (some .int), .fieldLink RX0 15 "CallNumbers$CallStack" "count" "I", .fieldLink RX0 9 "CallNumbers$CallStack" "row" "[I"] ++ wsX70 ++ wsX10 ++ wsX00)
def wsX7_back : List Cond := .code yX7_back cX7_back 1 (some .int) :: ([.fieldLink RX7 25 "CallNumbers" "stack" "LCallNumbers$CallStack;", .fieldLink RX7 10 "CallNumbers" "calls" "LCallNumbers$Calls;", .instanceMethod yX0_here, .initialized RX0, .selects RX0 yX0_here yX0_here, .code yX0_here cX0_here 2 (some .int), .fieldLink RX0 15 "CallNumbers$CallStack" "count" "I", .fieldLink RX0 9 "CallNumbers$CallStack" "row" "[I"] ++ wsX70 ++ wsX00 ++ wsX10)
def wsX7_running : List Cond := .code yX7_running cX7_running 2 (some .int) :: ([.fieldLink RX7 25 "CallNumbers" "stack" "LCallNumbers$CallStack;"] ++ wsX70 ++ wsX00)
def wsX7_piece : List Cond := .code yX7_piece cX7_piece 5 (some .int) :: ([.fieldLink RX7 38 "CallNumbers" "code" "LCallNumbers$Code;", .fieldLink RX7 10 "CallNumbers" "calls" "LCallNumbers$Calls;", .fieldLink RX7 25 "CallNumbers" "stack" "LCallNumbers$CallStack;", .methodLink RX7 83 yX7_planOf, .instanceMethod yX7_planOf, .selects RX7 yX7_planOf yX7_planOf, .initialized RX7, .code yX7_planOf cX7_planOf 2 (some (.object "CallNumbers$Plan")), .fieldLink RX7 62 "CallNumbers" "planCount" "I", .fieldLink RX7 18 "CallNumbers" "plans" "[LCallNumbers$Plan;", .instanceMethod yX2_write, .initialized RX2, .selects RX2 yX2_write yX2_write, .code yX2_write cX2_write 6 none, .fieldLink RX2 21 "CallNumbers$Code" "count" "I", .fieldLink RX2 15 "CallNumbers$Code" "number" "[I", .fieldLink RX2 18 "CallNumbers$Code" "via" "[I", .methodLink RX2 25 yX2_begin, .instanceMethod yX2_begin, .selects RX2 yX2_begin yX2_begin, .code yX2_begin cX2_begin 2 none, .fieldLink RX2 9 "CallNumbers$Code" "start" "[I", .static yX7_has, .code yX7_has cX7_has 2 (some .boolean)] ++ wsX70 ++ wsX20 ++ wsX00 ++ wsX40 ++ wsX10)
def wsX7_pieces : List Cond := .code yX7_pieces cX7_pieces 3 (some .int) :: ([.fieldLink RX7 38 "CallNumbers" "code" "LCallNumbers$Code;", .fieldLink RX7 10 "CallNumbers" "calls" "LCallNumbers$Calls;", .fieldLink RX7 25 "CallNumbers" "stack" "LCallNumbers$CallStack;", .methodLink RX7 83 yX7_planOf, .instanceMethod yX7_planOf, .selects RX7 yX7_planOf yX7_planOf, .initialized RX7, .code yX7_planOf cX7_planOf 2 (some (.object "CallNumbers$Plan")), .fieldLink RX7 62 "CallNumbers" "planCount" "I", .fieldLink RX7 18 "CallNumbers" "plans" "[LCallNumbers$Plan;", .instanceMethod yX2_write, .initialized RX2, .selects RX2 yX2_write yX2_write, .code yX2_write cX2_write 6 none, .fieldLink RX2 21 "CallNumbers$Code" "count" "I", .fieldLink RX2 15 "CallNumbers$Code" "number" "[I", .fieldLink RX2 18 "CallNumbers$Code" "via" "[I", .methodLink RX2 25 yX2_begin, .instanceMethod yX2_begin, .selects RX2 yX2_begin yX2_begin, .code yX2_begin cX2_begin 2 none, .fieldLink RX2 9 "CallNumbers$Code" "start" "[I", .static yX7_has, .code yX7_has cX7_has 2 (some .boolean)] ++ wsX70 ++ wsX20 ++ wsX00 ++ wsX40 ++ wsX10)
def wsX7_snap_r1 : List Cond := [Cond.fieldLink RX7 145 "CallNumbers" "snapCount" "I", Cond.fieldLink RX7 38 "CallNumbers" "code" "LCallNumbers$Code;", Cond.fieldLink RX7 54 "CallNumbers" "inForce" "LCallNumbers$Plan;", Cond.fieldLink RX7 10 "CallNumbers" "calls" "LCallNumbers$Calls;", Cond.fieldLink RX7 25 "CallNumbers" "stack" "LCallNumbers$CallStack;", Cond.fieldLink RX7 31 "CallNumbers" "snaps" "[LCallNumbers$Snap;", Cond.classLink RX7 29 RX5, Cond.instantiable RX5 5, Cond.initialized RX5, Cond.fieldLink RX7 62 "CallNumbers" "planCount" "I", Cond.instanceMethod yX2_write, Cond.initialized RX2, Cond.selects RX2 yX2_write yX2_write, Cond.code yX2_write cX2_write 6 none, Cond.fieldLink RX2 21 "CallNumbers$Code" "count" "I", Cond.fieldLink RX2 15 "CallNumbers$Code" "number" "[I", Cond.fieldLink RX2 18 "CallNumbers$Code" "via" "[I", Cond.methodLink RX2 25 yX2_begin, Cond.instanceMethod yX2_begin, Cond.selects RX2 yX2_begin yX2_begin, Cond.code yX2_begin cX2_begin 2 none, Cond.fieldLink RX2 9 "CallNumbers$Code" "start" "[I", Cond.static yX7_has, Cond.initialized RX7]
def wsX7_snap_r2 : List Cond := [Cond.code yX7_has cX7_has 2 (some .boolean), Cond.instanceMethod yX0_here, Cond.initialized RX0, Cond.selects RX0 yX0_here yX0_here, Cond.code yX0_here cX0_here 2 (some .int), Cond.fieldLink RX0 15 "CallNumbers$CallStack" "count" "I", Cond.fieldLink RX0 9 "CallNumbers$CallStack" "row" "[I", Cond.instanceMethod yX5_init, Cond.code yX5_init cX5_init 5 none, Cond.methodLink RX5 1 objectInit, Cond.instanceMethod objectInit, Cond.code objectInit ⟨#[0xb1]⟩ 1 none, Cond.fieldLink RX5 7 "CallNumbers$Snap" "plan" "I", Cond.fieldLink RX5 13 "CallNumbers$Snap" "here" "I", Cond.fieldLink RX5 21 "CallNumbers$Snap" "pieces" "I", Cond.fieldLink RX5 28 "CallNumbers$Snap" "lastNumber" "I", Cond.fieldLink RX5 43 "CallNumbers$Snap" "row" "[I", Cond.instanceMethod yX2_lastNumber, Cond.selects RX2 yX2_lastNumber yX2_lastNumber, Cond.code yX2_lastNumber cX2_lastNumber 1 (some .int), Cond.methodLink RX5 37 yJ7_copyOf_59c91, Cond.static yJ7_copyOf_59c91, Cond.initialized RJ7, Cond.code yJ7_copyOf_59c91 cJ7_copyOf_59c91 3 (some (.array .int))]
def wsX7_snap_r3 : List Cond := [Cond.methodLink RJ7 316 ⟨"[I", "clone", "()Ljava/lang/Object;"⟩, Cond.sameMethod "[I" "java/lang/Object" "clone" "()Ljava/lang/Object;", Cond.native ⟨"java/lang/Object", "clone", "()Ljava/lang/Object;"⟩, Cond.instanceMethod ⟨"java/lang/Object", "clone", "()Ljava/lang/Object;"⟩, Cond.selects "[I" ⟨"[I", "clone", "()Ljava/lang/Object;"⟩ ⟨"java/lang/Object", "clone", "()Ljava/lang/Object;"⟩, Cond.classLink RJ7 317 "[I", Cond.arrayClass .int, Cond.methodLink RJ7 304 Lib.Math.min.name, Cond.static Lib.Math.min.name, Cond.initialized "java/lang/Math", Cond.code Lib.Math.min.name Lib.Math.min.code 2 (some .int), Cond.methodLink RJ7 150 arraycopyName, Cond.native arraycopyName, Cond.static arraycopyName, Cond.initialized "java/lang/System"]
def wsX7_snap : List Cond := .code yX7_snap cX7_snap 1 (some .int) :: ((wsX7_snap_r1 ++ (wsX7_snap_r2 ++ wsX7_snap_r3)) ++ wsX70 ++ wsX50 ++ wsX20 ++ wsX00 ++ wsX40 ++ wsX10)
def wsX7_snapOf : List Cond := .code yX7_snapOf cX7_snapOf 2 (some (.object "CallNumbers$Snap")) :: ([.fieldLink RX7 145 "CallNumbers" "snapCount" "I", .fieldLink RX7 31 "CallNumbers" "snaps" "[LCallNumbers$Snap;"] ++ wsX70)
def wsX7_ofSnap : List Cond := .code yX7_ofSnap cX7_ofSnap 4 (some .int) :: ([.methodLink RX7 151 yX7_snapOf, .instanceMethod yX7_snapOf, .selects RX7 yX7_snapOf yX7_snapOf, .initialized RX7, .code yX7_snapOf cX7_snapOf 2 (some (.object "CallNumbers$Snap")), .fieldLink RX7 145 "CallNumbers" "snapCount" "I", .fieldLink RX7 31 "CallNumbers" "snaps" "[LCallNumbers$Snap;"] ++ wsX50 ++ wsX70)
def wsX7_snapped : List Cond := .code yX7_snapped cX7_snapped 4 (some .int) :: ([.methodLink RX7 151 yX7_snapOf, .instanceMethod yX7_snapOf, .selects RX7 yX7_snapOf yX7_snapOf, .initialized RX7, .code yX7_snapOf cX7_snapOf 2 (some (.object "CallNumbers$Snap")), .fieldLink RX7 145 "CallNumbers" "snapCount" "I", .fieldLink RX7 31 "CallNumbers" "snaps" "[LCallNumbers$Snap;"] ++ wsX50 ++ wsX70)
def wsX7_sameRows : List Cond := .code yX7_sameRows cX7_sameRows 3 (some .boolean) :: ([])
def wsX7_same : List Cond := .code yX7_same cX7_same 5 (some .int) :: ([.methodLink RX7 151 yX7_snapOf, .instanceMethod yX7_snapOf, .selects RX7 yX7_snapOf yX7_snapOf, .initialized RX7, .code yX7_snapOf cX7_snapOf 2 (some (.object "CallNumbers$Snap")), .fieldLink RX7 145 "CallNumbers" "snapCount" "I", .fieldLink RX7 31 "CallNumbers" "snaps" "[LCallNumbers$Snap;", .methodLink RX7 167 yX7_sameRows, .static yX7_sameRows, .code yX7_sameRows cX7_sameRows 3 (some .boolean)] ++ wsX50 ++ wsX70)
def wsX7_many : List Cond := .code yX7_many cX7_many 2 (some .int) :: ([.fieldLink RX7 10 "CallNumbers" "calls" "LCallNumbers$Calls;", .fieldLink RX7 62 "CallNumbers" "planCount" "I", .fieldLink RX7 25 "CallNumbers" "stack" "LCallNumbers$CallStack;", .fieldLink RX7 145 "CallNumbers" "snapCount" "I", .fieldLink RX7 49 "CallNumbers" "limit" "I", .instanceMethod yX0_here, .initialized RX0, .selects RX0 yX0_here yX0_here, .code yX0_here cX0_here 2 (some .int), .fieldLink RX0 15 "CallNumbers$CallStack" "count" "I", .fieldLink RX0 9 "CallNumbers$CallStack" "row" "[I"] ++ wsX70 ++ wsX10 ++ wsX00)
def wsX8_comesTo : List Cond := .code yX8_comesTo cX8_comesTo 3 none :: ([.fieldLink RX8 23 "CallNumbersModel" "metOf" "[I", .fieldLink RX8 92 "CallNumbersModel" "goingSet" "I", .fieldLink RX8 41 "CallNumbersModel" "going" "[I", .fieldLink RX8 95 "CallNumbersModel" "goingMany" "I", .fieldLink RX8 44 "CallNumbersModel" "nextOf" "[I"] ++ wsX80)
def wsX8_has : List Cond := .code yX8_has cX8_has 2 (some .boolean) :: ([])
def wsX8_goesAlong : List Cond := .code yX8_goesAlong cX8_goesAlong 3 none :: ([.fieldLink RX8 92 "CallNumbersModel" "goingSet" "I", .fieldLink RX8 13 "CallNumbersModel" "toOf" "[I", .fieldLink RX8 29 "CallNumbersModel" "ringsOf" "[I", .fieldLink RX8 23 "CallNumbersModel" "metOf" "[I", .methodLink RX8 105 yX8_has, .static yX8_has, .initialized RX8, .code yX8_has cX8_has 2 (some .boolean), .methodLink RX8 98 yX8_comesTo, .instanceMethod yX8_comesTo, .selects RX8 yX8_comesTo yX8_comesTo, .code yX8_comesTo cX8_comesTo 3 none, .fieldLink RX8 41 "CallNumbersModel" "going" "[I", .fieldLink RX8 95 "CallNumbersModel" "goingMany" "I", .fieldLink RX8 44 "CallNumbersModel" "nextOf" "[I"] ++ wsX80)
def wsX8_goesThrough : List Cond := .code yX8_goesThrough cX8_goesThrough 4 none :: ([.fieldLink RX8 95 "CallNumbersModel" "goingMany" "I", .fieldLink RX8 92 "CallNumbersModel" "goingSet" "I", .fieldLink RX8 41 "CallNumbersModel" "going" "[I", .fieldLink RX8 44 "CallNumbersModel" "nextOf" "[I", .fieldLink RX8 78 "CallNumbersModel" "calls" "I", .fieldLink RX8 7 "CallNumbersModel" "fromOf" "[I", .methodLink RX8 98 yX8_comesTo, .instanceMethod yX8_comesTo, .selects RX8 yX8_comesTo yX8_comesTo, .initialized RX8, .code yX8_comesTo cX8_comesTo 3 none, .fieldLink RX8 23 "CallNumbersModel" "metOf" "[I", .methodLink RX8 102 yX8_goesAlong, .instanceMethod yX8_goesAlong, .selects RX8 yX8_goesAlong yX8_goesAlong, .code yX8_goesAlong cX8_goesAlong 3 none, .fieldLink RX8 13 "CallNumbersModel" "toOf" "[I", .fieldLink RX8 29 "CallNumbersModel" "ringsOf" "[I", .methodLink RX8 105 yX8_has, .static yX8_has, .code yX8_has cX8_has 2 (some .boolean)] ++ wsX80)
def wsX8_counts : List Cond := .code yX8_counts cX8_counts 3 (some .boolean) :: ([.fieldLink RX8 20 "CallNumbersModel" "callsOf" "[I", .fieldLink RX8 23 "CallNumbersModel" "metOf" "[I", .fieldLink RX8 7 "CallNumbersModel" "fromOf" "[I", .fieldLink RX8 29 "CallNumbersModel" "ringsOf" "[I", .methodLink RX8 105 yX8_has, .static yX8_has, .initialized RX8, .code yX8_has cX8_has 2 (some .boolean)] ++ wsX80)
def wsX8_getsWays : List Cond := .code yX8_getsWays cX8_getsWays 6 (some .boolean) :: ([.fieldLink RX8 20 "CallNumbersModel" "callsOf" "[I", .fieldLink RX8 13 "CallNumbersModel" "toOf" "[I", .fieldLink RX8 7 "CallNumbersModel" "fromOf" "[I", .fieldLink RX8 35 "CallNumbersModel" "waysOf" "[I", .fieldLink RX8 26 "CallNumbersModel" "anchorsOf" "[I", .fieldLink RX8 16 "CallNumbersModel" "limitNow" "I", .methodLink RX8 109 yX8_counts, .instanceMethod yX8_counts, .selects RX8 yX8_counts yX8_counts, .initialized RX8, .code yX8_counts cX8_counts 3 (some .boolean), .fieldLink RX8 23 "CallNumbersModel" "metOf" "[I", .fieldLink RX8 29 "CallNumbersModel" "ringsOf" "[I", .methodLink RX8 105 yX8_has, .static yX8_has, .code yX8_has cX8_has 2 (some .boolean)] ++ wsX80)
def wsX8_findWays : List Cond := .code yX8_findWays cX8_findWays 4 none :: ([.fieldLink RX8 35 "CallNumbersModel" "waysOf" "[I", .fieldLink RX8 23 "CallNumbersModel" "metOf" "[I", .methodLink RX8 105 yX8_has, .static yX8_has, .initialized RX8, .code yX8_has cX8_has 2 (some .boolean), .methodLink RX8 112 yX8_getsWays, .instanceMethod yX8_getsWays, .selects RX8 yX8_getsWays yX8_getsWays, .code yX8_getsWays cX8_getsWays 6 (some .boolean), .fieldLink RX8 20 "CallNumbersModel" "callsOf" "[I", .fieldLink RX8 13 "CallNumbersModel" "toOf" "[I", .fieldLink RX8 7 "CallNumbersModel" "fromOf" "[I", .fieldLink RX8 26 "CallNumbersModel" "anchorsOf" "[I", .fieldLink RX8 16 "CallNumbersModel" "limitNow" "I", .methodLink RX8 109 yX8_counts, .instanceMethod yX8_counts, .selects RX8 yX8_counts yX8_counts, .code yX8_counts cX8_counts 3 (some .boolean), .fieldLink RX8 29 "CallNumbersModel" "ringsOf" "[I"] ++ wsX80)
def wsX8_findAdds : List Cond := .code yX8_findAdds cX8_findAdds 6 none :: ([.fieldLink RX8 20 "CallNumbersModel" "callsOf" "[I", .fieldLink RX8 26 "CallNumbersModel" "anchorsOf" "[I", .fieldLink RX8 13 "CallNumbersModel" "toOf" "[I", .fieldLink RX8 32 "CallNumbersModel" "plainOf" "[I", .fieldLink RX8 35 "CallNumbersModel" "waysOf" "[I", .fieldLink RX8 7 "CallNumbersModel" "fromOf" "[I", .fieldLink RX8 38 "CallNumbersModel" "addOf" "[I", .methodLink RX8 109 yX8_counts, .instanceMethod yX8_counts, .selects RX8 yX8_counts yX8_counts, .initialized RX8, .code yX8_counts cX8_counts 3 (some .boolean), .fieldLink RX8 23 "CallNumbersModel" "metOf" "[I", .fieldLink RX8 29 "CallNumbersModel" "ringsOf" "[I", .methodLink RX8 105 yX8_has, .static yX8_has, .code yX8_has cX8_has 2 (some .boolean)] ++ wsX80)
def wsX8_makesPlan_r1 : List Cond := [Cond.fieldLink RX8 20 "CallNumbersModel" "callsOf" "[I", Cond.fieldLink RX8 89 "CallNumbersModel" "plans" "I", Cond.fieldLink RX8 78 "CallNumbersModel" "calls" "I", Cond.methodLink RX8 115 yX8_goesThrough, Cond.instanceMethod yX8_goesThrough, Cond.selects RX8 yX8_goesThrough yX8_goesThrough, Cond.initialized RX8, Cond.code yX8_goesThrough cX8_goesThrough 4 none, Cond.fieldLink RX8 95 "CallNumbersModel" "goingMany" "I", Cond.fieldLink RX8 92 "CallNumbersModel" "goingSet" "I", Cond.fieldLink RX8 41 "CallNumbersModel" "going" "[I", Cond.fieldLink RX8 44 "CallNumbersModel" "nextOf" "[I", Cond.fieldLink RX8 7 "CallNumbersModel" "fromOf" "[I", Cond.methodLink RX8 98 yX8_comesTo, Cond.instanceMethod yX8_comesTo, Cond.selects RX8 yX8_comesTo yX8_comesTo, Cond.code yX8_comesTo cX8_comesTo 3 none, Cond.fieldLink RX8 23 "CallNumbersModel" "metOf" "[I", Cond.methodLink RX8 102 yX8_goesAlong, Cond.instanceMethod yX8_goesAlong, Cond.selects RX8 yX8_goesAlong yX8_goesAlong, Cond.code yX8_goesAlong cX8_goesAlong 3 none, Cond.fieldLink RX8 13 "CallNumbersModel" "toOf" "[I", Cond.fieldLink RX8 29 "CallNumbersModel" "ringsOf" "[I"]
def wsX8_makesPlan_r2 : List Cond := [Cond.methodLink RX8 105 yX8_has, Cond.static yX8_has, Cond.code yX8_has cX8_has 2 (some .boolean), Cond.methodLink RX8 119 yX8_findWays, Cond.instanceMethod yX8_findWays, Cond.selects RX8 yX8_findWays yX8_findWays, Cond.code yX8_findWays cX8_findWays 4 none, Cond.fieldLink RX8 35 "CallNumbersModel" "waysOf" "[I", Cond.methodLink RX8 112 yX8_getsWays, Cond.instanceMethod yX8_getsWays, Cond.selects RX8 yX8_getsWays yX8_getsWays, Cond.code yX8_getsWays cX8_getsWays 6 (some .boolean), Cond.fieldLink RX8 26 "CallNumbersModel" "anchorsOf" "[I", Cond.fieldLink RX8 16 "CallNumbersModel" "limitNow" "I", Cond.methodLink RX8 109 yX8_counts, Cond.instanceMethod yX8_counts, Cond.selects RX8 yX8_counts yX8_counts, Cond.code yX8_counts cX8_counts 3 (some .boolean), Cond.methodLink RX8 122 yX8_findAdds, Cond.instanceMethod yX8_findAdds, Cond.selects RX8 yX8_findAdds yX8_findAdds, Cond.code yX8_findAdds cX8_findAdds 6 none, Cond.fieldLink RX8 32 "CallNumbersModel" "plainOf" "[I", Cond.fieldLink RX8 38 "CallNumbersModel" "addOf" "[I"]
def wsX8_makesPlan : List Cond := .code yX8_makesPlan cX8_makesPlan 1 none :: ((wsX8_makesPlan_r1 ++ wsX8_makesPlan_r2) ++ wsX80)
def wsX8_init_r1 : List Cond := [Cond.methodLink RX8 1 objectInit, Cond.instanceMethod objectInit, Cond.code objectInit ⟨#[0xb1]⟩ 1 none, Cond.arrayClass .int, Cond.fieldLink RX8 7 "CallNumbersModel" "fromOf" "[I", Cond.fieldLink RX8 13 "CallNumbersModel" "toOf" "[I", Cond.fieldLink RX8 16 "CallNumbersModel" "limitNow" "I", Cond.fieldLink RX8 20 "CallNumbersModel" "callsOf" "[I", Cond.fieldLink RX8 23 "CallNumbersModel" "metOf" "[I", Cond.fieldLink RX8 26 "CallNumbersModel" "anchorsOf" "[I", Cond.fieldLink RX8 29 "CallNumbersModel" "ringsOf" "[I", Cond.fieldLink RX8 32 "CallNumbersModel" "plainOf" "[I", Cond.fieldLink RX8 35 "CallNumbersModel" "waysOf" "[I", Cond.fieldLink RX8 38 "CallNumbersModel" "addOf" "[I", Cond.fieldLink RX8 41 "CallNumbersModel" "going" "[I", Cond.fieldLink RX8 44 "CallNumbersModel" "nextOf" "[I", Cond.fieldLink RX8 47 "CallNumbersModel" "decodedCall" "[I", Cond.fieldLink RX8 50 "CallNumbersModel" "stack" "[I", Cond.fieldLink RX8 53 "CallNumbersModel" "startOf" "[I", Cond.fieldLink RX8 56 "CallNumbersModel" "numberOf" "[I", Cond.fieldLink RX8 59 "CallNumbersModel" "viaOf" "[I", Cond.fieldLink RX8 62 "CallNumbersModel" "snapPlan" "[I", Cond.fieldLink RX8 65 "CallNumbersModel" "snapDeep" "[I", Cond.fieldLink RX8 68 "CallNumbersModel" "snapStack" "[I"]
def wsX8_init_r2 : List Cond := [Cond.methodLink RX8 71 yX8_makesPlan, Cond.instanceMethod yX8_makesPlan, Cond.selects RX8 yX8_makesPlan yX8_makesPlan, Cond.initialized RX8, Cond.code yX8_makesPlan cX8_makesPlan 1 none, Cond.fieldLink RX8 89 "CallNumbersModel" "plans" "I", Cond.fieldLink RX8 78 "CallNumbersModel" "calls" "I", Cond.methodLink RX8 115 yX8_goesThrough, Cond.instanceMethod yX8_goesThrough, Cond.selects RX8 yX8_goesThrough yX8_goesThrough, Cond.code yX8_goesThrough cX8_goesThrough 4 none, Cond.fieldLink RX8 95 "CallNumbersModel" "goingMany" "I", Cond.fieldLink RX8 92 "CallNumbersModel" "goingSet" "I", Cond.methodLink RX8 98 yX8_comesTo, Cond.instanceMethod yX8_comesTo, Cond.selects RX8 yX8_comesTo yX8_comesTo, Cond.code yX8_comesTo cX8_comesTo 3 none, Cond.methodLink RX8 102 yX8_goesAlong, Cond.instanceMethod yX8_goesAlong, Cond.selects RX8 yX8_goesAlong yX8_goesAlong, Cond.code yX8_goesAlong cX8_goesAlong 3 none, Cond.methodLink RX8 105 yX8_has, Cond.static yX8_has, Cond.code yX8_has cX8_has 2 (some .boolean)]
def wsX8_init_r3 : List Cond := [Cond.methodLink RX8 119 yX8_findWays, Cond.instanceMethod yX8_findWays, Cond.selects RX8 yX8_findWays yX8_findWays, Cond.code yX8_findWays cX8_findWays 4 none, Cond.methodLink RX8 112 yX8_getsWays, Cond.instanceMethod yX8_getsWays, Cond.selects RX8 yX8_getsWays yX8_getsWays, Cond.code yX8_getsWays cX8_getsWays 6 (some .boolean), Cond.methodLink RX8 109 yX8_counts, Cond.instanceMethod yX8_counts, Cond.selects RX8 yX8_counts yX8_counts, Cond.code yX8_counts cX8_counts 3 (some .boolean), Cond.methodLink RX8 122 yX8_findAdds, Cond.instanceMethod yX8_findAdds, Cond.selects RX8 yX8_findAdds yX8_findAdds, Cond.code yX8_findAdds cX8_findAdds 6 none]
def wsX8_init : List Cond := .code yX8_init cX8_init 1 none :: ((wsX8_init_r1 ++ (wsX8_init_r2 ++ wsX8_init_r3)) ++ wsX80)
def wsX8_within : List Cond := .code yX8_within cX8_within 3 (some .boolean) :: ([])
def wsX8_isRoutine : List Cond := .code yX8_isRoutine cX8_isRoutine 1 (some .boolean) :: ([.methodLink RX8 74 yX8_within, .static yX8_within, .initialized RX8, .code yX8_within cX8_within 3 (some .boolean)])
def wsX8_isCall : List Cond := .code yX8_isCall cX8_isCall 2 (some .boolean) :: ([.fieldLink RX8 78 "CallNumbersModel" "calls" "I", .methodLink RX8 74 yX8_within, .static yX8_within, .initialized RX8, .code yX8_within cX8_within 3 (some .boolean)] ++ wsX80)
def wsX8_add : List Cond := .code yX8_add cX8_add 3 (some .int) :: ([.fieldLink RX8 78 "CallNumbersModel" "calls" "I", .fieldLink RX8 7 "CallNumbersModel" "fromOf" "[I", .fieldLink RX8 13 "CallNumbersModel" "toOf" "[I", .methodLink RX8 81 yX8_isRoutine, .static yX8_isRoutine, .initialized RX8, .code yX8_isRoutine cX8_isRoutine 1 (some .boolean), .methodLink RX8 74 yX8_within, .static yX8_within, .code yX8_within cX8_within 3 (some .boolean)] ++ wsX80)
def wsX8_ofCall : List Cond := .code yX8_ofCall cX8_ofCall 3 (some .int) :: ([.fieldLink RX8 7 "CallNumbersModel" "fromOf" "[I", .fieldLink RX8 13 "CallNumbersModel" "toOf" "[I", .methodLink RX8 85 yX8_isCall, .instanceMethod yX8_isCall, .selects RX8 yX8_isCall yX8_isCall, .initialized RX8, .code yX8_isCall cX8_isCall 2 (some .boolean), .fieldLink RX8 78 "CallNumbersModel" "calls" "I", .methodLink RX8 74 yX8_within, .static yX8_within, .code yX8_within cX8_within 3 (some .boolean)] ++ wsX80)
def wsX8_limit : List Cond := .code yX8_limit cX8_limit 3 (some .int) :: ([.constant RX8 88 (1000000), .fieldLink RX8 16 "CallNumbersModel" "limitNow" "I", .methodLink RX8 74 yX8_within, .static yX8_within, .initialized RX8, .code yX8_within cX8_within 3 (some .boolean)] ++ wsX80)
def wsX8_isPlan : List Cond := .code yX8_isPlan cX8_isPlan 2 (some .boolean) :: ([.fieldLink RX8 89 "CallNumbersModel" "plans" "I", .methodLink RX8 74 yX8_within, .static yX8_within, .initialized RX8, .code yX8_within cX8_within 3 (some .boolean)] ++ wsX80)
def wsX8_plan_r1 : List Cond := [Cond.fieldLink RX8 89 "CallNumbersModel" "plans" "I", Cond.methodLink RX8 71 yX8_makesPlan, Cond.instanceMethod yX8_makesPlan, Cond.selects RX8 yX8_makesPlan yX8_makesPlan, Cond.initialized RX8, Cond.code yX8_makesPlan cX8_makesPlan 1 none, Cond.fieldLink RX8 20 "CallNumbersModel" "callsOf" "[I", Cond.fieldLink RX8 78 "CallNumbersModel" "calls" "I", Cond.methodLink RX8 115 yX8_goesThrough, Cond.instanceMethod yX8_goesThrough, Cond.selects RX8 yX8_goesThrough yX8_goesThrough, Cond.code yX8_goesThrough cX8_goesThrough 4 none, Cond.fieldLink RX8 95 "CallNumbersModel" "goingMany" "I", Cond.fieldLink RX8 92 "CallNumbersModel" "goingSet" "I", Cond.fieldLink RX8 41 "CallNumbersModel" "going" "[I", Cond.fieldLink RX8 44 "CallNumbersModel" "nextOf" "[I", Cond.fieldLink RX8 7 "CallNumbersModel" "fromOf" "[I", Cond.methodLink RX8 98 yX8_comesTo, Cond.instanceMethod yX8_comesTo, Cond.selects RX8 yX8_comesTo yX8_comesTo, Cond.code yX8_comesTo cX8_comesTo 3 none, Cond.fieldLink RX8 23 "CallNumbersModel" "metOf" "[I", Cond.methodLink RX8 102 yX8_goesAlong, Cond.instanceMethod yX8_goesAlong]
def wsX8_plan_r2 : List Cond := [Cond.selects RX8 yX8_goesAlong yX8_goesAlong, Cond.code yX8_goesAlong cX8_goesAlong 3 none, Cond.fieldLink RX8 13 "CallNumbersModel" "toOf" "[I", Cond.fieldLink RX8 29 "CallNumbersModel" "ringsOf" "[I", Cond.methodLink RX8 105 yX8_has, Cond.static yX8_has, Cond.code yX8_has cX8_has 2 (some .boolean), Cond.methodLink RX8 119 yX8_findWays, Cond.instanceMethod yX8_findWays, Cond.selects RX8 yX8_findWays yX8_findWays, Cond.code yX8_findWays cX8_findWays 4 none, Cond.fieldLink RX8 35 "CallNumbersModel" "waysOf" "[I", Cond.methodLink RX8 112 yX8_getsWays, Cond.instanceMethod yX8_getsWays, Cond.selects RX8 yX8_getsWays yX8_getsWays, Cond.code yX8_getsWays cX8_getsWays 6 (some .boolean), Cond.fieldLink RX8 26 "CallNumbersModel" "anchorsOf" "[I", Cond.fieldLink RX8 16 "CallNumbersModel" "limitNow" "I", Cond.methodLink RX8 109 yX8_counts, Cond.instanceMethod yX8_counts, Cond.selects RX8 yX8_counts yX8_counts, Cond.code yX8_counts cX8_counts 3 (some .boolean), Cond.methodLink RX8 122 yX8_findAdds, Cond.instanceMethod yX8_findAdds]
def wsX8_plan_r3 : List Cond := [Cond.selects RX8 yX8_findAdds yX8_findAdds, Cond.code yX8_findAdds cX8_findAdds 6 none, Cond.fieldLink RX8 32 "CallNumbersModel" "plainOf" "[I", Cond.fieldLink RX8 38 "CallNumbersModel" "addOf" "[I"]
def wsX8_plan : List Cond := .code yX8_plan cX8_plan 1 (some .int) :: ((wsX8_plan_r1 ++ (wsX8_plan_r2 ++ wsX8_plan_r3)) ++ wsX80)
def wsX8_isPlain : List Cond := .code yX8_isPlain cX8_isPlain 3 (some .boolean) :: ([.fieldLink RX8 32 "CallNumbersModel" "plainOf" "[I", .methodLink RX8 105 yX8_has, .static yX8_has, .initialized RX8, .code yX8_has cX8_has 2 (some .boolean)] ++ wsX80)
def wsX8_kind : List Cond := .code yX8_kind cX8_kind 3 (some .int) :: ([.fieldLink RX8 29 "CallNumbersModel" "ringsOf" "[I", .fieldLink RX8 20 "CallNumbersModel" "callsOf" "[I", .fieldLink RX8 23 "CallNumbersModel" "metOf" "[I", .fieldLink RX8 7 "CallNumbersModel" "fromOf" "[I", .fieldLink RX8 26 "CallNumbersModel" "anchorsOf" "[I", .fieldLink RX8 13 "CallNumbersModel" "toOf" "[I", .methodLink RX8 125 yX8_isPlan, .instanceMethod yX8_isPlan, .selects RX8 yX8_isPlan yX8_isPlan, .initialized RX8, .code yX8_isPlan cX8_isPlan 2 (some .boolean), .fieldLink RX8 89 "CallNumbersModel" "plans" "I", .methodLink RX8 74 yX8_within, .static yX8_within, .code yX8_within cX8_within 3 (some .boolean), .methodLink RX8 85 yX8_isCall, .instanceMethod yX8_isCall, .selects RX8 yX8_isCall yX8_isCall, .code yX8_isCall cX8_isCall 2 (some .boolean), .fieldLink RX8 78 "CallNumbersModel" "calls" "I", .methodLink RX8 105 yX8_has, .static yX8_has, .code yX8_has cX8_has 2 (some .boolean)] ++ wsX80)
def wsX8_adds : List Cond := .code yX8_adds cX8_adds 3 (some .int) :: ([.fieldLink RX8 38 "CallNumbersModel" "addOf" "[I", .methodLink RX8 125 yX8_isPlan, .instanceMethod yX8_isPlan, .selects RX8 yX8_isPlan yX8_isPlan, .initialized RX8, .code yX8_isPlan cX8_isPlan 2 (some .boolean), .fieldLink RX8 89 "CallNumbersModel" "plans" "I", .methodLink RX8 74 yX8_within, .static yX8_within, .code yX8_within cX8_within 3 (some .boolean), .methodLink RX8 85 yX8_isCall, .instanceMethod yX8_isCall, .selects RX8 yX8_isCall yX8_isCall, .code yX8_isCall cX8_isCall 2 (some .boolean), .fieldLink RX8 78 "CallNumbersModel" "calls" "I", .methodLink RX8 128 yX8_isPlain, .instanceMethod yX8_isPlain, .selects RX8 yX8_isPlain yX8_isPlain, .code yX8_isPlain cX8_isPlain 3 (some .boolean), .fieldLink RX8 32 "CallNumbersModel" "plainOf" "[I", .methodLink RX8 105 yX8_has, .static yX8_has, .code yX8_has cX8_has 2 (some .boolean)] ++ wsX80)
def wsX8_ways : List Cond := .code yX8_ways cX8_ways 3 (some .int) :: ([.fieldLink RX8 35 "CallNumbersModel" "waysOf" "[I", .methodLink RX8 125 yX8_isPlan, .instanceMethod yX8_isPlan, .selects RX8 yX8_isPlan yX8_isPlan, .initialized RX8, .code yX8_isPlan cX8_isPlan 2 (some .boolean), .fieldLink RX8 89 "CallNumbersModel" "plans" "I", .methodLink RX8 74 yX8_within, .static yX8_within, .code yX8_within cX8_within 3 (some .boolean), .methodLink RX8 81 yX8_isRoutine, .static yX8_isRoutine, .code yX8_isRoutine cX8_isRoutine 1 (some .boolean)] ++ wsX80)
def wsX8_ofPlan : List Cond := .code yX8_ofPlan cX8_ofPlan 3 (some .int) :: ([.fieldLink RX8 23 "CallNumbersModel" "metOf" "[I", .fieldLink RX8 26 "CallNumbersModel" "anchorsOf" "[I", .fieldLink RX8 29 "CallNumbersModel" "ringsOf" "[I", .fieldLink RX8 32 "CallNumbersModel" "plainOf" "[I", .methodLink RX8 125 yX8_isPlan, .instanceMethod yX8_isPlan, .selects RX8 yX8_isPlan yX8_isPlan, .initialized RX8, .code yX8_isPlan cX8_isPlan 2 (some .boolean), .fieldLink RX8 89 "CallNumbersModel" "plans" "I", .methodLink RX8 74 yX8_within, .static yX8_within, .code yX8_within cX8_within 3 (some .boolean)] ++ wsX80)
def wsX8_lastTo : List Cond := .code yX8_lastTo cX8_lastTo 6 (some .int) :: ([.fieldLink RX8 20 "CallNumbersModel" "callsOf" "[I", .fieldLink RX8 38 "CallNumbersModel" "addOf" "[I", .fieldLink RX8 13 "CallNumbersModel" "toOf" "[I", .fieldLink RX8 35 "CallNumbersModel" "waysOf" "[I", .fieldLink RX8 7 "CallNumbersModel" "fromOf" "[I", .methodLink RX8 128 yX8_isPlain, .instanceMethod yX8_isPlain, .selects RX8 yX8_isPlain yX8_isPlain, .initialized RX8, .code yX8_isPlain cX8_isPlain 3 (some .boolean), .fieldLink RX8 32 "CallNumbersModel" "plainOf" "[I", .methodLink RX8 105 yX8_has, .static yX8_has, .code yX8_has cX8_has 2 (some .boolean), .methodLink RX8 74 yX8_within, .static yX8_within, .code yX8_within cX8_within 3 (some .boolean)] ++ wsX80)
def wsX8_decodes : List Cond := .code yX8_decodes cX8_decodes 8 (some .boolean) :: ([.fieldLink RX8 131 "CallNumbersModel" "decodedMany" "I", .fieldLink RX8 47 "CallNumbersModel" "decodedCall" "[I", .fieldLink RX8 38 "CallNumbersModel" "addOf" "[I", .fieldLink RX8 7 "CallNumbersModel" "fromOf" "[I", .methodLink RX8 134 yX8_lastTo, .instanceMethod yX8_lastTo, .selects RX8 yX8_lastTo yX8_lastTo, .initialized RX8, .code yX8_lastTo cX8_lastTo 6 (some .int), .fieldLink RX8 20 "CallNumbersModel" "callsOf" "[I", .fieldLink RX8 13 "CallNumbersModel" "toOf" "[I", .fieldLink RX8 35 "CallNumbersModel" "waysOf" "[I", .methodLink RX8 128 yX8_isPlain, .instanceMethod yX8_isPlain, .selects RX8 yX8_isPlain yX8_isPlain, .code yX8_isPlain cX8_isPlain 3 (some .boolean), .fieldLink RX8 32 "CallNumbersModel" "plainOf" "[I", .methodLink RX8 105 yX8_has, .static yX8_has, .code yX8_has cX8_has 2 (some .boolean), .methodLink RX8 74 yX8_within, .static yX8_within, .code yX8_within cX8_within 3 (some .boolean)] ++ wsX80)
def wsX8_decoded_r1 : List Cond := [Cond.constant RX8 138 (1000000000), Cond.fieldLink RX8 131 "CallNumbersModel" "decodedMany" "I", Cond.fieldLink RX8 47 "CallNumbersModel" "decodedCall" "[I", Cond.methodLink RX8 125 yX8_isPlan, Cond.instanceMethod yX8_isPlan, Cond.selects RX8 yX8_isPlan yX8_isPlan, Cond.initialized RX8, Cond.code yX8_isPlan cX8_isPlan 2 (some .boolean), Cond.fieldLink RX8 89 "CallNumbersModel" "plans" "I", Cond.methodLink RX8 74 yX8_within, Cond.static yX8_within, Cond.code yX8_within cX8_within 3 (some .boolean), Cond.methodLink RX8 81 yX8_isRoutine, Cond.static yX8_isRoutine, Cond.code yX8_isRoutine cX8_isRoutine 1 (some .boolean), Cond.methodLink RX8 139 yX8_decodes, Cond.instanceMethod yX8_decodes, Cond.selects RX8 yX8_decodes yX8_decodes, Cond.code yX8_decodes cX8_decodes 8 (some .boolean), Cond.fieldLink RX8 38 "CallNumbersModel" "addOf" "[I", Cond.fieldLink RX8 7 "CallNumbersModel" "fromOf" "[I", Cond.methodLink RX8 134 yX8_lastTo, Cond.instanceMethod yX8_lastTo, Cond.selects RX8 yX8_lastTo yX8_lastTo]
def wsX8_decoded_r2 : List Cond := [Cond.code yX8_lastTo cX8_lastTo 6 (some .int), Cond.fieldLink RX8 20 "CallNumbersModel" "callsOf" "[I", Cond.fieldLink RX8 13 "CallNumbersModel" "toOf" "[I", Cond.fieldLink RX8 35 "CallNumbersModel" "waysOf" "[I", Cond.methodLink RX8 128 yX8_isPlain, Cond.instanceMethod yX8_isPlain, Cond.selects RX8 yX8_isPlain yX8_isPlain, Cond.code yX8_isPlain cX8_isPlain 3 (some .boolean), Cond.fieldLink RX8 32 "CallNumbersModel" "plainOf" "[I", Cond.methodLink RX8 105 yX8_has, Cond.static yX8_has, Cond.code yX8_has cX8_has 2 (some .boolean)]
def wsX8_decoded : List Cond := .code yX8_decoded cX8_decoded 6 (some .int) :: ((wsX8_decoded_r1 ++ wsX8_decoded_r2) ++ wsX80)
def wsX8_here : List Cond := .code yX8_here cX8_here 1 (some .int) :: ([.fieldLink RX8 143 "CallNumbersModel" "deep" "I", .fieldLink RX8 13 "CallNumbersModel" "toOf" "[I", .fieldLink RX8 50 "CallNumbersModel" "stack" "[I"] ++ wsX80)
def wsX8_call : List Cond := .code yX8_call cX8_call 2 (some .int) :: ([.fieldLink RX8 7 "CallNumbersModel" "fromOf" "[I", .fieldLink RX8 143 "CallNumbersModel" "deep" "I", .fieldLink RX8 50 "CallNumbersModel" "stack" "[I", .methodLink RX8 85 yX8_isCall, .instanceMethod yX8_isCall, .selects RX8 yX8_isCall yX8_isCall, .initialized RX8, .code yX8_isCall cX8_isCall 2 (some .boolean), .fieldLink RX8 78 "CallNumbersModel" "calls" "I", .methodLink RX8 74 yX8_within, .static yX8_within, .code yX8_within cX8_within 3 (some .boolean), .methodLink RX8 146 yX8_here, .instanceMethod yX8_here, .selects RX8 yX8_here yX8_here, .code yX8_here cX8_here 1 (some .int), .fieldLink RX8 13 "CallNumbersModel" "toOf" "[I"] ++ wsX80)
def wsX8_back : List Cond := .code yX8_back cX8_back 1 (some .int) :: ([.fieldLink RX8 143 "CallNumbersModel" "deep" "I", .methodLink RX8 146 yX8_here, .instanceMethod yX8_here, .selects RX8 yX8_here yX8_here, .initialized RX8, .code yX8_here cX8_here 1 (some .int), .fieldLink RX8 13 "CallNumbersModel" "toOf" "[I", .fieldLink RX8 50 "CallNumbersModel" "stack" "[I"] ++ wsX80)
def wsX8_running : List Cond := .code yX8_running cX8_running 2 (some .int) :: ([.fieldLink RX8 143 "CallNumbersModel" "deep" "I", .fieldLink RX8 50 "CallNumbersModel" "stack" "[I"] ++ wsX80)
def wsX8_begins : List Cond := .code yX8_begins cX8_begins 2 none :: ([.fieldLink RX8 53 "CallNumbersModel" "startOf" "[I", .fieldLink RX8 150 "CallNumbersModel" "pieceMany" "I", .fieldLink RX8 56 "CallNumbersModel" "numberOf" "[I", .fieldLink RX8 59 "CallNumbersModel" "viaOf" "[I"] ++ wsX80)
def wsX8_codes : List Cond := .code yX8_codes cX8_codes 7 none :: ([.fieldLink RX8 150 "CallNumbersModel" "pieceMany" "I", .fieldLink RX8 56 "CallNumbersModel" "numberOf" "[I", .fieldLink RX8 38 "CallNumbersModel" "addOf" "[I", .fieldLink RX8 59 "CallNumbersModel" "viaOf" "[I", .fieldLink RX8 13 "CallNumbersModel" "toOf" "[I", .methodLink RX8 153 yX8_begins, .instanceMethod yX8_begins, .selects RX8 yX8_begins yX8_begins, .initialized RX8, .code yX8_begins cX8_begins 2 none, .fieldLink RX8 53 "CallNumbersModel" "startOf" "[I", .methodLink RX8 128 yX8_isPlain, .instanceMethod yX8_isPlain, .selects RX8 yX8_isPlain yX8_isPlain, .code yX8_isPlain cX8_isPlain 3 (some .boolean), .fieldLink RX8 32 "CallNumbersModel" "plainOf" "[I", .methodLink RX8 105 yX8_has, .static yX8_has, .code yX8_has cX8_has 2 (some .boolean)] ++ wsX80)
def wsX8_piece_r1 : List Cond := [Cond.fieldLink RX8 50 "CallNumbersModel" "stack" "[I", Cond.fieldLink RX8 143 "CallNumbersModel" "deep" "I", Cond.fieldLink RX8 150 "CallNumbersModel" "pieceMany" "I", Cond.fieldLink RX8 53 "CallNumbersModel" "startOf" "[I", Cond.fieldLink RX8 56 "CallNumbersModel" "numberOf" "[I", Cond.fieldLink RX8 59 "CallNumbersModel" "viaOf" "[I", Cond.methodLink RX8 125 yX8_isPlan, Cond.instanceMethod yX8_isPlan, Cond.selects RX8 yX8_isPlan yX8_isPlan, Cond.initialized RX8, Cond.code yX8_isPlan cX8_isPlan 2 (some .boolean), Cond.fieldLink RX8 89 "CallNumbersModel" "plans" "I", Cond.methodLink RX8 74 yX8_within, Cond.static yX8_within, Cond.code yX8_within cX8_within 3 (some .boolean), Cond.methodLink RX8 156 yX8_codes, Cond.instanceMethod yX8_codes, Cond.selects RX8 yX8_codes yX8_codes, Cond.code yX8_codes cX8_codes 7 none, Cond.fieldLink RX8 38 "CallNumbersModel" "addOf" "[I", Cond.fieldLink RX8 13 "CallNumbersModel" "toOf" "[I", Cond.methodLink RX8 153 yX8_begins, Cond.instanceMethod yX8_begins, Cond.selects RX8 yX8_begins yX8_begins]
def wsX8_piece_r2 : List Cond := [Cond.code yX8_begins cX8_begins 2 none, Cond.methodLink RX8 128 yX8_isPlain, Cond.instanceMethod yX8_isPlain, Cond.selects RX8 yX8_isPlain yX8_isPlain, Cond.code yX8_isPlain cX8_isPlain 3 (some .boolean), Cond.fieldLink RX8 32 "CallNumbersModel" "plainOf" "[I", Cond.methodLink RX8 105 yX8_has, Cond.static yX8_has, Cond.code yX8_has cX8_has 2 (some .boolean)]
def wsX8_piece : List Cond := .code yX8_piece cX8_piece 4 (some .int) :: ((wsX8_piece_r1 ++ wsX8_piece_r2) ++ wsX80)
def wsX8_pieces_r1 : List Cond := [Cond.fieldLink RX8 50 "CallNumbersModel" "stack" "[I", Cond.fieldLink RX8 143 "CallNumbersModel" "deep" "I", Cond.fieldLink RX8 150 "CallNumbersModel" "pieceMany" "I", Cond.methodLink RX8 125 yX8_isPlan, Cond.instanceMethod yX8_isPlan, Cond.selects RX8 yX8_isPlan yX8_isPlan, Cond.initialized RX8, Cond.code yX8_isPlan cX8_isPlan 2 (some .boolean), Cond.fieldLink RX8 89 "CallNumbersModel" "plans" "I", Cond.methodLink RX8 74 yX8_within, Cond.static yX8_within, Cond.code yX8_within cX8_within 3 (some .boolean), Cond.methodLink RX8 156 yX8_codes, Cond.instanceMethod yX8_codes, Cond.selects RX8 yX8_codes yX8_codes, Cond.code yX8_codes cX8_codes 7 none, Cond.fieldLink RX8 56 "CallNumbersModel" "numberOf" "[I", Cond.fieldLink RX8 38 "CallNumbersModel" "addOf" "[I", Cond.fieldLink RX8 59 "CallNumbersModel" "viaOf" "[I", Cond.fieldLink RX8 13 "CallNumbersModel" "toOf" "[I", Cond.methodLink RX8 153 yX8_begins, Cond.instanceMethod yX8_begins, Cond.selects RX8 yX8_begins yX8_begins, Cond.code yX8_begins cX8_begins 2 none]
def wsX8_pieces_r2 : List Cond := [Cond.fieldLink RX8 53 "CallNumbersModel" "startOf" "[I", Cond.methodLink RX8 128 yX8_isPlain, Cond.instanceMethod yX8_isPlain, Cond.selects RX8 yX8_isPlain yX8_isPlain, Cond.code yX8_isPlain cX8_isPlain 3 (some .boolean), Cond.fieldLink RX8 32 "CallNumbersModel" "plainOf" "[I", Cond.methodLink RX8 105 yX8_has, Cond.static yX8_has, Cond.code yX8_has cX8_has 2 (some .boolean)]
def wsX8_pieces : List Cond := .code yX8_pieces cX8_pieces 2 (some .int) :: ((wsX8_pieces_r1 ++ wsX8_pieces_r2) ++ wsX80)
def wsX8_isSnap : List Cond := .code yX8_isSnap cX8_isSnap 2 (some .boolean) :: ([.fieldLink RX8 160 "CallNumbersModel" "snaps" "I", .methodLink RX8 74 yX8_within, .static yX8_within, .initialized RX8, .code yX8_within cX8_within 3 (some .boolean)] ++ wsX80)
def wsX8_snap : List Cond := .code yX8_snap cX8_snap 2 (some .int) :: ([.fieldLink RX8 160 "CallNumbersModel" "snaps" "I", .fieldLink RX8 62 "CallNumbersModel" "snapPlan" "[I", .fieldLink RX8 89 "CallNumbersModel" "plans" "I", .fieldLink RX8 65 "CallNumbersModel" "snapDeep" "[I", .fieldLink RX8 143 "CallNumbersModel" "deep" "I", .fieldLink RX8 68 "CallNumbersModel" "snapStack" "[I", .fieldLink RX8 50 "CallNumbersModel" "stack" "[I"] ++ wsX80)
def wsX8_ofSnap_r1 : List Cond := [Cond.fieldLink RX8 65 "CallNumbersModel" "snapDeep" "[I", Cond.fieldLink RX8 62 "CallNumbersModel" "snapPlan" "[I", Cond.fieldLink RX8 68 "CallNumbersModel" "snapStack" "[I", Cond.fieldLink RX8 13 "CallNumbersModel" "toOf" "[I", Cond.fieldLink RX8 150 "CallNumbersModel" "pieceMany" "I", Cond.fieldLink RX8 56 "CallNumbersModel" "numberOf" "[I", Cond.methodLink RX8 163 yX8_isSnap, Cond.instanceMethod yX8_isSnap, Cond.selects RX8 yX8_isSnap yX8_isSnap, Cond.initialized RX8, Cond.code yX8_isSnap cX8_isSnap 2 (some .boolean), Cond.fieldLink RX8 160 "CallNumbersModel" "snaps" "I", Cond.methodLink RX8 74 yX8_within, Cond.static yX8_within, Cond.code yX8_within cX8_within 3 (some .boolean), Cond.methodLink RX8 156 yX8_codes, Cond.instanceMethod yX8_codes, Cond.selects RX8 yX8_codes yX8_codes, Cond.code yX8_codes cX8_codes 7 none, Cond.fieldLink RX8 38 "CallNumbersModel" "addOf" "[I", Cond.fieldLink RX8 59 "CallNumbersModel" "viaOf" "[I", Cond.methodLink RX8 153 yX8_begins, Cond.instanceMethod yX8_begins, Cond.selects RX8 yX8_begins yX8_begins]
def wsX8_ofSnap_r2 : List Cond := [Cond.code yX8_begins cX8_begins 2 none, Cond.fieldLink RX8 53 "CallNumbersModel" "startOf" "[I", Cond.methodLink RX8 128 yX8_isPlain, Cond.instanceMethod yX8_isPlain, Cond.selects RX8 yX8_isPlain yX8_isPlain, Cond.code yX8_isPlain cX8_isPlain 3 (some .boolean), Cond.fieldLink RX8 32 "CallNumbersModel" "plainOf" "[I", Cond.methodLink RX8 105 yX8_has, Cond.static yX8_has, Cond.code yX8_has cX8_has 2 (some .boolean)]
def wsX8_ofSnap : List Cond := .code yX8_ofSnap cX8_ofSnap 4 (some .int) :: ((wsX8_ofSnap_r1 ++ wsX8_ofSnap_r2) ++ wsX80)
def wsX8_snapped : List Cond := .code yX8_snapped cX8_snapped 3 (some .int) :: ([.fieldLink RX8 65 "CallNumbersModel" "snapDeep" "[I", .fieldLink RX8 68 "CallNumbersModel" "snapStack" "[I", .methodLink RX8 163 yX8_isSnap, .instanceMethod yX8_isSnap, .selects RX8 yX8_isSnap yX8_isSnap, .initialized RX8, .code yX8_isSnap cX8_isSnap 2 (some .boolean), .fieldLink RX8 160 "CallNumbersModel" "snaps" "I", .methodLink RX8 74 yX8_within, .static yX8_within, .code yX8_within cX8_within 3 (some .boolean)] ++ wsX80)
def wsX8_same : List Cond := .code yX8_same cX8_same 5 (some .int) :: ([.fieldLink RX8 65 "CallNumbersModel" "snapDeep" "[I", .fieldLink RX8 68 "CallNumbersModel" "snapStack" "[I", .methodLink RX8 163 yX8_isSnap, .instanceMethod yX8_isSnap, .selects RX8 yX8_isSnap yX8_isSnap, .initialized RX8, .code yX8_isSnap cX8_isSnap 2 (some .boolean), .fieldLink RX8 160 "CallNumbersModel" "snaps" "I", .methodLink RX8 74 yX8_within, .static yX8_within, .code yX8_within cX8_within 3 (some .boolean)] ++ wsX80)
def wsX8_many : List Cond := .code yX8_many cX8_many 2 (some .int) :: ([.fieldLink RX8 78 "CallNumbersModel" "calls" "I", .fieldLink RX8 89 "CallNumbersModel" "plans" "I", .fieldLink RX8 143 "CallNumbersModel" "deep" "I", .fieldLink RX8 160 "CallNumbersModel" "snaps" "I", .fieldLink RX8 16 "CallNumbersModel" "limitNow" "I", .methodLink RX8 146 yX8_here, .instanceMethod yX8_here, .selects RX8 yX8_here yX8_here, .initialized RX8, .code yX8_here cX8_here 1 (some .int), .fieldLink RX8 13 "CallNumbersModel" "toOf" "[I", .fieldLink RX8 50 "CallNumbersModel" "stack" "[I"] ++ wsX80)
def wsJ9_min_7cf53 : List Cond := .code yJ9_min_7cf53 cJ9_min_7cf53 2 (some .int) :: ([])
def wsL_law_r1 : List Cond := [Cond.classLink RL 7 RX7, Cond.instantiable RX7 10, Cond.initialized RX7, Cond.classLink RL 10 RX8, Cond.instantiable RX8 28, Cond.initialized RX8, Cond.methodLink RL 9 yX7_init, Cond.instanceMethod yX7_init, Cond.code yX7_init cX7_init 1 none, Cond.methodLink RX7 1 objectInit, Cond.instanceMethod objectInit, Cond.code objectInit ⟨#[0xb1]⟩ 1 none, Cond.classLink RX7 7 RX1, Cond.instantiable RX1 3, Cond.initialized RX1, Cond.fieldLink RX7 10 "CallNumbers" "calls" "LCallNumbers$Calls;", Cond.classLink RX7 16 RX4, Cond.fieldLink RX7 18 "CallNumbers" "plans" "[LCallNumbers$Plan;", Cond.classLink RX7 22 RX0, Cond.instantiable RX0 2, Cond.initialized RX0, Cond.fieldLink RX7 25 "CallNumbers" "stack" "LCallNumbers$CallStack;", Cond.classLink RX7 29 RX5, Cond.fieldLink RX7 31 "CallNumbers" "snaps" "[LCallNumbers$Snap;"]
def wsL_law_r2 : List Cond := [Cond.classLink RX7 35 RX2, Cond.instantiable RX2 4, Cond.initialized RX2, Cond.fieldLink RX7 38 "CallNumbers" "code" "LCallNumbers$Code;", Cond.classLink RX7 42 RX3, Cond.instantiable RX3 2, Cond.initialized RX3, Cond.fieldLink RX7 45 "CallNumbers" "decoder" "LCallNumbers$Decoder;", Cond.fieldLink RX7 49 "CallNumbers" "limit" "I", Cond.instantiable RX4 7, Cond.initialized RX4, Cond.fieldLink RX7 54 "CallNumbers" "inForce" "LCallNumbers$Plan;", Cond.fieldLink RX7 62 "CallNumbers" "planCount" "I", Cond.instanceMethod yX1_init, Cond.code yX1_init cX1_init 1 none, Cond.methodLink RX1 3 objectInit, Cond.arrayClass .int, Cond.fieldLink RX1 9 "CallNumbers$Calls" "from" "[I", Cond.fieldLink RX1 15 "CallNumbers$Calls" "to" "[I", Cond.instanceMethod yX0_init, Cond.code yX0_init cX0_init 1 none, Cond.methodLink RX0 3 objectInit, Cond.fieldLink RX0 9 "CallNumbers$CallStack" "row" "[I", Cond.instanceMethod yX2_init]
def wsL_law_r3 : List Cond := [Cond.code yX2_init cX2_init 1 none, Cond.methodLink RX2 3 objectInit, Cond.fieldLink RX2 9 "CallNumbers$Code" "start" "[I", Cond.fieldLink RX2 15 "CallNumbers$Code" "number" "[I", Cond.fieldLink RX2 18 "CallNumbers$Code" "via" "[I", Cond.instanceMethod yX3_init, Cond.code yX3_init cX3_init 1 none, Cond.methodLink RX3 3 objectInit, Cond.fieldLink RX3 9 "CallNumbers$Decoder" "backward" "[I", Cond.instanceMethod yX4_init, Cond.code yX4_init cX4_init 1 none, Cond.methodLink RX4 3 objectInit, Cond.fieldLink RX4 9 "CallNumbers$Plan" "ways" "[I", Cond.fieldLink RX4 15 "CallNumbers$Plan" "adds" "[I", Cond.instanceMethod yX4_draw, Cond.selects RX4 yX4_draw yX4_draw, Cond.code yX4_draw cX4_draw 5 none, Cond.classLink RX4 18 RX6, Cond.instantiable RX6 5, Cond.initialized RX6, Cond.fieldLink RX4 31 "CallNumbers$Plan" "seen" "I", Cond.fieldLink RX4 37 "CallNumbers$Plan" "met" "I", Cond.fieldLink RX4 41 "CallNumbers$Plan" "rings" "I", Cond.fieldLink RX4 68 "CallNumbers$Plan" "plain" "I"]
def wsL_law_r4 : List Cond := [Cond.instanceMethod yX6_init, Cond.code yX6_init cX6_init 1 none, Cond.methodLink RX6 3 objectInit, Cond.fieldLink RX6 9 "CallNumbers$Walk" "ended" "[I", Cond.static yX6_goThrough, Cond.code yX6_goThrough cX6_goThrough 5 none, Cond.fieldLink RX6 15 "CallNumbers$Walk" "endedCount" "I", Cond.fieldLink RX6 19 "CallNumbers$Walk" "met" "I", Cond.fieldLink RX6 22 "CallNumbers$Walk" "open" "I", Cond.fieldLink RX6 40 "CallNumbers$Walk" "rings" "I", Cond.static yX7_has, Cond.code yX7_has cX7_has 2 (some .boolean), Cond.methodLink RX6 43 yX6_goThrough, Cond.methodLink RX6 47 yX6_end, Cond.instanceMethod yX6_end, Cond.selects RX6 yX6_end yX6_end, Cond.code yX6_end cX6_end 2 none, Cond.methodLink RX4 42 yJ7_fill_53178, Cond.static yJ7_fill_53178, Cond.initialized RJ7, Cond.code yJ7_fill_53178 cJ7_fill_53178 4 none, Cond.methodLink RX4 54 yX4_weigh, Cond.instanceMethod yX4_weigh, Cond.selects RX4 yX4_weigh yX4_weigh]
def wsL_law_r5 : List Cond := [Cond.code yX4_weigh cX4_weigh 6 none, Cond.fieldLink RX4 78 "CallNumbers$Plan" "anchors" "I", Cond.methodLink RX4 58 yX4_kindOf, Cond.instanceMethod yX4_kindOf, Cond.selects RX4 yX4_kindOf yX4_kindOf, Cond.code yX4_kindOf cX4_kindOf 3 (some .int), Cond.methodLink RX4 65 yX4_waysOfPlainCallsTo, Cond.instanceMethod yX4_waysOfPlainCallsTo, Cond.selects RX4 yX4_waysOfPlainCallsTo yX4_waysOfPlainCallsTo, Cond.code yX4_waysOfPlainCallsTo cX4_waysOfPlainCallsTo 5 (some .int), Cond.methodLink RL 12 yX8_init, Cond.instanceMethod yX8_init, Cond.code yX8_init cX8_init 1 none, Cond.methodLink RX8 1 objectInit, Cond.fieldLink RX8 7 "CallNumbersModel" "fromOf" "[I", Cond.fieldLink RX8 13 "CallNumbersModel" "toOf" "[I", Cond.fieldLink RX8 16 "CallNumbersModel" "limitNow" "I", Cond.fieldLink RX8 20 "CallNumbersModel" "callsOf" "[I", Cond.fieldLink RX8 23 "CallNumbersModel" "metOf" "[I", Cond.fieldLink RX8 26 "CallNumbersModel" "anchorsOf" "[I", Cond.fieldLink RX8 29 "CallNumbersModel" "ringsOf" "[I", Cond.fieldLink RX8 32 "CallNumbersModel" "plainOf" "[I", Cond.fieldLink RX8 35 "CallNumbersModel" "waysOf" "[I", Cond.fieldLink RX8 38 "CallNumbersModel" "addOf" "[I"]
def wsL_law_r6 : List Cond := [Cond.fieldLink RX8 41 "CallNumbersModel" "going" "[I", Cond.fieldLink RX8 44 "CallNumbersModel" "nextOf" "[I", Cond.fieldLink RX8 47 "CallNumbersModel" "decodedCall" "[I", Cond.fieldLink RX8 50 "CallNumbersModel" "stack" "[I", Cond.fieldLink RX8 53 "CallNumbersModel" "startOf" "[I", Cond.fieldLink RX8 56 "CallNumbersModel" "numberOf" "[I", Cond.fieldLink RX8 59 "CallNumbersModel" "viaOf" "[I", Cond.fieldLink RX8 62 "CallNumbersModel" "snapPlan" "[I", Cond.fieldLink RX8 65 "CallNumbersModel" "snapDeep" "[I", Cond.fieldLink RX8 68 "CallNumbersModel" "snapStack" "[I", Cond.methodLink RX8 71 yX8_makesPlan, Cond.instanceMethod yX8_makesPlan, Cond.selects RX8 yX8_makesPlan yX8_makesPlan, Cond.code yX8_makesPlan cX8_makesPlan 1 none, Cond.fieldLink RX8 89 "CallNumbersModel" "plans" "I", Cond.fieldLink RX8 78 "CallNumbersModel" "calls" "I", Cond.methodLink RX8 115 yX8_goesThrough, Cond.instanceMethod yX8_goesThrough, Cond.selects RX8 yX8_goesThrough yX8_goesThrough, Cond.code yX8_goesThrough cX8_goesThrough 4 none, Cond.fieldLink RX8 95 "CallNumbersModel" "goingMany" "I", Cond.fieldLink RX8 92 "CallNumbersModel" "goingSet" "I", Cond.methodLink RX8 98 yX8_comesTo, Cond.instanceMethod yX8_comesTo]
def wsL_law_r7 : List Cond := [Cond.selects RX8 yX8_comesTo yX8_comesTo, Cond.code yX8_comesTo cX8_comesTo 3 none, Cond.methodLink RX8 102 yX8_goesAlong, Cond.instanceMethod yX8_goesAlong, Cond.selects RX8 yX8_goesAlong yX8_goesAlong, Cond.code yX8_goesAlong cX8_goesAlong 3 none, Cond.methodLink RX8 105 yX8_has, Cond.static yX8_has, Cond.code yX8_has cX8_has 2 (some .boolean), Cond.methodLink RX8 119 yX8_findWays, Cond.instanceMethod yX8_findWays, Cond.selects RX8 yX8_findWays yX8_findWays, Cond.code yX8_findWays cX8_findWays 4 none, Cond.methodLink RX8 112 yX8_getsWays, Cond.instanceMethod yX8_getsWays, Cond.selects RX8 yX8_getsWays yX8_getsWays, Cond.code yX8_getsWays cX8_getsWays 6 (some .boolean), Cond.methodLink RX8 109 yX8_counts, Cond.instanceMethod yX8_counts, Cond.selects RX8 yX8_counts yX8_counts, Cond.code yX8_counts cX8_counts 3 (some .boolean), Cond.methodLink RX8 122 yX8_findAdds, Cond.instanceMethod yX8_findAdds, Cond.selects RX8 yX8_findAdds yX8_findAdds]
def wsL_law_r8 : List Cond := [Cond.code yX8_findAdds cX8_findAdds 6 none, Cond.methodLink RL 13 yX7_add, Cond.instanceMethod yX7_add, Cond.selects RX7 yX7_add yX7_add, Cond.code yX7_add cX7_add 3 (some .int), Cond.methodLink RX7 65 yX7_isRoutine, Cond.static yX7_isRoutine, Cond.code yX7_isRoutine cX7_isRoutine 1 (some .boolean), Cond.methodLink RL 17 yX8_add, Cond.instanceMethod yX8_add, Cond.selects RX8 yX8_add yX8_add, Cond.code yX8_add cX8_add 3 (some .int), Cond.methodLink RX8 81 yX8_isRoutine, Cond.static yX8_isRoutine, Cond.code yX8_isRoutine cX8_isRoutine 1 (some .boolean), Cond.methodLink RX8 74 yX8_within, Cond.static yX8_within, Cond.code yX8_within cX8_within 3 (some .boolean), Cond.methodLink RL 18 yX7_ofCall, Cond.instanceMethod yX7_ofCall, Cond.selects RX7 yX7_ofCall yX7_ofCall, Cond.code yX7_ofCall cX7_ofCall 3 (some .int), Cond.methodLink RX7 79 yX7_isCall, Cond.instanceMethod yX7_isCall]
def wsL_law_r9 : List Cond := [Cond.selects RX7 yX7_isCall yX7_isCall, Cond.code yX7_isCall cX7_isCall 2 (some .boolean), Cond.methodLink RL 21 yX8_ofCall, Cond.instanceMethod yX8_ofCall, Cond.selects RX8 yX8_ofCall yX8_ofCall, Cond.code yX8_ofCall cX8_ofCall 3 (some .int), Cond.methodLink RX8 85 yX8_isCall, Cond.instanceMethod yX8_isCall, Cond.selects RX8 yX8_isCall yX8_isCall, Cond.code yX8_isCall cX8_isCall 2 (some .boolean), Cond.methodLink RL 22 yX7_limit, Cond.instanceMethod yX7_limit, Cond.selects RX7 yX7_limit yX7_limit, Cond.code yX7_limit cX7_limit 3 (some .int), Cond.constant RX7 82 (1000000), Cond.methodLink RL 26 yX8_limit, Cond.instanceMethod yX8_limit, Cond.selects RX8 yX8_limit yX8_limit, Cond.code yX8_limit cX8_limit 3 (some .int), Cond.constant RX8 88 (1000000), Cond.methodLink RL 27 yX7_plan, Cond.instanceMethod yX7_plan, Cond.selects RX7 yX7_plan yX7_plan, Cond.code yX7_plan cX7_plan 1 (some .int)]
def wsL_law_r10 : List Cond := [Cond.methodLink RL 31 yX8_plan, Cond.instanceMethod yX8_plan, Cond.selects RX8 yX8_plan yX8_plan, Cond.code yX8_plan cX8_plan 1 (some .int), Cond.methodLink RL 32 yX7_kind, Cond.instanceMethod yX7_kind, Cond.selects RX7 yX7_kind yX7_kind, Cond.code yX7_kind cX7_kind 4 (some .int), Cond.methodLink RX7 83 yX7_planOf, Cond.instanceMethod yX7_planOf, Cond.selects RX7 yX7_planOf yX7_planOf, Cond.code yX7_planOf cX7_planOf 2 (some (.object "CallNumbers$Plan")), Cond.methodLink RL 35 yX8_kind, Cond.instanceMethod yX8_kind, Cond.selects RX8 yX8_kind yX8_kind, Cond.code yX8_kind cX8_kind 3 (some .int), Cond.methodLink RX8 125 yX8_isPlan, Cond.instanceMethod yX8_isPlan, Cond.selects RX8 yX8_isPlan yX8_isPlan, Cond.code yX8_isPlan cX8_isPlan 2 (some .boolean), Cond.methodLink RL 36 yX7_adds, Cond.instanceMethod yX7_adds, Cond.selects RX7 yX7_adds yX7_adds, Cond.code yX7_adds cX7_adds 4 (some .int)]
def wsL_law_r11 : List Cond := [Cond.methodLink RX7 94 yX7_has, Cond.methodLink RL 39 yX8_adds, Cond.instanceMethod yX8_adds, Cond.selects RX8 yX8_adds yX8_adds, Cond.code yX8_adds cX8_adds 3 (some .int), Cond.methodLink RX8 128 yX8_isPlain, Cond.instanceMethod yX8_isPlain, Cond.selects RX8 yX8_isPlain yX8_isPlain, Cond.code yX8_isPlain cX8_isPlain 3 (some .boolean), Cond.methodLink RL 40 yX7_ways, Cond.instanceMethod yX7_ways, Cond.selects RX7 yX7_ways yX7_ways, Cond.code yX7_ways cX7_ways 4 (some .int), Cond.methodLink RL 43 yX8_ways, Cond.instanceMethod yX8_ways, Cond.selects RX8 yX8_ways yX8_ways, Cond.code yX8_ways cX8_ways 3 (some .int), Cond.methodLink RL 44 yX7_ofPlan, Cond.instanceMethod yX7_ofPlan, Cond.selects RX7 yX7_ofPlan yX7_ofPlan, Cond.code yX7_ofPlan cX7_ofPlan 4 (some .int), Cond.methodLink RL 47 yX8_ofPlan, Cond.instanceMethod yX8_ofPlan, Cond.selects RX8 yX8_ofPlan yX8_ofPlan]
def wsL_law_r12 : List Cond := [Cond.code yX8_ofPlan cX8_ofPlan 3 (some .int), Cond.methodLink RL 48 yX7_decoded, Cond.instanceMethod yX7_decoded, Cond.selects RX7 yX7_decoded yX7_decoded, Cond.code yX7_decoded cX7_decoded 7 (some .int), Cond.constant RX7 113 (1000000000), Cond.instanceMethod yX3_read, Cond.selects RX3 yX3_read yX3_read, Cond.code yX3_read cX3_read 10 (some .boolean), Cond.fieldLink RX3 15 "CallNumbers$Decoder" "count" "I", Cond.methodLink RX3 19 yX3_lastCall, Cond.static yX3_lastCall, Cond.code yX3_lastCall cX3_lastCall 6 (some .int), Cond.instanceMethod yX3_nth, Cond.selects RX3 yX3_nth yX3_nth, Cond.code yX3_nth cX3_nth 2 (some .int), Cond.methodLink RL 52 yX8_decoded, Cond.instanceMethod yX8_decoded, Cond.selects RX8 yX8_decoded yX8_decoded, Cond.code yX8_decoded cX8_decoded 6 (some .int), Cond.constant RX8 138 (1000000000), Cond.fieldLink RX8 131 "CallNumbersModel" "decodedMany" "I", Cond.methodLink RX8 139 yX8_decodes, Cond.instanceMethod yX8_decodes]
def wsL_law_r13 : List Cond := [Cond.selects RX8 yX8_decodes yX8_decodes, Cond.code yX8_decodes cX8_decodes 8 (some .boolean), Cond.methodLink RX8 134 yX8_lastTo, Cond.instanceMethod yX8_lastTo, Cond.selects RX8 yX8_lastTo yX8_lastTo, Cond.code yX8_lastTo cX8_lastTo 6 (some .int), Cond.methodLink RL 53 yX7_call, Cond.instanceMethod yX7_call, Cond.selects RX7 yX7_call yX7_call, Cond.code yX7_call cX7_call 2 (some .int), Cond.instanceMethod yX0_here, Cond.selects RX0 yX0_here yX0_here, Cond.code yX0_here cX0_here 2 (some .int), Cond.fieldLink RX0 15 "CallNumbers$CallStack" "count" "I", Cond.methodLink RL 56 yX8_call, Cond.instanceMethod yX8_call, Cond.selects RX8 yX8_call yX8_call, Cond.code yX8_call cX8_call 2 (some .int), Cond.fieldLink RX8 143 "CallNumbersModel" "deep" "I", Cond.methodLink RX8 146 yX8_here, Cond.instanceMethod yX8_here, Cond.selects RX8 yX8_here yX8_here, Cond.code yX8_here cX8_here 1 (some .int), Cond.methodLink RL 57 yX7_back]
def wsL_law_r14 : List Cond := [Cond.instanceMethod yX7_back, Cond.selects RX7 yX7_back yX7_back, Cond.code yX7_back cX7_back 1 (some .int), Cond.methodLink RL 60 yX8_back, Cond.instanceMethod yX8_back, Cond.selects RX8 yX8_back yX8_back, Cond.code yX8_back cX8_back 1 (some .int), Cond.methodLink RL 61 yX7_running, Cond.instanceMethod yX7_running, Cond.selects RX7 yX7_running yX7_running, Cond.code yX7_running cX7_running 2 (some .int), Cond.methodLink RL 64 yX8_running, Cond.instanceMethod yX8_running, Cond.selects RX8 yX8_running yX8_running, Cond.code yX8_running cX8_running 2 (some .int), Cond.methodLink RL 65 yX7_piece, Cond.instanceMethod yX7_piece, Cond.selects RX7 yX7_piece yX7_piece, Cond.code yX7_piece cX7_piece 5 (some .int), Cond.instanceMethod yX2_write, Cond.selects RX2 yX2_write yX2_write, Cond.code yX2_write cX2_write 6 none, Cond.fieldLink RX2 21 "CallNumbers$Code" "count" "I", Cond.methodLink RX2 25 yX2_begin]
def wsL_law_r15 : List Cond := [Cond.instanceMethod yX2_begin, Cond.selects RX2 yX2_begin yX2_begin, Cond.code yX2_begin cX2_begin 2 none, Cond.methodLink RL 69 yX8_piece, Cond.instanceMethod yX8_piece, Cond.selects RX8 yX8_piece yX8_piece, Cond.code yX8_piece cX8_piece 4 (some .int), Cond.fieldLink RX8 150 "CallNumbersModel" "pieceMany" "I", Cond.methodLink RX8 156 yX8_codes, Cond.instanceMethod yX8_codes, Cond.selects RX8 yX8_codes yX8_codes, Cond.code yX8_codes cX8_codes 7 none, Cond.methodLink RX8 153 yX8_begins, Cond.instanceMethod yX8_begins, Cond.selects RX8 yX8_begins yX8_begins, Cond.code yX8_begins cX8_begins 2 none, Cond.methodLink RL 70 yX7_pieces, Cond.instanceMethod yX7_pieces, Cond.selects RX7 yX7_pieces yX7_pieces, Cond.code yX7_pieces cX7_pieces 3 (some .int), Cond.methodLink RL 73 yX8_pieces, Cond.instanceMethod yX8_pieces, Cond.selects RX8 yX8_pieces yX8_pieces, Cond.code yX8_pieces cX8_pieces 2 (some .int)]
def wsL_law_r16 : List Cond := [Cond.methodLink RL 74 yX7_snap, Cond.instanceMethod yX7_snap, Cond.selects RX7 yX7_snap yX7_snap, Cond.code yX7_snap cX7_snap 1 (some .int), Cond.fieldLink RX7 145 "CallNumbers" "snapCount" "I", Cond.instantiable RX5 5, Cond.initialized RX5, Cond.instanceMethod yX5_init, Cond.code yX5_init cX5_init 5 none, Cond.methodLink RX5 1 objectInit, Cond.fieldLink RX5 7 "CallNumbers$Snap" "plan" "I", Cond.fieldLink RX5 13 "CallNumbers$Snap" "here" "I", Cond.fieldLink RX5 21 "CallNumbers$Snap" "pieces" "I", Cond.fieldLink RX5 28 "CallNumbers$Snap" "lastNumber" "I", Cond.fieldLink RX5 43 "CallNumbers$Snap" "row" "[I", Cond.instanceMethod yX2_lastNumber, Cond.selects RX2 yX2_lastNumber yX2_lastNumber, Cond.code yX2_lastNumber cX2_lastNumber 1 (some .int), Cond.methodLink RX5 37 yJ7_copyOf_59c91, Cond.static yJ7_copyOf_59c91, Cond.code yJ7_copyOf_59c91 cJ7_copyOf_59c91 3 (some (.array .int)), Cond.methodLink RJ7 316 ⟨"[I", "clone", "()Ljava/lang/Object;"⟩, Cond.sameMethod "[I" "java/lang/Object" "clone" "()Ljava/lang/Object;", Cond.native ⟨"java/lang/Object", "clone", "()Ljava/lang/Object;"⟩]
def wsL_law_r17 : List Cond := [Cond.instanceMethod ⟨"java/lang/Object", "clone", "()Ljava/lang/Object;"⟩, Cond.selects "[I" ⟨"[I", "clone", "()Ljava/lang/Object;"⟩ ⟨"java/lang/Object", "clone", "()Ljava/lang/Object;"⟩, Cond.classLink RJ7 317 "[I", Cond.methodLink RJ7 304 Lib.Math.min.name, Cond.static Lib.Math.min.name, Cond.initialized "java/lang/Math", Cond.code Lib.Math.min.name Lib.Math.min.code 2 (some .int), Cond.methodLink RJ7 150 arraycopyName, Cond.native arraycopyName, Cond.static arraycopyName, Cond.initialized "java/lang/System", Cond.methodLink RL 77 yX8_snap, Cond.instanceMethod yX8_snap, Cond.selects RX8 yX8_snap yX8_snap, Cond.code yX8_snap cX8_snap 2 (some .int), Cond.fieldLink RX8 160 "CallNumbersModel" "snaps" "I", Cond.methodLink RL 78 yX7_ofSnap, Cond.instanceMethod yX7_ofSnap, Cond.selects RX7 yX7_ofSnap yX7_ofSnap, Cond.code yX7_ofSnap cX7_ofSnap 4 (some .int), Cond.methodLink RX7 151 yX7_snapOf, Cond.instanceMethod yX7_snapOf, Cond.selects RX7 yX7_snapOf yX7_snapOf, Cond.code yX7_snapOf cX7_snapOf 2 (some (.object "CallNumbers$Snap"))]
def wsL_law_r18 : List Cond := [Cond.methodLink RL 81 yX8_ofSnap, Cond.instanceMethod yX8_ofSnap, Cond.selects RX8 yX8_ofSnap yX8_ofSnap, Cond.code yX8_ofSnap cX8_ofSnap 4 (some .int), Cond.methodLink RX8 163 yX8_isSnap, Cond.instanceMethod yX8_isSnap, Cond.selects RX8 yX8_isSnap yX8_isSnap, Cond.code yX8_isSnap cX8_isSnap 2 (some .boolean), Cond.methodLink RL 82 yX7_snapped, Cond.instanceMethod yX7_snapped, Cond.selects RX7 yX7_snapped yX7_snapped, Cond.code yX7_snapped cX7_snapped 4 (some .int), Cond.methodLink RL 85 yX8_snapped, Cond.instanceMethod yX8_snapped, Cond.selects RX8 yX8_snapped yX8_snapped, Cond.code yX8_snapped cX8_snapped 3 (some .int), Cond.methodLink RL 86 yX7_same, Cond.instanceMethod yX7_same, Cond.selects RX7 yX7_same yX7_same, Cond.code yX7_same cX7_same 5 (some .int), Cond.methodLink RX7 167 yX7_sameRows, Cond.static yX7_sameRows, Cond.code yX7_sameRows cX7_sameRows 3 (some .boolean), Cond.methodLink RL 89 yX8_same]
def wsL_law_r19 : List Cond := [Cond.instanceMethod yX8_same, Cond.selects RX8 yX8_same yX8_same, Cond.code yX8_same cX8_same 5 (some .int), Cond.methodLink RL 90 yX7_many, Cond.instanceMethod yX7_many, Cond.selects RX7 yX7_many yX7_many, Cond.code yX7_many cX7_many 2 (some .int), Cond.methodLink RL 93 yX8_many, Cond.instanceMethod yX8_many, Cond.selects RX8 yX8_many yX8_many, Cond.code yX8_many cX8_many 2 (some .int)]
def wsL_law : List Cond := (wsL_law_r1 ++ (wsL_law_r2 ++ (wsL_law_r3 ++ (wsL_law_r4 ++ (wsL_law_r5 ++ (wsL_law_r6 ++ (wsL_law_r7 ++ (wsL_law_r8 ++ (wsL_law_r9 ++ (wsL_law_r10 ++ (wsL_law_r11 ++ (wsL_law_r12 ++ (wsL_law_r13 ++ (wsL_law_r14 ++ (wsL_law_r15 ++ (wsL_law_r16 ++ (wsL_law_r17 ++ (wsL_law_r18 ++ wsL_law_r19)))))))))))))))))) ++ wsX70 ++ wsX80 ++ wsX10 ++ wsX00 ++ wsX20 ++ wsX30 ++ wsX40 ++ wsX60 ++ wsX50 ++ ([] : List Cond)
abbrev vwCl : List vw_C := [(RX0, TX0, 2), (RX1, TX1, 3), (RX2, TX2, 4), (RX3, TX3, 2), (RX4, TX4, 7), (RX5, TX5, 5), (RX6, TX6, 5), (RX7, TX7, 10), (RX8, TX8, 28)]
end
section
set_option maxRecDepth 20000 in
theorem wsL_law_r1_in : ∀ w ∈ wsL_law_r1, w ∈ lw_tbl := List.forall_mem_cons.mpr ⟨List.mem_of_getElem? (i := 44) (by decide +kernel), List.forall_mem_cons.mpr ⟨List.mem_of_getElem? (i := 45) (by decide +kernel), List.forall_mem_cons.mpr ⟨List.mem_of_getElem? (i := 32) (by decide +kernel), List.forall_mem_cons.mpr ⟨List.mem_of_getElem? (i := 438) (by decide +kernel), List.forall_mem_cons.mpr ⟨List.mem_of_getElem? (i := 439) (by decide +kernel), List.forall_mem_cons.mpr ⟨List.mem_of_getElem? (i := 40) (by decide +kernel), List.forall_mem_cons.mpr ⟨List.mem_of_getElem? (i := 46) (by decide +kernel), List.forall_mem_cons.mpr ⟨List.mem_of_getElem? (i := 47) (by decide +kernel), List.forall_mem_cons.mpr ⟨List.mem_of_getElem? (i := 48) rfl, List.forall_mem_cons.mpr ⟨List.mem_of_getElem? (i := 49) (by decide +kernel), List.forall_mem_cons.mpr ⟨List.mem_of_getElem? (i := 50) (by decide +kernel), List.forall_mem_cons.mpr ⟨List.mem_of_getElem? (i := 51) rfl, List.forall_mem_cons.mpr ⟨List.mem_of_getElem? (i := 52) (by decide +kernel), List.forall_mem_cons.mpr ⟨List.mem_of_getElem? (i := 53) (by decide +kernel), List.forall_mem_cons.mpr ⟨List.mem_of_getElem? (i := 33) (by decide +kernel), List.forall_mem_cons.mpr ⟨List.mem_of_getElem? (i := 238) (by decide +kernel), List.forall_mem_cons.mpr ⟨List.mem_of_getElem? (i := 81) (by decide +kernel), List.forall_mem_cons.mpr ⟨List.mem_of_getElem? (i := 239) (by decide +kernel), List.forall_mem_cons.mpr ⟨List.mem_of_getElem? (i := 83) (by decide +kernel), List.forall_mem_cons.mpr ⟨List.mem_of_getElem? (i := 84) (by decide +kernel), List.forall_mem_cons.mpr ⟨List.mem_of_getElem? (i := 34) (by decide +kernel), List.forall_mem_cons.mpr ⟨List.mem_of_getElem? (i := 240) (by decide +kernel), List.forall_mem_cons.mpr ⟨List.mem_of_getElem? (i := 102) (by decide +kernel), List.forall_mem_cons.mpr ⟨List.mem_of_getElem? (i := 241) (by decide +kernel), fun _ h => absurd h List.not_mem_nil⟩⟩⟩⟩⟩⟩⟩⟩⟩⟩⟩⟩⟩⟩⟩⟩⟩⟩⟩⟩⟩⟩⟩⟩
set_option maxRecDepth 20000 in
theorem wsL_law_r2_in : ∀ w ∈ wsL_law_r2, w ∈ lw_tbl := List.forall_mem_cons.mpr ⟨List.mem_of_getElem? (i := 104) (by decide +kernel), List.forall_mem_cons.mpr ⟨List.mem_of_getElem? (i := 105) (by decide +kernel), List.forall_mem_cons.mpr ⟨List.mem_of_getElem? (i := 35) (by decide +kernel), List.forall_mem_cons.mpr ⟨List.mem_of_getElem? (i := 242) (by decide +kernel), List.forall_mem_cons.mpr ⟨List.mem_of_getElem? (i := 128) (by decide +kernel), List.forall_mem_cons.mpr ⟨List.mem_of_getElem? (i := 129) (by decide +kernel), List.forall_mem_cons.mpr ⟨List.mem_of_getElem? (i := 36) (by decide +kernel), List.forall_mem_cons.mpr ⟨List.mem_of_getElem? (i := 243) (by decide +kernel), List.forall_mem_cons.mpr ⟨List.mem_of_getElem? (i := 247) (by decide +kernel), List.forall_mem_cons.mpr ⟨List.mem_of_getElem? (i := 142) (by decide +kernel), List.forall_mem_cons.mpr ⟨List.mem_of_getElem? (i := 37) (by decide +kernel), List.forall_mem_cons.mpr ⟨List.mem_of_getElem? (i := 244) (by decide +kernel), List.forall_mem_cons.mpr ⟨List.mem_of_getElem? (i := 245) (by decide +kernel), List.forall_mem_cons.mpr ⟨List.mem_of_getElem? (i := 55) (by decide +kernel), List.forall_mem_cons.mpr ⟨List.mem_of_getElem? (i := 56) rfl, List.forall_mem_cons.mpr ⟨List.mem_of_getElem? (i := 57) (by decide +kernel), List.forall_mem_cons.mpr ⟨List.mem_of_getElem? (i := 80) (by decide +kernel), List.forall_mem_cons.mpr ⟨List.mem_of_getElem? (i := 58) (by decide +kernel), List.forall_mem_cons.mpr ⟨List.mem_of_getElem? (i := 63) (by decide +kernel), List.forall_mem_cons.mpr ⟨List.mem_of_getElem? (i := 86) (by decide +kernel), List.forall_mem_cons.mpr ⟨List.mem_of_getElem? (i := 87) rfl, List.forall_mem_cons.mpr ⟨List.mem_of_getElem? (i := 88) (by decide +kernel), List.forall_mem_cons.mpr ⟨List.mem_of_getElem? (i := 89) (by decide +kernel), List.forall_mem_cons.mpr ⟨List.mem_of_getElem? (i := 107) (by decide +kernel), fun _ h => absurd h List.not_mem_nil⟩⟩⟩⟩⟩⟩⟩⟩⟩⟩⟩⟩⟩⟩⟩⟩⟩⟩⟩⟩⟩⟩⟩⟩
set_option maxRecDepth 20000 in
theorem wsL_law_r3_in : ∀ w ∈ wsL_law_r3, w ∈ lw_tbl := List.forall_mem_cons.mpr ⟨List.mem_of_getElem? (i := 108) rfl, List.forall_mem_cons.mpr ⟨List.mem_of_getElem? (i := 109) (by decide +kernel), List.forall_mem_cons.mpr ⟨List.mem_of_getElem? (i := 110) (by decide +kernel), List.forall_mem_cons.mpr ⟨List.mem_of_getElem? (i := 112) (by decide +kernel), List.forall_mem_cons.mpr ⟨List.mem_of_getElem? (i := 114) (by decide +kernel), List.forall_mem_cons.mpr ⟨List.mem_of_getElem? (i := 131) (by decide +kernel), List.forall_mem_cons.mpr ⟨List.mem_of_getElem? (i := 132) rfl, List.forall_mem_cons.mpr ⟨List.mem_of_getElem? (i := 133) (by decide +kernel), List.forall_mem_cons.mpr ⟨List.mem_of_getElem? (i := 134) (by decide +kernel), List.forall_mem_cons.mpr ⟨List.mem_of_getElem? (i := 144) (by decide +kernel), List.forall_mem_cons.mpr ⟨List.mem_of_getElem? (i := 145) rfl, List.forall_mem_cons.mpr ⟨List.mem_of_getElem? (i := 146) (by decide +kernel), List.forall_mem_cons.mpr ⟨List.mem_of_getElem? (i := 147) (by decide +kernel), List.forall_mem_cons.mpr ⟨List.mem_of_getElem? (i := 150) (by decide +kernel), List.forall_mem_cons.mpr ⟨List.mem_of_getElem? (i := 183) (by decide +kernel), List.forall_mem_cons.mpr ⟨List.mem_of_getElem? (i := 0) (by decide +kernel), List.forall_mem_cons.mpr ⟨List.mem_of_getElem? (i := 184) rfl, List.forall_mem_cons.mpr ⟨List.mem_of_getElem? (i := 185) (by decide +kernel), List.forall_mem_cons.mpr ⟨List.mem_of_getElem? (i := 186) (by decide +kernel), List.forall_mem_cons.mpr ⟨List.mem_of_getElem? (i := 38) (by decide +kernel), List.forall_mem_cons.mpr ⟨List.mem_of_getElem? (i := 154) (by decide +kernel), List.forall_mem_cons.mpr ⟨List.mem_of_getElem? (i := 156) (by decide +kernel), List.forall_mem_cons.mpr ⟨List.mem_of_getElem? (i := 160) (by decide +kernel), List.forall_mem_cons.mpr ⟨List.mem_of_getElem? (i := 163) (by decide +kernel), fun _ h => absurd h List.not_mem_nil⟩⟩⟩⟩⟩⟩⟩⟩⟩⟩⟩⟩⟩⟩⟩⟩⟩⟩⟩⟩⟩⟩⟩⟩
set_option maxRecDepth 20000 in
theorem wsL_law_r4_in : ∀ w ∈ wsL_law_r4, w ∈ lw_tbl := List.forall_mem_cons.mpr ⟨List.mem_of_getElem? (i := 188) (by decide +kernel), List.forall_mem_cons.mpr ⟨List.mem_of_getElem? (i := 189) rfl, List.forall_mem_cons.mpr ⟨List.mem_of_getElem? (i := 190) (by decide +kernel), List.forall_mem_cons.mpr ⟨List.mem_of_getElem? (i := 191) (by decide +kernel), List.forall_mem_cons.mpr ⟨List.mem_of_getElem? (i := 212) (by decide +kernel), List.forall_mem_cons.mpr ⟨List.mem_of_getElem? (i := 213) rfl, List.forall_mem_cons.mpr ⟨List.mem_of_getElem? (i := 193) (by decide +kernel), List.forall_mem_cons.mpr ⟨List.mem_of_getElem? (i := 195) (by decide +kernel), List.forall_mem_cons.mpr ⟨List.mem_of_getElem? (i := 197) (by decide +kernel), List.forall_mem_cons.mpr ⟨List.mem_of_getElem? (i := 199) (by decide +kernel), List.forall_mem_cons.mpr ⟨List.mem_of_getElem? (i := 215) (by decide +kernel), List.forall_mem_cons.mpr ⟨List.mem_of_getElem? (i := 216) rfl, List.forall_mem_cons.mpr ⟨List.mem_of_getElem? (i := 217) (by decide +kernel), List.forall_mem_cons.mpr ⟨List.mem_of_getElem? (i := 218) (by decide +kernel), List.forall_mem_cons.mpr ⟨List.mem_of_getElem? (i := 220) (by decide +kernel), List.forall_mem_cons.mpr ⟨List.mem_of_getElem? (i := 1) (by decide +kernel), List.forall_mem_cons.mpr ⟨List.mem_of_getElem? (i := 221) rfl, List.forall_mem_cons.mpr ⟨List.mem_of_getElem? (i := 222) (by decide +kernel), List.forall_mem_cons.mpr ⟨List.mem_of_getElem? (i := 223) (by decide +kernel), List.forall_mem_cons.mpr ⟨List.mem_of_getElem? (i := 39) (by decide +kernel), List.forall_mem_cons.mpr ⟨List.mem_of_getElem? (i := 224) rfl, List.forall_mem_cons.mpr ⟨List.mem_of_getElem? (i := 225) (by decide +kernel), List.forall_mem_cons.mpr ⟨List.mem_of_getElem? (i := 227) (by decide +kernel), List.forall_mem_cons.mpr ⟨List.mem_of_getElem? (i := 2) (by decide +kernel), fun _ h => absurd h List.not_mem_nil⟩⟩⟩⟩⟩⟩⟩⟩⟩⟩⟩⟩⟩⟩⟩⟩⟩⟩⟩⟩⟩⟩⟩⟩
set_option maxRecDepth 20000 in
theorem wsL_law_r5_in : ∀ w ∈ wsL_law_r5, w ∈ lw_tbl := List.forall_mem_cons.mpr ⟨List.mem_of_getElem? (i := 228) rfl, List.forall_mem_cons.mpr ⟨List.mem_of_getElem? (i := 158) (by decide +kernel), List.forall_mem_cons.mpr ⟨List.mem_of_getElem? (i := 230) (by decide +kernel), List.forall_mem_cons.mpr ⟨List.mem_of_getElem? (i := 232) (by decide +kernel), List.forall_mem_cons.mpr ⟨List.mem_of_getElem? (i := 3) (by decide +kernel), List.forall_mem_cons.mpr ⟨List.mem_of_getElem? (i := 233) rfl, List.forall_mem_cons.mpr ⟨List.mem_of_getElem? (i := 234) (by decide +kernel), List.forall_mem_cons.mpr ⟨List.mem_of_getElem? (i := 236) (by decide +kernel), List.forall_mem_cons.mpr ⟨List.mem_of_getElem? (i := 4) (by decide +kernel), List.forall_mem_cons.mpr ⟨List.mem_of_getElem? (i := 237) rfl, List.forall_mem_cons.mpr ⟨List.mem_of_getElem? (i := 440) (by decide +kernel), List.forall_mem_cons.mpr ⟨List.mem_of_getElem? (i := 441) (by decide +kernel), List.forall_mem_cons.mpr ⟨List.mem_of_getElem? (i := 442) rfl, List.forall_mem_cons.mpr ⟨List.mem_of_getElem? (i := 443) (by decide +kernel), List.forall_mem_cons.mpr ⟨List.mem_of_getElem? (i := 480) (by decide +kernel), List.forall_mem_cons.mpr ⟨List.mem_of_getElem? (i := 481) (by decide +kernel), List.forall_mem_cons.mpr ⟨List.mem_of_getElem? (i := 482) (by decide +kernel), List.forall_mem_cons.mpr ⟨List.mem_of_getElem? (i := 484) (by decide +kernel), List.forall_mem_cons.mpr ⟨List.mem_of_getElem? (i := 485) (by decide +kernel), List.forall_mem_cons.mpr ⟨List.mem_of_getElem? (i := 486) (by decide +kernel), List.forall_mem_cons.mpr ⟨List.mem_of_getElem? (i := 487) (by decide +kernel), List.forall_mem_cons.mpr ⟨List.mem_of_getElem? (i := 488) (by decide +kernel), List.forall_mem_cons.mpr ⟨List.mem_of_getElem? (i := 489) (by decide +kernel), List.forall_mem_cons.mpr ⟨List.mem_of_getElem? (i := 490) (by decide +kernel), fun _ h => absurd h List.not_mem_nil⟩⟩⟩⟩⟩⟩⟩⟩⟩⟩⟩⟩⟩⟩⟩⟩⟩⟩⟩⟩⟩⟩⟩⟩
set_option maxRecDepth 20000 in
theorem wsL_law_r6_in : ∀ w ∈ wsL_law_r6, w ∈ lw_tbl := List.forall_mem_cons.mpr ⟨List.mem_of_getElem? (i := 492) (by decide +kernel), List.forall_mem_cons.mpr ⟨List.mem_of_getElem? (i := 493) (by decide +kernel), List.forall_mem_cons.mpr ⟨List.mem_of_getElem? (i := 496) (by decide +kernel), List.forall_mem_cons.mpr ⟨List.mem_of_getElem? (i := 498) (by decide +kernel), List.forall_mem_cons.mpr ⟨List.mem_of_getElem? (i := 500) (by decide +kernel), List.forall_mem_cons.mpr ⟨List.mem_of_getElem? (i := 501) (by decide +kernel), List.forall_mem_cons.mpr ⟨List.mem_of_getElem? (i := 502) (by decide +kernel), List.forall_mem_cons.mpr ⟨List.mem_of_getElem? (i := 504) (by decide +kernel), List.forall_mem_cons.mpr ⟨List.mem_of_getElem? (i := 505) (by decide +kernel), List.forall_mem_cons.mpr ⟨List.mem_of_getElem? (i := 506) (by decide +kernel), List.forall_mem_cons.mpr ⟨List.mem_of_getElem? (i := 444) (by decide +kernel), List.forall_mem_cons.mpr ⟨List.mem_of_getElem? (i := 446) (by decide +kernel), List.forall_mem_cons.mpr ⟨List.mem_of_getElem? (i := 14) (by decide +kernel), List.forall_mem_cons.mpr ⟨List.mem_of_getElem? (i := 447) rfl, List.forall_mem_cons.mpr ⟨List.mem_of_getElem? (i := 483) (by decide +kernel), List.forall_mem_cons.mpr ⟨List.mem_of_getElem? (i := 479) (by decide +kernel), List.forall_mem_cons.mpr ⟨List.mem_of_getElem? (i := 448) (by decide +kernel), List.forall_mem_cons.mpr ⟨List.mem_of_getElem? (i := 450) (by decide +kernel), List.forall_mem_cons.mpr ⟨List.mem_of_getElem? (i := 15) (by decide +kernel), List.forall_mem_cons.mpr ⟨List.mem_of_getElem? (i := 451) rfl, List.forall_mem_cons.mpr ⟨List.mem_of_getElem? (i := 491) (by decide +kernel), List.forall_mem_cons.mpr ⟨List.mem_of_getElem? (i := 494) (by decide +kernel), List.forall_mem_cons.mpr ⟨List.mem_of_getElem? (i := 452) (by decide +kernel), List.forall_mem_cons.mpr ⟨List.mem_of_getElem? (i := 454) (by decide +kernel), fun _ h => absurd h List.not_mem_nil⟩⟩⟩⟩⟩⟩⟩⟩⟩⟩⟩⟩⟩⟩⟩⟩⟩⟩⟩⟩⟩⟩⟩⟩
set_option maxRecDepth 20000 in
theorem wsL_law_r7_in : ∀ w ∈ wsL_law_r7, w ∈ lw_tbl := List.forall_mem_cons.mpr ⟨List.mem_of_getElem? (i := 16) (by decide +kernel), List.forall_mem_cons.mpr ⟨List.mem_of_getElem? (i := 455) rfl, List.forall_mem_cons.mpr ⟨List.mem_of_getElem? (i := 456) (by decide +kernel), List.forall_mem_cons.mpr ⟨List.mem_of_getElem? (i := 458) (by decide +kernel), List.forall_mem_cons.mpr ⟨List.mem_of_getElem? (i := 17) (by decide +kernel), List.forall_mem_cons.mpr ⟨List.mem_of_getElem? (i := 459) rfl, List.forall_mem_cons.mpr ⟨List.mem_of_getElem? (i := 460) (by decide +kernel), List.forall_mem_cons.mpr ⟨List.mem_of_getElem? (i := 461) (by decide +kernel), List.forall_mem_cons.mpr ⟨List.mem_of_getElem? (i := 462) rfl, List.forall_mem_cons.mpr ⟨List.mem_of_getElem? (i := 463) (by decide +kernel), List.forall_mem_cons.mpr ⟨List.mem_of_getElem? (i := 465) (by decide +kernel), List.forall_mem_cons.mpr ⟨List.mem_of_getElem? (i := 18) (by decide +kernel), List.forall_mem_cons.mpr ⟨List.mem_of_getElem? (i := 466) rfl, List.forall_mem_cons.mpr ⟨List.mem_of_getElem? (i := 467) (by decide +kernel), List.forall_mem_cons.mpr ⟨List.mem_of_getElem? (i := 469) (by decide +kernel), List.forall_mem_cons.mpr ⟨List.mem_of_getElem? (i := 19) (by decide +kernel), List.forall_mem_cons.mpr ⟨List.mem_of_getElem? (i := 470) rfl, List.forall_mem_cons.mpr ⟨List.mem_of_getElem? (i := 471) (by decide +kernel), List.forall_mem_cons.mpr ⟨List.mem_of_getElem? (i := 473) (by decide +kernel), List.forall_mem_cons.mpr ⟨List.mem_of_getElem? (i := 20) (by decide +kernel), List.forall_mem_cons.mpr ⟨List.mem_of_getElem? (i := 474) rfl, List.forall_mem_cons.mpr ⟨List.mem_of_getElem? (i := 475) (by decide +kernel), List.forall_mem_cons.mpr ⟨List.mem_of_getElem? (i := 477) (by decide +kernel), List.forall_mem_cons.mpr ⟨List.mem_of_getElem? (i := 21) (by decide +kernel), fun _ h => absurd h List.not_mem_nil⟩⟩⟩⟩⟩⟩⟩⟩⟩⟩⟩⟩⟩⟩⟩⟩⟩⟩⟩⟩⟩⟩⟩⟩
set_option maxRecDepth 20000 in
theorem wsL_law_r8_in : ∀ w ∈ wsL_law_r8, w ∈ lw_tbl := List.forall_mem_cons.mpr ⟨List.mem_of_getElem? (i := 478) rfl, List.forall_mem_cons.mpr ⟨List.mem_of_getElem? (i := 269) (by decide +kernel), List.forall_mem_cons.mpr ⟨List.mem_of_getElem? (i := 270) (by decide +kernel), List.forall_mem_cons.mpr ⟨List.mem_of_getElem? (i := 271) (by decide +kernel), List.forall_mem_cons.mpr ⟨List.mem_of_getElem? (i := 272) rfl, List.forall_mem_cons.mpr ⟨List.mem_of_getElem? (i := 273) (by decide +kernel), List.forall_mem_cons.mpr ⟨List.mem_of_getElem? (i := 274) (by decide +kernel), List.forall_mem_cons.mpr ⟨List.mem_of_getElem? (i := 275) rfl, List.forall_mem_cons.mpr ⟨List.mem_of_getElem? (i := 564) (by decide +kernel), List.forall_mem_cons.mpr ⟨List.mem_of_getElem? (i := 565) (by decide +kernel), List.forall_mem_cons.mpr ⟨List.mem_of_getElem? (i := 566) (by decide +kernel), List.forall_mem_cons.mpr ⟨List.mem_of_getElem? (i := 567) rfl, List.forall_mem_cons.mpr ⟨List.mem_of_getElem? (i := 568) (by decide +kernel), List.forall_mem_cons.mpr ⟨List.mem_of_getElem? (i := 569) (by decide +kernel), List.forall_mem_cons.mpr ⟨List.mem_of_getElem? (i := 570) rfl, List.forall_mem_cons.mpr ⟨List.mem_of_getElem? (i := 571) (by decide +kernel), List.forall_mem_cons.mpr ⟨List.mem_of_getElem? (i := 572) (by decide +kernel), List.forall_mem_cons.mpr ⟨List.mem_of_getElem? (i := 573) rfl, List.forall_mem_cons.mpr ⟨List.mem_of_getElem? (i := 276) (by decide +kernel), List.forall_mem_cons.mpr ⟨List.mem_of_getElem? (i := 277) (by decide +kernel), List.forall_mem_cons.mpr ⟨List.mem_of_getElem? (i := 278) (by decide +kernel), List.forall_mem_cons.mpr ⟨List.mem_of_getElem? (i := 279) rfl, List.forall_mem_cons.mpr ⟨List.mem_of_getElem? (i := 280) (by decide +kernel), List.forall_mem_cons.mpr ⟨List.mem_of_getElem? (i := 282) (by decide +kernel), fun _ h => absurd h List.not_mem_nil⟩⟩⟩⟩⟩⟩⟩⟩⟩⟩⟩⟩⟩⟩⟩⟩⟩⟩⟩⟩⟩⟩⟩⟩
set_option maxRecDepth 20000 in
theorem wsL_law_r9_in : ∀ w ∈ wsL_law_r9, w ∈ lw_tbl := List.forall_mem_cons.mpr ⟨List.mem_of_getElem? (i := 5) (by decide +kernel), List.forall_mem_cons.mpr ⟨List.mem_of_getElem? (i := 283) rfl, List.forall_mem_cons.mpr ⟨List.mem_of_getElem? (i := 574) (by decide +kernel), List.forall_mem_cons.mpr ⟨List.mem_of_getElem? (i := 575) (by decide +kernel), List.forall_mem_cons.mpr ⟨List.mem_of_getElem? (i := 576) (by decide +kernel), List.forall_mem_cons.mpr ⟨List.mem_of_getElem? (i := 577) rfl, List.forall_mem_cons.mpr ⟨List.mem_of_getElem? (i := 578) (by decide +kernel), List.forall_mem_cons.mpr ⟨List.mem_of_getElem? (i := 580) (by decide +kernel), List.forall_mem_cons.mpr ⟨List.mem_of_getElem? (i := 22) (by decide +kernel), List.forall_mem_cons.mpr ⟨List.mem_of_getElem? (i := 581) rfl, List.forall_mem_cons.mpr ⟨List.mem_of_getElem? (i := 284) (by decide +kernel), List.forall_mem_cons.mpr ⟨List.mem_of_getElem? (i := 285) (by decide +kernel), List.forall_mem_cons.mpr ⟨List.mem_of_getElem? (i := 286) (by decide +kernel), List.forall_mem_cons.mpr ⟨List.mem_of_getElem? (i := 287) rfl, List.forall_mem_cons.mpr ⟨List.mem_of_getElem? (i := 288) (by decide +kernel), List.forall_mem_cons.mpr ⟨List.mem_of_getElem? (i := 582) (by decide +kernel), List.forall_mem_cons.mpr ⟨List.mem_of_getElem? (i := 583) (by decide +kernel), List.forall_mem_cons.mpr ⟨List.mem_of_getElem? (i := 584) (by decide +kernel), List.forall_mem_cons.mpr ⟨List.mem_of_getElem? (i := 585) rfl, List.forall_mem_cons.mpr ⟨List.mem_of_getElem? (i := 586) (by decide +kernel), List.forall_mem_cons.mpr ⟨List.mem_of_getElem? (i := 289) (by decide +kernel), List.forall_mem_cons.mpr ⟨List.mem_of_getElem? (i := 290) (by decide +kernel), List.forall_mem_cons.mpr ⟨List.mem_of_getElem? (i := 291) (by decide +kernel), List.forall_mem_cons.mpr ⟨List.mem_of_getElem? (i := 292) rfl, fun _ h => absurd h List.not_mem_nil⟩⟩⟩⟩⟩⟩⟩⟩⟩⟩⟩⟩⟩⟩⟩⟩⟩⟩⟩⟩⟩⟩⟩⟩
set_option maxRecDepth 20000 in
theorem wsL_law_r10_in : ∀ w ∈ wsL_law_r10, w ∈ lw_tbl := List.forall_mem_cons.mpr ⟨List.mem_of_getElem? (i := 587) (by decide +kernel), List.forall_mem_cons.mpr ⟨List.mem_of_getElem? (i := 588) (by decide +kernel), List.forall_mem_cons.mpr ⟨List.mem_of_getElem? (i := 589) (by decide +kernel), List.forall_mem_cons.mpr ⟨List.mem_of_getElem? (i := 590) rfl, List.forall_mem_cons.mpr ⟨List.mem_of_getElem? (i := 293) (by decide +kernel), List.forall_mem_cons.mpr ⟨List.mem_of_getElem? (i := 294) (by decide +kernel), List.forall_mem_cons.mpr ⟨List.mem_of_getElem? (i := 295) (by decide +kernel), List.forall_mem_cons.mpr ⟨List.mem_of_getElem? (i := 296) rfl, List.forall_mem_cons.mpr ⟨List.mem_of_getElem? (i := 297) (by decide +kernel), List.forall_mem_cons.mpr ⟨List.mem_of_getElem? (i := 299) (by decide +kernel), List.forall_mem_cons.mpr ⟨List.mem_of_getElem? (i := 6) (by decide +kernel), List.forall_mem_cons.mpr ⟨List.mem_of_getElem? (i := 300) rfl, List.forall_mem_cons.mpr ⟨List.mem_of_getElem? (i := 591) (by decide +kernel), List.forall_mem_cons.mpr ⟨List.mem_of_getElem? (i := 592) (by decide +kernel), List.forall_mem_cons.mpr ⟨List.mem_of_getElem? (i := 593) (by decide +kernel), List.forall_mem_cons.mpr ⟨List.mem_of_getElem? (i := 594) rfl, List.forall_mem_cons.mpr ⟨List.mem_of_getElem? (i := 595) (by decide +kernel), List.forall_mem_cons.mpr ⟨List.mem_of_getElem? (i := 597) (by decide +kernel), List.forall_mem_cons.mpr ⟨List.mem_of_getElem? (i := 23) (by decide +kernel), List.forall_mem_cons.mpr ⟨List.mem_of_getElem? (i := 598) rfl, List.forall_mem_cons.mpr ⟨List.mem_of_getElem? (i := 302) (by decide +kernel), List.forall_mem_cons.mpr ⟨List.mem_of_getElem? (i := 303) (by decide +kernel), List.forall_mem_cons.mpr ⟨List.mem_of_getElem? (i := 304) (by decide +kernel), List.forall_mem_cons.mpr ⟨List.mem_of_getElem? (i := 305) rfl, fun _ h => absurd h List.not_mem_nil⟩⟩⟩⟩⟩⟩⟩⟩⟩⟩⟩⟩⟩⟩⟩⟩⟩⟩⟩⟩⟩⟩⟩⟩
set_option maxRecDepth 20000 in
theorem wsL_law_r11_in : ∀ w ∈ wsL_law_r11, w ∈ lw_tbl := List.forall_mem_cons.mpr ⟨List.mem_of_getElem? (i := 306) (by decide +kernel), List.forall_mem_cons.mpr ⟨List.mem_of_getElem? (i := 599) (by decide +kernel), List.forall_mem_cons.mpr ⟨List.mem_of_getElem? (i := 600) (by decide +kernel), List.forall_mem_cons.mpr ⟨List.mem_of_getElem? (i := 601) (by decide +kernel), List.forall_mem_cons.mpr ⟨List.mem_of_getElem? (i := 602) rfl, List.forall_mem_cons.mpr ⟨List.mem_of_getElem? (i := 603) (by decide +kernel), List.forall_mem_cons.mpr ⟨List.mem_of_getElem? (i := 605) (by decide +kernel), List.forall_mem_cons.mpr ⟨List.mem_of_getElem? (i := 24) (by decide +kernel), List.forall_mem_cons.mpr ⟨List.mem_of_getElem? (i := 606) rfl, List.forall_mem_cons.mpr ⟨List.mem_of_getElem? (i := 307) (by decide +kernel), List.forall_mem_cons.mpr ⟨List.mem_of_getElem? (i := 308) (by decide +kernel), List.forall_mem_cons.mpr ⟨List.mem_of_getElem? (i := 309) (by decide +kernel), List.forall_mem_cons.mpr ⟨List.mem_of_getElem? (i := 310) rfl, List.forall_mem_cons.mpr ⟨List.mem_of_getElem? (i := 607) (by decide +kernel), List.forall_mem_cons.mpr ⟨List.mem_of_getElem? (i := 608) (by decide +kernel), List.forall_mem_cons.mpr ⟨List.mem_of_getElem? (i := 609) (by decide +kernel), List.forall_mem_cons.mpr ⟨List.mem_of_getElem? (i := 610) rfl, List.forall_mem_cons.mpr ⟨List.mem_of_getElem? (i := 311) (by decide +kernel), List.forall_mem_cons.mpr ⟨List.mem_of_getElem? (i := 312) (by decide +kernel), List.forall_mem_cons.mpr ⟨List.mem_of_getElem? (i := 313) (by decide +kernel), List.forall_mem_cons.mpr ⟨List.mem_of_getElem? (i := 314) rfl, List.forall_mem_cons.mpr ⟨List.mem_of_getElem? (i := 611) (by decide +kernel), List.forall_mem_cons.mpr ⟨List.mem_of_getElem? (i := 612) (by decide +kernel), List.forall_mem_cons.mpr ⟨List.mem_of_getElem? (i := 613) (by decide +kernel), fun _ h => absurd h List.not_mem_nil⟩⟩⟩⟩⟩⟩⟩⟩⟩⟩⟩⟩⟩⟩⟩⟩⟩⟩⟩⟩⟩⟩⟩⟩
set_option maxRecDepth 20000 in
theorem wsL_law_r12_in : ∀ w ∈ wsL_law_r12, w ∈ lw_tbl := List.forall_mem_cons.mpr ⟨List.mem_of_getElem? (i := 614) rfl, List.forall_mem_cons.mpr ⟨List.mem_of_getElem? (i := 315) (by decide +kernel), List.forall_mem_cons.mpr ⟨List.mem_of_getElem? (i := 316) (by decide +kernel), List.forall_mem_cons.mpr ⟨List.mem_of_getElem? (i := 317) (by decide +kernel), List.forall_mem_cons.mpr ⟨List.mem_of_getElem? (i := 318) rfl, List.forall_mem_cons.mpr ⟨List.mem_of_getElem? (i := 319) (by decide +kernel), List.forall_mem_cons.mpr ⟨List.mem_of_getElem? (i := 322) (by decide +kernel), List.forall_mem_cons.mpr ⟨List.mem_of_getElem? (i := 7) (by decide +kernel), List.forall_mem_cons.mpr ⟨List.mem_of_getElem? (i := 323) rfl, List.forall_mem_cons.mpr ⟨List.mem_of_getElem? (i := 135) (by decide +kernel), List.forall_mem_cons.mpr ⟨List.mem_of_getElem? (i := 324) (by decide +kernel), List.forall_mem_cons.mpr ⟨List.mem_of_getElem? (i := 325) (by decide +kernel), List.forall_mem_cons.mpr ⟨List.mem_of_getElem? (i := 326) rfl, List.forall_mem_cons.mpr ⟨List.mem_of_getElem? (i := 330) (by decide +kernel), List.forall_mem_cons.mpr ⟨List.mem_of_getElem? (i := 8) (by decide +kernel), List.forall_mem_cons.mpr ⟨List.mem_of_getElem? (i := 331) rfl, List.forall_mem_cons.mpr ⟨List.mem_of_getElem? (i := 615) (by decide +kernel), List.forall_mem_cons.mpr ⟨List.mem_of_getElem? (i := 616) (by decide +kernel), List.forall_mem_cons.mpr ⟨List.mem_of_getElem? (i := 617) (by decide +kernel), List.forall_mem_cons.mpr ⟨List.mem_of_getElem? (i := 618) rfl, List.forall_mem_cons.mpr ⟨List.mem_of_getElem? (i := 619) (by decide +kernel), List.forall_mem_cons.mpr ⟨List.mem_of_getElem? (i := 495) (by decide +kernel), List.forall_mem_cons.mpr ⟨List.mem_of_getElem? (i := 620) (by decide +kernel), List.forall_mem_cons.mpr ⟨List.mem_of_getElem? (i := 622) (by decide +kernel), fun _ h => absurd h List.not_mem_nil⟩⟩⟩⟩⟩⟩⟩⟩⟩⟩⟩⟩⟩⟩⟩⟩⟩⟩⟩⟩⟩⟩⟩⟩
set_option maxRecDepth 20000 in
theorem wsL_law_r13_in : ∀ w ∈ wsL_law_r13, w ∈ lw_tbl := List.forall_mem_cons.mpr ⟨List.mem_of_getElem? (i := 25) (by decide +kernel), List.forall_mem_cons.mpr ⟨List.mem_of_getElem? (i := 623) rfl, List.forall_mem_cons.mpr ⟨List.mem_of_getElem? (i := 624) (by decide +kernel), List.forall_mem_cons.mpr ⟨List.mem_of_getElem? (i := 626) (by decide +kernel), List.forall_mem_cons.mpr ⟨List.mem_of_getElem? (i := 26) (by decide +kernel), List.forall_mem_cons.mpr ⟨List.mem_of_getElem? (i := 627) rfl, List.forall_mem_cons.mpr ⟨List.mem_of_getElem? (i := 332) (by decide +kernel), List.forall_mem_cons.mpr ⟨List.mem_of_getElem? (i := 333) (by decide +kernel), List.forall_mem_cons.mpr ⟨List.mem_of_getElem? (i := 334) (by decide +kernel), List.forall_mem_cons.mpr ⟨List.mem_of_getElem? (i := 335) rfl, List.forall_mem_cons.mpr ⟨List.mem_of_getElem? (i := 338) (by decide +kernel), List.forall_mem_cons.mpr ⟨List.mem_of_getElem? (i := 9) (by decide +kernel), List.forall_mem_cons.mpr ⟨List.mem_of_getElem? (i := 339) rfl, List.forall_mem_cons.mpr ⟨List.mem_of_getElem? (i := 94) (by decide +kernel), List.forall_mem_cons.mpr ⟨List.mem_of_getElem? (i := 628) (by decide +kernel), List.forall_mem_cons.mpr ⟨List.mem_of_getElem? (i := 629) (by decide +kernel), List.forall_mem_cons.mpr ⟨List.mem_of_getElem? (i := 630) (by decide +kernel), List.forall_mem_cons.mpr ⟨List.mem_of_getElem? (i := 631) rfl, List.forall_mem_cons.mpr ⟨List.mem_of_getElem? (i := 497) (by decide +kernel), List.forall_mem_cons.mpr ⟨List.mem_of_getElem? (i := 632) (by decide +kernel), List.forall_mem_cons.mpr ⟨List.mem_of_getElem? (i := 634) (by decide +kernel), List.forall_mem_cons.mpr ⟨List.mem_of_getElem? (i := 27) (by decide +kernel), List.forall_mem_cons.mpr ⟨List.mem_of_getElem? (i := 635) rfl, List.forall_mem_cons.mpr ⟨List.mem_of_getElem? (i := 340) (by decide +kernel), fun _ h => absurd h List.not_mem_nil⟩⟩⟩⟩⟩⟩⟩⟩⟩⟩⟩⟩⟩⟩⟩⟩⟩⟩⟩⟩⟩⟩⟩⟩
set_option maxRecDepth 20000 in
theorem wsL_law_r14_in : ∀ w ∈ wsL_law_r14, w ∈ lw_tbl := List.forall_mem_cons.mpr ⟨List.mem_of_getElem? (i := 341) (by decide +kernel), List.forall_mem_cons.mpr ⟨List.mem_of_getElem? (i := 342) (by decide +kernel), List.forall_mem_cons.mpr ⟨List.mem_of_getElem? (i := 343) rfl, List.forall_mem_cons.mpr ⟨List.mem_of_getElem? (i := 636) (by decide +kernel), List.forall_mem_cons.mpr ⟨List.mem_of_getElem? (i := 637) (by decide +kernel), List.forall_mem_cons.mpr ⟨List.mem_of_getElem? (i := 638) (by decide +kernel), List.forall_mem_cons.mpr ⟨List.mem_of_getElem? (i := 639) rfl, List.forall_mem_cons.mpr ⟨List.mem_of_getElem? (i := 344) (by decide +kernel), List.forall_mem_cons.mpr ⟨List.mem_of_getElem? (i := 345) (by decide +kernel), List.forall_mem_cons.mpr ⟨List.mem_of_getElem? (i := 346) (by decide +kernel), List.forall_mem_cons.mpr ⟨List.mem_of_getElem? (i := 347) rfl, List.forall_mem_cons.mpr ⟨List.mem_of_getElem? (i := 640) (by decide +kernel), List.forall_mem_cons.mpr ⟨List.mem_of_getElem? (i := 641) (by decide +kernel), List.forall_mem_cons.mpr ⟨List.mem_of_getElem? (i := 642) (by decide +kernel), List.forall_mem_cons.mpr ⟨List.mem_of_getElem? (i := 643) rfl, List.forall_mem_cons.mpr ⟨List.mem_of_getElem? (i := 348) (by decide +kernel), List.forall_mem_cons.mpr ⟨List.mem_of_getElem? (i := 349) (by decide +kernel), List.forall_mem_cons.mpr ⟨List.mem_of_getElem? (i := 350) (by decide +kernel), List.forall_mem_cons.mpr ⟨List.mem_of_getElem? (i := 351) rfl, List.forall_mem_cons.mpr ⟨List.mem_of_getElem? (i := 354) (by decide +kernel), List.forall_mem_cons.mpr ⟨List.mem_of_getElem? (i := 10) (by decide +kernel), List.forall_mem_cons.mpr ⟨List.mem_of_getElem? (i := 355) rfl, List.forall_mem_cons.mpr ⟨List.mem_of_getElem? (i := 117) (by decide +kernel), List.forall_mem_cons.mpr ⟨List.mem_of_getElem? (i := 356) (by decide +kernel), fun _ h => absurd h List.not_mem_nil⟩⟩⟩⟩⟩⟩⟩⟩⟩⟩⟩⟩⟩⟩⟩⟩⟩⟩⟩⟩⟩⟩⟩⟩
set_option maxRecDepth 20000 in
theorem wsL_law_r15_in : ∀ w ∈ wsL_law_r15, w ∈ lw_tbl := List.forall_mem_cons.mpr ⟨List.mem_of_getElem? (i := 358) (by decide +kernel), List.forall_mem_cons.mpr ⟨List.mem_of_getElem? (i := 11) (by decide +kernel), List.forall_mem_cons.mpr ⟨List.mem_of_getElem? (i := 359) rfl, List.forall_mem_cons.mpr ⟨List.mem_of_getElem? (i := 644) (by decide +kernel), List.forall_mem_cons.mpr ⟨List.mem_of_getElem? (i := 645) (by decide +kernel), List.forall_mem_cons.mpr ⟨List.mem_of_getElem? (i := 646) (by decide +kernel), List.forall_mem_cons.mpr ⟨List.mem_of_getElem? (i := 647) rfl, List.forall_mem_cons.mpr ⟨List.mem_of_getElem? (i := 499) (by decide +kernel), List.forall_mem_cons.mpr ⟨List.mem_of_getElem? (i := 648) (by decide +kernel), List.forall_mem_cons.mpr ⟨List.mem_of_getElem? (i := 650) (by decide +kernel), List.forall_mem_cons.mpr ⟨List.mem_of_getElem? (i := 28) (by decide +kernel), List.forall_mem_cons.mpr ⟨List.mem_of_getElem? (i := 651) rfl, List.forall_mem_cons.mpr ⟨List.mem_of_getElem? (i := 652) (by decide +kernel), List.forall_mem_cons.mpr ⟨List.mem_of_getElem? (i := 654) (by decide +kernel), List.forall_mem_cons.mpr ⟨List.mem_of_getElem? (i := 29) (by decide +kernel), List.forall_mem_cons.mpr ⟨List.mem_of_getElem? (i := 655) rfl, List.forall_mem_cons.mpr ⟨List.mem_of_getElem? (i := 361) (by decide +kernel), List.forall_mem_cons.mpr ⟨List.mem_of_getElem? (i := 362) (by decide +kernel), List.forall_mem_cons.mpr ⟨List.mem_of_getElem? (i := 363) (by decide +kernel), List.forall_mem_cons.mpr ⟨List.mem_of_getElem? (i := 364) rfl, List.forall_mem_cons.mpr ⟨List.mem_of_getElem? (i := 656) (by decide +kernel), List.forall_mem_cons.mpr ⟨List.mem_of_getElem? (i := 657) (by decide +kernel), List.forall_mem_cons.mpr ⟨List.mem_of_getElem? (i := 658) (by decide +kernel), List.forall_mem_cons.mpr ⟨List.mem_of_getElem? (i := 659) rfl, fun _ h => absurd h List.not_mem_nil⟩⟩⟩⟩⟩⟩⟩⟩⟩⟩⟩⟩⟩⟩⟩⟩⟩⟩⟩⟩⟩⟩⟩⟩
set_option maxRecDepth 20000 in
theorem wsL_law_r16_in : ∀ w ∈ wsL_law_r16, w ∈ lw_tbl := List.forall_mem_cons.mpr ⟨List.mem_of_getElem? (i := 365) (by decide +kernel), List.forall_mem_cons.mpr ⟨List.mem_of_getElem? (i := 366) (by decide +kernel), List.forall_mem_cons.mpr ⟨List.mem_of_getElem? (i := 367) (by decide +kernel), List.forall_mem_cons.mpr ⟨List.mem_of_getElem? (i := 368) rfl, List.forall_mem_cons.mpr ⟨List.mem_of_getElem? (i := 246) (by decide +kernel), List.forall_mem_cons.mpr ⟨List.mem_of_getElem? (i := 369) (by decide +kernel), List.forall_mem_cons.mpr ⟨List.mem_of_getElem? (i := 41) (by decide +kernel), List.forall_mem_cons.mpr ⟨List.mem_of_getElem? (i := 371) (by decide +kernel), List.forall_mem_cons.mpr ⟨List.mem_of_getElem? (i := 372) rfl, List.forall_mem_cons.mpr ⟨List.mem_of_getElem? (i := 373) (by decide +kernel), List.forall_mem_cons.mpr ⟨List.mem_of_getElem? (i := 394) (by decide +kernel), List.forall_mem_cons.mpr ⟨List.mem_of_getElem? (i := 396) (by decide +kernel), List.forall_mem_cons.mpr ⟨List.mem_of_getElem? (i := 398) (by decide +kernel), List.forall_mem_cons.mpr ⟨List.mem_of_getElem? (i := 400) (by decide +kernel), List.forall_mem_cons.mpr ⟨List.mem_of_getElem? (i := 402) (by decide +kernel), List.forall_mem_cons.mpr ⟨List.mem_of_getElem? (i := 376) (by decide +kernel), List.forall_mem_cons.mpr ⟨List.mem_of_getElem? (i := 12) (by decide +kernel), List.forall_mem_cons.mpr ⟨List.mem_of_getElem? (i := 377) rfl, List.forall_mem_cons.mpr ⟨List.mem_of_getElem? (i := 378) (by decide +kernel), List.forall_mem_cons.mpr ⟨List.mem_of_getElem? (i := 379) (by decide +kernel), List.forall_mem_cons.mpr ⟨List.mem_of_getElem? (i := 380) rfl, List.forall_mem_cons.mpr ⟨List.mem_of_getElem? (i := 381) (by decide +kernel), List.forall_mem_cons.mpr ⟨List.mem_of_getElem? (i := 382) (by decide +kernel), List.forall_mem_cons.mpr ⟨List.mem_of_getElem? (i := 383) (by decide +kernel), fun _ h => absurd h List.not_mem_nil⟩⟩⟩⟩⟩⟩⟩⟩⟩⟩⟩⟩⟩⟩⟩⟩⟩⟩⟩⟩⟩⟩⟩⟩
set_option maxRecDepth 20000 in
theorem wsL_law_r17_in : ∀ w ∈ wsL_law_r17, w ∈ lw_tbl := List.forall_mem_cons.mpr ⟨List.mem_of_getElem? (i := 384) (by decide +kernel), List.forall_mem_cons.mpr ⟨List.mem_of_getElem? (i := 385) (by decide +kernel), List.forall_mem_cons.mpr ⟨List.mem_of_getElem? (i := 387) (by decide +kernel), List.forall_mem_cons.mpr ⟨List.mem_of_getElem? (i := 388) (by decide +kernel), List.forall_mem_cons.mpr ⟨List.mem_of_getElem? (i := 389) (by decide +kernel), List.forall_mem_cons.mpr ⟨List.mem_of_getElem? (i := 42) (by decide +kernel), List.forall_mem_cons.mpr ⟨List.mem_of_getElem? (i := 390) rfl, List.forall_mem_cons.mpr ⟨List.mem_of_getElem? (i := 391) (by decide +kernel), List.forall_mem_cons.mpr ⟨List.mem_of_getElem? (i := 393) (by decide +kernel), List.forall_mem_cons.mpr ⟨List.mem_of_getElem? (i := 392) (by decide +kernel), List.forall_mem_cons.mpr ⟨List.mem_of_getElem? (i := 43) (by decide +kernel), List.forall_mem_cons.mpr ⟨List.mem_of_getElem? (i := 660) (by decide +kernel), List.forall_mem_cons.mpr ⟨List.mem_of_getElem? (i := 661) (by decide +kernel), List.forall_mem_cons.mpr ⟨List.mem_of_getElem? (i := 662) (by decide +kernel), List.forall_mem_cons.mpr ⟨List.mem_of_getElem? (i := 663) rfl, List.forall_mem_cons.mpr ⟨List.mem_of_getElem? (i := 503) (by decide +kernel), List.forall_mem_cons.mpr ⟨List.mem_of_getElem? (i := 415) (by decide +kernel), List.forall_mem_cons.mpr ⟨List.mem_of_getElem? (i := 416) (by decide +kernel), List.forall_mem_cons.mpr ⟨List.mem_of_getElem? (i := 417) (by decide +kernel), List.forall_mem_cons.mpr ⟨List.mem_of_getElem? (i := 418) rfl, List.forall_mem_cons.mpr ⟨List.mem_of_getElem? (i := 419) (by decide +kernel), List.forall_mem_cons.mpr ⟨List.mem_of_getElem? (i := 421) (by decide +kernel), List.forall_mem_cons.mpr ⟨List.mem_of_getElem? (i := 13) (by decide +kernel), List.forall_mem_cons.mpr ⟨List.mem_of_getElem? (i := 422) rfl, fun _ h => absurd h List.not_mem_nil⟩⟩⟩⟩⟩⟩⟩⟩⟩⟩⟩⟩⟩⟩⟩⟩⟩⟩⟩⟩⟩⟩⟩⟩
set_option maxRecDepth 20000 in
theorem wsL_law_r18_in : ∀ w ∈ wsL_law_r18, w ∈ lw_tbl := List.forall_mem_cons.mpr ⟨List.mem_of_getElem? (i := 664) (by decide +kernel), List.forall_mem_cons.mpr ⟨List.mem_of_getElem? (i := 665) (by decide +kernel), List.forall_mem_cons.mpr ⟨List.mem_of_getElem? (i := 666) (by decide +kernel), List.forall_mem_cons.mpr ⟨List.mem_of_getElem? (i := 667) rfl, List.forall_mem_cons.mpr ⟨List.mem_of_getElem? (i := 668) (by decide +kernel), List.forall_mem_cons.mpr ⟨List.mem_of_getElem? (i := 670) (by decide +kernel), List.forall_mem_cons.mpr ⟨List.mem_of_getElem? (i := 30) (by decide +kernel), List.forall_mem_cons.mpr ⟨List.mem_of_getElem? (i := 671) rfl, List.forall_mem_cons.mpr ⟨List.mem_of_getElem? (i := 423) (by decide +kernel), List.forall_mem_cons.mpr ⟨List.mem_of_getElem? (i := 424) (by decide +kernel), List.forall_mem_cons.mpr ⟨List.mem_of_getElem? (i := 425) (by decide +kernel), List.forall_mem_cons.mpr ⟨List.mem_of_getElem? (i := 426) rfl, List.forall_mem_cons.mpr ⟨List.mem_of_getElem? (i := 672) (by decide +kernel), List.forall_mem_cons.mpr ⟨List.mem_of_getElem? (i := 673) (by decide +kernel), List.forall_mem_cons.mpr ⟨List.mem_of_getElem? (i := 674) (by decide +kernel), List.forall_mem_cons.mpr ⟨List.mem_of_getElem? (i := 675) rfl, List.forall_mem_cons.mpr ⟨List.mem_of_getElem? (i := 427) (by decide +kernel), List.forall_mem_cons.mpr ⟨List.mem_of_getElem? (i := 428) (by decide +kernel), List.forall_mem_cons.mpr ⟨List.mem_of_getElem? (i := 429) (by decide +kernel), List.forall_mem_cons.mpr ⟨List.mem_of_getElem? (i := 430) rfl, List.forall_mem_cons.mpr ⟨List.mem_of_getElem? (i := 431) (by decide +kernel), List.forall_mem_cons.mpr ⟨List.mem_of_getElem? (i := 432) (by decide +kernel), List.forall_mem_cons.mpr ⟨List.mem_of_getElem? (i := 433) rfl, List.forall_mem_cons.mpr ⟨List.mem_of_getElem? (i := 676) (by decide +kernel), fun _ h => absurd h List.not_mem_nil⟩⟩⟩⟩⟩⟩⟩⟩⟩⟩⟩⟩⟩⟩⟩⟩⟩⟩⟩⟩⟩⟩⟩⟩
set_option maxRecDepth 20000 in
theorem wsL_law_r19_in : ∀ w ∈ wsL_law_r19, w ∈ lw_tbl := List.forall_mem_cons.mpr ⟨List.mem_of_getElem? (i := 677) (by decide +kernel), List.forall_mem_cons.mpr ⟨List.mem_of_getElem? (i := 678) (by decide +kernel), List.forall_mem_cons.mpr ⟨List.mem_of_getElem? (i := 679) rfl, List.forall_mem_cons.mpr ⟨List.mem_of_getElem? (i := 434) (by decide +kernel), List.forall_mem_cons.mpr ⟨List.mem_of_getElem? (i := 435) (by decide +kernel), List.forall_mem_cons.mpr ⟨List.mem_of_getElem? (i := 436) (by decide +kernel), List.forall_mem_cons.mpr ⟨List.mem_of_getElem? (i := 437) rfl, List.forall_mem_cons.mpr ⟨List.mem_of_getElem? (i := 680) (by decide +kernel), List.forall_mem_cons.mpr ⟨List.mem_of_getElem? (i := 681) (by decide +kernel), List.forall_mem_cons.mpr ⟨List.mem_of_getElem? (i := 682) (by decide +kernel), List.forall_mem_cons.mpr ⟨List.mem_of_getElem? (i := 683) rfl, fun _ h => absurd h List.not_mem_nil⟩⟩⟩⟩⟩⟩⟩⟩⟩⟩⟩
theorem wsX70_in : ∀ w ∈ wsX70, w ∈ lw_tbl := by decide +kernel
theorem wsX80_in : ∀ w ∈ wsX80, w ∈ lw_tbl := by decide +kernel
theorem wsX10_in : ∀ w ∈ wsX10, w ∈ lw_tbl := by decide +kernel
theorem wsX00_in : ∀ w ∈ wsX00, w ∈ lw_tbl := by decide +kernel
theorem wsX20_in : ∀ w ∈ wsX20, w ∈ lw_tbl := by decide +kernel
theorem wsX30_in : ∀ w ∈ wsX30, w ∈ lw_tbl := by decide +kernel
theorem wsX40_in : ∀ w ∈ wsX40, w ∈ lw_tbl := by decide +kernel
theorem wsX60_in : ∀ w ∈ wsX60, w ∈ lw_tbl := by decide +kernel
theorem wsX50_in : ∀ w ∈ wsX50, w ∈ lw_tbl := by decide +kernel
theorem wsL_law_in : ∀ w ∈ wsL_law, w ∈ lw_tbl := List.forall_mem_append.mpr ⟨List.forall_mem_append.mpr ⟨List.forall_mem_append.mpr ⟨List.forall_mem_append.mpr ⟨List.forall_mem_append.mpr ⟨List.forall_mem_append.mpr ⟨List.forall_mem_append.mpr ⟨List.forall_mem_append.mpr ⟨List.forall_mem_append.mpr ⟨List.forall_mem_append.mpr ⟨List.forall_mem_append.mpr ⟨wsL_law_r1_in, List.forall_mem_append.mpr ⟨wsL_law_r2_in, List.forall_mem_append.mpr ⟨wsL_law_r3_in, List.forall_mem_append.mpr ⟨wsL_law_r4_in, List.forall_mem_append.mpr ⟨wsL_law_r5_in, List.forall_mem_append.mpr ⟨wsL_law_r6_in, List.forall_mem_append.mpr ⟨wsL_law_r7_in, List.forall_mem_append.mpr ⟨wsL_law_r8_in, List.forall_mem_append.mpr ⟨wsL_law_r9_in, List.forall_mem_append.mpr ⟨wsL_law_r10_in, List.forall_mem_append.mpr ⟨wsL_law_r11_in, List.forall_mem_append.mpr ⟨wsL_law_r12_in, List.forall_mem_append.mpr ⟨wsL_law_r13_in, List.forall_mem_append.mpr ⟨wsL_law_r14_in, List.forall_mem_append.mpr ⟨wsL_law_r15_in, List.forall_mem_append.mpr ⟨wsL_law_r16_in, List.forall_mem_append.mpr ⟨wsL_law_r17_in, List.forall_mem_append.mpr ⟨wsL_law_r18_in, wsL_law_r19_in⟩⟩⟩⟩⟩⟩⟩⟩⟩⟩⟩⟩⟩⟩⟩⟩⟩⟩, wsX70_in⟩, wsX80_in⟩, wsX10_in⟩, wsX00_in⟩, wsX20_in⟩, wsX30_in⟩, wsX40_in⟩, wsX60_in⟩, wsX50_in⟩, fun _ h => absurd h List.not_mem_nil⟩
-- rest --
theorem inlX0 : ∀ w ∈ wsX00, w ∈ wsL_law := fun _ h => List.mem_append_left _ (List.mem_append_left _ (List.mem_append_left _ (List.mem_append_left _ (List.mem_append_left _ (List.mem_append_left _ (List.mem_append_right _ h))))))
theorem inX0 : ∀ w ∈ wsX00, w ∈ lw_tbl := fun w h => wsL_law_in w (inlX0 w h)
theorem inlX1 : ∀ w ∈ wsX10, w ∈ wsL_law := fun _ h => List.mem_append_left _ (List.mem_append_left _ (List.mem_append_left _ (List.mem_append_left _ (List.mem_append_left _ (List.mem_append_left _ (List.mem_append_left _ (List.mem_append_right _ h)))))))
theorem inX1 : ∀ w ∈ wsX10, w ∈ lw_tbl := fun w h => wsL_law_in w (inlX1 w h)
theorem inlX2 : ∀ w ∈ wsX20, w ∈ wsL_law := fun _ h => List.mem_append_left _ (List.mem_append_left _ (List.mem_append_left _ (List.mem_append_left _ (List.mem_append_left _ (List.mem_append_right _ h)))))
theorem inX2 : ∀ w ∈ wsX20, w ∈ lw_tbl := fun w h => wsL_law_in w (inlX2 w h)
theorem inlX3 : ∀ w ∈ wsX30, w ∈ wsL_law := fun _ h => List.mem_append_left _ (List.mem_append_left _ (List.mem_append_left _ (List.mem_append_left _ (List.mem_append_right _ h))))
theorem inX3 : ∀ w ∈ wsX30, w ∈ lw_tbl := fun w h => wsL_law_in w (inlX3 w h)
theorem inlX4 : ∀ w ∈ wsX40, w ∈ wsL_law := fun _ h => List.mem_append_left _ (List.mem_append_left _ (List.mem_append_left _ (List.mem_append_right _ h)))
theorem inX4 : ∀ w ∈ wsX40, w ∈ lw_tbl := fun w h => wsL_law_in w (inlX4 w h)
theorem inlX5 : ∀ w ∈ wsX50, w ∈ wsL_law := fun _ h => List.mem_append_left _ (List.mem_append_right _ h)
theorem inX5 : ∀ w ∈ wsX50, w ∈ lw_tbl := fun w h => wsL_law_in w (inlX5 w h)
theorem inlX6 : ∀ w ∈ wsX60, w ∈ wsL_law := fun _ h => List.mem_append_left _ (List.mem_append_left _ (List.mem_append_right _ h))
theorem inX6 : ∀ w ∈ wsX60, w ∈ lw_tbl := fun w h => wsL_law_in w (inlX6 w h)
theorem inlX7 : ∀ w ∈ wsX70, w ∈ wsL_law := fun _ h => List.mem_append_left _ (List.mem_append_left _ (List.mem_append_left _ (List.mem_append_left _ (List.mem_append_left _ (List.mem_append_left _ (List.mem_append_left _ (List.mem_append_left _ (List.mem_append_left _ (List.mem_append_right _ h)))))))))
theorem inX7 : ∀ w ∈ wsX70, w ∈ lw_tbl := fun w h => wsL_law_in w (inlX7 w h)
theorem inlX8 : ∀ w ∈ wsX80, w ∈ wsL_law := fun _ h => List.mem_append_left _ (List.mem_append_left _ (List.mem_append_left _ (List.mem_append_left _ (List.mem_append_left _ (List.mem_append_left _ (List.mem_append_left _ (List.mem_append_left _ (List.mem_append_right _ h))))))))
theorem inX8 : ∀ w ∈ wsX80, w ∈ lw_tbl := fun w h => wsL_law_in w (inlX8 w h)
theorem inJx8e188 : ∀ w ∈ wsJx8e1880, w ∈ lw_tbl := by decide +kernel
theorem inJ9 : ∀ w ∈ wsJ90, w ∈ lw_tbl := by decide +kernel
theorem inJ10 : ∀ w ∈ wsJ100, w ∈ lw_tbl := by decide +kernel
theorem inJ7 : ∀ w ∈ wsJ70, w ∈ lw_tbl := by decide +kernel
end
section
def nwF : List (String × Nat × String × String × String × String) := [(RX7, 72, "CallNumbers$Calls", "from", "[I", "CallNumbers"), (RX6, 30, "CallNumbers$Calls", "from", "[I", "CallNumbers"), (RX3, 28, "CallNumbers$Calls", "from", "[I", "CallNumbers"), (RX4, 71, "CallNumbers$Calls", "from", "[I", "CallNumbers"), (RX0, 19, "CallNumbers$Calls", "to", "[I", "CallNumbers"), (RX7, 76, "CallNumbers$Calls", "to", "[I", "CallNumbers"), (RX6, 33, "CallNumbers$Calls", "to", "[I", "CallNumbers"), (RX2, 47, "CallNumbers$Calls", "to", "[I", "CallNumbers"), (RX4, 62, "CallNumbers$Calls", "to", "[I", "CallNumbers"), (RX3, 43, "CallNumbers$Calls", "to", "[I", "CallNumbers"), (RX4, 25, "CallNumbers$Calls", "count", "I", "CallNumbers"), (RX7, 69, "CallNumbers$Calls", "count", "I", "CallNumbers"), (RX6, 25, "CallNumbers$Calls", "count", "I", "CallNumbers"), (RX5, 30, "CallNumbers$CallStack", "row", "[I", "CallNumbers"), (RX2, 32, "CallNumbers$CallStack", "row", "[I", "CallNumbers"), (RX7, 128, "CallNumbers$CallStack", "row", "[I", "CallNumbers"), (RX5, 36, "CallNumbers$CallStack", "count", "I", "CallNumbers"), (RX2, 29, "CallNumbers$CallStack", "count", "I", "CallNumbers"), (RX7, 127, "CallNumbers$CallStack", "count", "I", "CallNumbers"), (RX7, 136, "CallNumbers$Code", "start", "[I", "CallNumbers"), (RX7, 139, "CallNumbers$Code", "number", "[I", "CallNumbers"), (RX7, 142, "CallNumbers$Code", "via", "[I", "CallNumbers"), (RX5, 16, "CallNumbers$Code", "count", "I", "CallNumbers"), (RX7, 135, "CallNumbers$Code", "count", "I", "CallNumbers"), (RX7, 118, "CallNumbers$Decoder", "count", "I", "CallNumbers"), (RX3, 46, "CallNumbers$Plan", "ways", "[I", "CallNumbers"), (RX7, 101, "CallNumbers$Plan", "ways", "[I", "CallNumbers"), (RX2, 44, "CallNumbers$Plan", "adds", "[I", "CallNumbers"), (RX3, 23, "CallNumbers$Plan", "adds", "[I", "CallNumbers"), (RX7, 98, "CallNumbers$Plan", "adds", "[I", "CallNumbers"), (RX3, 33, "CallNumbers$Plan", "seen", "I", "CallNumbers"), (RX7, 104, "CallNumbers$Plan", "met", "I", "CallNumbers"), (RX7, 107, "CallNumbers$Plan", "anchors", "I", "CallNumbers"), (RX7, 110, "CallNumbers$Plan", "rings", "I", "CallNumbers"), (RX2, 35, "CallNumbers$Plan", "plain", "I", "CallNumbers"), (RX3, 36, "CallNumbers$Plan", "plain", "I", "CallNumbers"), (RX7, 91, "CallNumbers$Plan", "plain", "I", "CallNumbers"), (RX4, 51, "CallNumbers$Walk", "ended", "[I", "CallNumbers"), (RX4, 48, "CallNumbers$Walk", "endedCount", "I", "CallNumbers"), (RX4, 34, "CallNumbers$Walk", "met", "I", "CallNumbers"), (RX4, 38, "CallNumbers$Walk", "rings", "I", "CallNumbers"), (RX7, 155, "CallNumbers$Snap", "plan", "I", "CallNumbers"), (RX7, 158, "CallNumbers$Snap", "here", "I", "CallNumbers"), (RX7, 160, "CallNumbers$Snap", "pieces", "I", "CallNumbers"), (RX7, 163, "CallNumbers$Snap", "lastNumber", "I", "CallNumbers"), (RX7, 166, "CallNumbers$Snap", "row", "[I", "CallNumbers")]
def nwM : List (String × Nat × MethodName × String) := [(RX7, 9, yX1_init, "CallNumbers"), (RX7, 24, yX0_init, "CallNumbers"), (RX7, 37, yX2_init, "CallNumbers"), (RX7, 44, yX3_init, "CallNumbers"), (RX7, 53, yX4_init, "CallNumbers"), (RX7, 58, yX4_draw, "CallNumbers"), (RX4, 20, yX6_init, "CallNumbers"), (RX4, 21, yX6_goThrough, "CallNumbers"), (RX6, 36, yX7_has, "CallNumbers"), (RX4, 74, yX7_has, "CallNumbers"), (RX7, 87, yX4_kindOf, "CallNumbers"), (RX7, 114, yX3_read, "CallNumbers"), (RX3, 39, yX7_has, "CallNumbers"), (RX7, 119, yX3_nth, "CallNumbers"), (RX7, 123, yX0_here, "CallNumbers"), (RX7, 131, yX2_write, "CallNumbers"), (RX2, 40, yX7_has, "CallNumbers"), (RX7, 148, yX5_init, "CallNumbers"), (RX5, 24, yX2_lastNumber, "CallNumbers")]
def NW (U : State) : Prop := (∀ (k : Nat) (q : String × Nat × String × String × String × String), nwF[k]? = some q → va_Nw (.fieldLinkNest q.1 q.2.1 q.2.2.1 q.2.2.2.1 q.2.2.2.2.1 q.2.2.2.2.2) U) ∧ (∀ (k : Nat) (q : String × Nat × MethodName × String), nwM[k]? = some q → va_Nw (.methodLinkNest q.1 q.2.1 q.2.2.1 q.2.2.2) U)
theorem NW.warm {s U : State} (hW : s.WarmedH U.vm) (h : NW s) : NW U := ⟨fun k q hq => va_Nw.warmF hW (h.1 k q hq), fun k q hq => va_Nw.warmM hW (h.2 k q hq)⟩
theorem NW.call {U : State} {g : JFrame} {mk : MethodId} {a : Array Value} (h : NW U) : NW (U.calling g mk a) := ⟨fun k q hq => va_Nw.same rfl rfl (h.1 k q hq), fun k q hq => va_Nw.same rfl rfl (h.2 k q hq)⟩
theorem NW.f {s : State} {args : Array Value} (h : NW s) (k : Nat) {a : String} {i : Nat} {b n d w : String} (hk : nwF[k]? = some (a, i, b, n, d, w)) : (Cond.fieldLinkNest a i b n d w).before args s = true := va_Nw.use rfl (h.1 k _ hk)
theorem NW.m {s : State} (h : NW s) (k : Nat) {a : String} {i : Nat} {y : MethodName} {w : String} (hk : nwM[k]? = some (a, i, y, w)) : va_Nw (.methodLinkNest a i y w) s := h.2 k _ hk
abbrev GG : Type := va_G × ClassId × ClassId × ClassId
abbrev tyL (G : GG) : List (ClassId × FieldType) := [(G.2.1, .int), (G.2.2.1, .object "CallNumbers$Plan"), (G.2.2.2, .object "CallNumbers$Snap")]
abbrev iA (G : GG) (n : Nat) (f : Nat → Int32) : va_E := .inl (G.2.1, n, .inl f)
abbrev pA (G : GG) (n : Nat) (f : Nat → Option Nat) : va_E := .inl (G.2.2.1, n, .inr (.inr (.inr (.inr f))))
abbrev sA (G : GG) (n : Nat) (f : Nat → Option Nat) : va_E := .inl (G.2.2.2, n, .inr (.inr (.inr (.inr f))))
abbrev ob (c : Nat) (fs : List Value) : va_E := .inr (c, fs)
abbrev PP (G : GG) (ws : va_W) (H : Heap) : Prop := va_P G.1 vwCl ws H
def KK (G : GG) (U : State) : Prop := va_K G.1 vwCl (tyL G) U ∧ NW U ∧ va_AO "CallNumbers$Plan" U ∧ va_AO "CallNumbers$Snap" U
theorem KK.warm {G : GG} {s U : State} (hW : s.WarmedH U.vm) (h : KK G s) : KK G U := ⟨va_K.moved hW.alike h.1, NW.warm hW h.2.1, va_AO.moved hW.alike h.2.2.1, va_AO.moved hW.alike h.2.2.2⟩
theorem KK.call {G : GG} {U : State} {g : JFrame} {mk : MethodId} {a : Array Value} (h : KK G U) : KK G (U.calling g mk a) := ⟨va_K.moved (u := U) (U := U.calling g mk a) (Vm.Alike.refl U.vm) h.1, NW.call h.2.1, va_AO.moved (u := U) (U := U.calling g mk a) (Vm.Alike.refl U.vm) h.2.2.1, va_AO.moved (u := U) (U := U.calling g mk a) (Vm.Alike.refl U.vm) h.2.2.2⟩
def RPc (G : GG) (av : List Value) (ws : va_W) : Array Value → State → Prop := va_Pc av (fun U => PP G ws U.heap ∧ KK G U)
def WPc (G : GG) (av : List Value) (ws : va_W) (sz : Nat) : Array Value → State → Prop := va_Pc av (fun U => U.heap.size = sz ∧ PP G ws U.heap ∧ KK G U ∧ va_D (fun _ => True) ws)
theorem RPc.blind {G : GG} {av : List Value} {ws : va_W} : FrameBlind (RPc G av ws) := fun _ _ _ _ q => ⟨q.1, q.2.1, KK.call q.2.2⟩
theorem WPc.blind {G : GG} {av : List Value} {ws : va_W} {sz : Nat} : FrameBlind (WPc G av ws sz) := fun _ _ _ _ q => ⟨q.1, q.2.1, q.2.2.1, KK.call q.2.2.2.1, q.2.2.2.2⟩
theorem preR {G : GG} {s : State} {H : Heap} {As : List Value} {ws : va_W} (hK : KK G s) (hP : PP G ws H) : PreS s H (RPc G As ws) As := ⟨RPc.blind, fun U hU hW => ⟨rfl, by rw [hU]; exact hP, hK.warm hW⟩⟩
theorem preRV {G : GG} {s : State} {H : Heap} {b : Nat} {As : List Value} {ws : va_W} (hK : KK G s) (hP : PP G ws H) (q0 ci : Nat) {q : vw_C} {fs : List Value} (hc : vwCl[ci]? = some q) (he : ws[q0]? = some (b, .inr (ci, fs))) : PreV s H q.1 b (RPc G (.ref b :: As) ws) As := ⟨RPc.blind, va_recv hK.1 hP hc he, fun U hU hW => ⟨rfl, by rw [hU]; exact hP, hK.warm hW⟩⟩
theorem preW {G : GG} {s : State} {H : Heap} {As : List Value} {ws : va_W} {A : Nat → Prop} (hK : KK G s) (hP : PP G ws H) (hD : va_D A ws) : PreS s H (WPc G As ws H.size) As := ⟨WPc.blind, fun U hU hW => ⟨rfl, by rw [hU], by rw [hU]; exact hP, hK.warm hW, hD.weaken (fun _ _ _ _ => trivial)⟩⟩
theorem preWV {G : GG} {s : State} {H : Heap} {b : Nat} {As : List Value} {ws : va_W} {A : Nat → Prop} (hK : KK G s) (hP : PP G ws H) (hD : va_D A ws) (q0 ci : Nat) {q : vw_C} {fs : List Value} (hc : vwCl[ci]? = some q) (he : ws[q0]? = some (b, .inr (ci, fs))) : PreV s H q.1 b (WPc G (.ref b :: As) ws H.size) As := ⟨WPc.blind, va_recv hK.1 hP hc he, fun U hU hW => ⟨rfl, by rw [hU], by rw [hU]; exact hP, hK.warm hW, hD.weaken (fun _ _ _ _ => trivial)⟩⟩
/-- a world's places set anew -/
def setL (W : va_W) : List Nat → va_W → va_W
  | i :: is, c :: cs => setL (W.set i c) is cs
  | _, _ => W
theorem va_P.mem {D : va_G} {cl : List vw_C} {ws ws' : va_W} {H : Heap} (h : va_P D cl ws H) (hm : ∀ q ∈ ws', q ∈ ws) : va_P D cl ws' H := fun k q hk => by
  obtain ⟨i, hi⟩ := List.getElem?_of_mem (hm q (List.mem_of_getElem? hk))
  exact h i q hi
theorem va_P.all {D : va_G} {cl : List vw_C} {ws : va_W} {H : Heap} (h : ∀ q ∈ ws, va_at D cl q H) : va_P D cl ws H := fun _ q hk => h q (List.mem_of_getElem? hk)
theorem va_P.get {D : va_G} {cl : List vw_C} {ws : va_W} {H : Heap} (h : va_P D cl ws H) {q : Nat × va_E} (hq : q ∈ ws) : va_at D cl q H := by
  obtain ⟨i, hi⟩ := List.getElem?_of_mem hq
  exact h i q hi
theorem setL_fst : ∀ (is : List Nat) (w1 : va_W) (W : va_W), (∀ k, k < is.length → k < w1.length → (W[is.getD k 0]?).map Prod.fst = (w1[k]?).map Prod.fst) → (setL W is w1).map Prod.fst = W.map Prod.fst
  | [], w1, W, _ => by cases w1 <;> rfl
  | i :: is, [], W, _ => rfl
  | i :: is, c :: cs, W, h => by
    have h0 := h 0 (Nat.zero_lt_succ _) (Nat.zero_lt_succ _)
    have hset : (W.set i c).map Prod.fst = W.map Prod.fst := by
      rw [List.map_set]
      apply List.ext_getElem?
      intro j
      by_cases hj : j = i
      · subst hj
        by_cases hl : j < (W.map Prod.fst).length
        · rw [List.getElem?_set_self hl, List.getElem?_map]
          simpa using h0.symm
        · rw [List.getElem?_eq_none (by simpa using Nat.not_lt.mp hl), List.getElem?_eq_none (Nat.not_lt.mp hl)]
      · rw [List.getElem?_set_ne (Ne.symm hj)]
    show (setL (W.set i c) is cs).map Prod.fst = _
    rw [setL_fst is cs (W.set i c), hset]
    intro k hk hk2
    have hk' := h (k + 1) (by simpa using hk) (by simpa using hk2)
    have e : ((W.set i c)[is.getD k 0]?).map Prod.fst = (W[is.getD k 0]?).map Prod.fst := by
      rw [← List.getElem?_map, hset, List.getElem?_map]
    rw [e]
    simpa using hk'
theorem setL_len : ∀ (is : List Nat) (w1 W : va_W), (setL W is w1).length = W.length
  | [], w1, W => by cases w1 <;> rfl
  | i :: is, [], W => rfl
  | i :: is, c :: cs, W => by
    show (setL (W.set i c) is cs).length = _
    rw [setL_len is cs (W.set i c), List.length_set]
theorem setL_at : ∀ (is : List Nat) (w1 W : va_W) (k : Nat) (q : Nat × va_E), (setL W is w1)[k]? = some q → q ∈ w1 ∨ (W[k]? = some q ∧ (k ∈ is.take w1.length → q ∈ w1))
  | [], w1, W, k, q, h => by
    refine Or.inr ⟨by cases w1 <;> exact h, fun hk => by simp at hk⟩
  | i :: is, [], W, k, q, h => Or.inr ⟨h, fun hk => by simp at hk⟩
  | i :: is, c :: cs, W, k, q, h => by
    rcases setL_at is cs (W.set i c) k q h with h1 | ⟨h1, h2⟩
    · exact Or.inl (List.mem_cons_of_mem _ h1)
    · by_cases hk : k = i
      · subst hk
        by_cases hl : k < W.length
        · rw [List.getElem?_set_self hl] at h1
          cases h1
          exact Or.inl List.mem_cons_self
        · rw [List.getElem?_eq_none (by simpa using Nat.not_lt.mp hl)] at h1
          cases h1
      · rw [List.getElem?_set_ne (Ne.symm hk)] at h1
        refine Or.inr ⟨h1, fun hm => ?_⟩
        have hm' : k ∈ i :: is.take cs.length := by simpa using hm
        rcases List.mem_cons.mp hm' with e | e
        · exact absurd e hk
        · exact List.mem_cons_of_mem _ (h2 e)
theorem va_D.fst {A : Nat → Prop} {W W' : va_W} (h : va_D A W) (e : W'.map Prod.fst = W.map Prod.fst) : va_D A W' := by
  have key : ∀ (k : Nat) (q : Nat × va_E), W'[k]? = some q → ∃ q0, W[k]? = some q0 ∧ q0.1 = q.1 := by
    intro k q hk
    have h1 : (W'.map Prod.fst)[k]? = some q.1 := by rw [List.getElem?_map, hk]; rfl
    rw [e, List.getElem?_map] at h1
    cases hq : W[k]? with
    | none => rw [hq] at h1; cases h1
    | some q0 => rw [hq] at h1; exact ⟨q0, rfl, Option.some.inj h1⟩
  refine ⟨fun i j x y hi hj hxy => ?_, fun k q hk => ?_⟩
  · obtain ⟨x0, h1, h2⟩ := key i x hi
    obtain ⟨y0, h3, h4⟩ := key j y hj
    exact h.1 i j x0 y0 h1 h3 (h2.trans (hxy.trans h4.symm))
  · obtain ⟨q0, h1, h2⟩ := key k q hk
    rw [← h2]
    exact h.2 k q0 h1
/-- behind a call that keeps its cells' addresses: the caller's world with those places set anew -/
theorem join_set {D : va_G} {cl : List vw_C} {A0 : Nat → Prop} {W wc w1 : va_W} {H H1 : Heap} (hP : va_P D cl W H) (hD : va_D A0 W) (isC : List Nat) (hC : isC.map (fun i => W[i]?) = wc.map some) (hk : ∀ q : Nat, q < H.size → ¬ va_A wc H.size q → H1[q]? = H[q]?) (hP1 : va_P D cl w1 H1) (ha : w1.map Prod.fst = wc.map Prod.fst) : va_P D cl (setL W isC w1) H1 ∧ va_D A0 (setL W isC w1) := by
  have hl1 : w1.length = wc.length := by simpa using congrArg List.length ha
  have hl2 : isC.length = wc.length := by simpa using congrArg List.length hC
  have hat : ∀ (k i : Nat), isC[k]? = some i → ∃ q, W[i]? = some q ∧ wc[k]? = some q := by
    intro k i hi
    have h1 : (isC.map (fun i => W[i]?))[k]? = some (W[i]?) := by rw [List.getElem?_map, hi]; rfl
    rw [hC, List.getElem?_map] at h1
    cases hw : wc[k]? with
    | none => rw [hw] at h1; cases h1
    | some q => rw [hw] at h1; exact ⟨q, (Option.some.inj h1).symm, rfl⟩
  refine ⟨fun k q hq => ?_, hD.fst (setL_fst isC w1 W fun k h1 h2 => ?_)⟩
  · rcases setL_at isC w1 W k q hq with h | ⟨h1, h2⟩
    · exact hP1.get h
    · by_cases hm : k ∈ isC
      · have : isC.take w1.length = isC := by rw [List.take_of_length_le (by omega)]
        exact hP1.get (h2 (by rw [this]; exact hm))
      · refine (hP k q h1).kept (hk q.1 ((hP k q h1).lt) fun hA => ?_)
        rcases hA with ⟨j, e, hj⟩ | hA
        · have hjl : j < isC.length := by rw [hl2]; exact (List.getElem?_eq_some_iff.mp hj).1
          obtain ⟨q2, g1, g2⟩ := hat j isC[j] (List.getElem?_eq_getElem hjl)
          rw [hj] at g2
          cases g2
          have := hD.1 k isC[j] q (q.1, e) h1 g1 rfl
          exact hm (by rw [this]; exact List.getElem_mem hjl)
        · have := (hP k q h1).lt
          omega
  · obtain ⟨q, g1, g2⟩ := hat k isC[k] (List.getElem?_eq_getElem h1)
    have e1 : isC.getD k 0 = isC[k] := by simp [List.getD, h1]
    rw [e1, g1]
    have : (w1.map Prod.fst)[k]? = (wc.map Prod.fst)[k]? := by rw [ha]
    rw [List.getElem?_map, List.getElem?_map, g2] at this
    exact this.symm
def WQv (G : GG) {S : Type} (ws : va_W) (sz : Nat) (post : S → Prop) (w1 : S → va_W) : Array Value → State → Outcome → State → Prop := va_Qv post (fun u t => PP G (w1 u) t.heap ∧ va_D (va_A ws sz) (w1 u)) (va_A ws sz)
def WQi (G : GG) {S : Type} (ws : va_W) (sz : Nat) (post : Int32 → S → Prop) (w1 : S → va_W) : Array Value → State → Outcome → State → Prop := va_Qi post (fun u t => PP G (w1 u) t.heap ∧ va_D (va_A ws sz) (w1 u)) (va_A ws sz)
section CALLS
variable {p : Program} {l : Launch} {e : Env} {R : Room} {s : State} {m : MethodId} {args : Array Value} {below : List Frame} {meth : Method} {c : Code} {H : Heap} {locs : List Loc} {cells slots : Nat} {Q : State → Prop}
variable {pc : Nat} {ls : Array Slot} {rest st0 : List Value} {a : Array Value} {A0 A1 : Nat → Prop} {H0 : Heap} {mc ms : Nat} {free : Addr → Prop}
theorem csi {post : Int32 → Prop} (hr : va_Run p l e R s m args below meth c H locs cells slots 0 0 (F0 m pc ls st0) rest (vp_Si post a) (fun _ => False))
    (kk : ∀ r : Int32, post r → W p l e R s m args below meth c H locs cells slots Q (F0 m (pc + 3) ls (.int r :: rest))) : W p l e R s m args below meth c H locs cells slots Q (F0 m pc ls st0) := by
  intro T hT X
  obtain ⟨v, st₀, t, T', L, h0, X', hL, e1, -, ⟨r, hv, hp, hh⟩, st⟩ := hr T hT X
  cases hv
  obtain ⟨t2, a1, b1⟩ := kk r hp T' (by rw [e1, hh, h0]) (Stand.forget X' (fun q h => (hL q h).elim))
  exact ⟨t2, st t2 a1, b1⟩
theorem csq {post : Option Nat → Prop} (hr : va_Run p l e R s m args below meth c H locs cells slots 0 0 (F0 m pc ls st0) rest (va_Sq post a) (fun _ => False))
    (kk : ∀ r : Option Nat, post r → W p l e R s m args below meth c H locs cells slots Q (F0 m (pc + 3) ls (va_rf r :: rest))) : W p l e R s m args below meth c H locs cells slots Q (F0 m pc ls st0) := by
  intro T hT X
  obtain ⟨v, st₀, t, T', L, h0, X', hL, e1, -, ⟨r, hv, hp, hh⟩, st⟩ := hr T hT X
  cases hv
  obtain ⟨t2, a1, b1⟩ := kk r hp T' (by rw [e1, hh, h0]) (Stand.forget X' (fun q h => (hL q h).elim))
  exact ⟨t2, st t2 a1, b1⟩
variable {G : GG} {S : Type} {W0 wc : va_W}
/-- a void call that keeps its cells' addresses -/
theorem cwv {post : S → Prop} {w1 : S → va_W} (hr : va_Run p l e R s m args below meth c H locs cells slots mc ms (F0 m pc ls st0) rest (WQv G wc H.size post w1 a) (va_A wc H.size)) (hS : va_S A0 H0 H locs) (hA : ∀ q, H0.size ≤ q → A0 q) (hP : PP G W0 H) (hD : va_D A0 W0) (isC : List Nat) (hC : isC.map (fun i => W0[i]?) = wc.map some) (ha : ∀ u, (w1 u).map Prod.fst = wc.map Prod.fst)
    (kk : ∀ (u : S) (H1 : Heap) (locs1 : List Loc), post u → PP G (setL W0 isC (w1 u)) H1 → va_D A0 (setL W0 isC (w1 u)) → va_S A0 H0 H1 locs1 → W p l e R s m args below meth c H1 locs1 (cells + mc) (slots + ms) Q (F0 m (pc + 3) ls rest)) : W p l e R s m args below meth c H locs cells slots Q (F0 m pc ls st0) := by
  have hF := va_free hD hS hA isC hC
  refine va_callv hr hS (fun q _ h => hF q h) hF fun u t H1 locs1 ht _ hp hB _ hk hS1 => ?_
  obtain ⟨hP1, -⟩ := hB
  rw [ht] at hP1
  obtain ⟨h1, h2⟩ := join_set hP hD isC hC hk hP1 (ha u)
  exact kk u H1 locs1 hp h1 h2 hS1
theorem cwi {post : Int32 → S → Prop} {w1 : S → va_W} (hr : va_Run p l e R s m args below meth c H locs cells slots mc ms (F0 m pc ls st0) rest (WQi G wc H.size post w1 a) (va_A wc H.size)) (hS : va_S A0 H0 H locs) (hA : ∀ q, H0.size ≤ q → A0 q) (hP : PP G W0 H) (hD : va_D A0 W0) (isC : List Nat) (hC : isC.map (fun i => W0[i]?) = wc.map some) (ha : ∀ u, (w1 u).map Prod.fst = wc.map Prod.fst)
    (kk : ∀ (r : Int32) (u : S) (H1 : Heap) (locs1 : List Loc), post r u → PP G (setL W0 isC (w1 u)) H1 → va_D A0 (setL W0 isC (w1 u)) → va_S A0 H0 H1 locs1 → W p l e R s m args below meth c H1 locs1 (cells + mc) (slots + ms) Q (F0 m (pc + 3) ls (.int r :: rest))) : W p l e R s m args below meth c H locs cells slots Q (F0 m pc ls st0) := by
  have hF := va_free hD hS hA isC hC
  refine va_calli hr hS (fun q _ h => hF q h) hF fun r u t H1 locs1 ht _ hp hB _ hk hS1 => ?_
  obtain ⟨hP1, -⟩ := hB
  rw [ht] at hP1
  obtain ⟨h1, h2⟩ := join_set hP hD isC hC hk hP1 (ha u)
  exact kk r u H1 locs1 hp h1 h2 hS1
/-- a void call (a constructor) over the last cell of the caller's world: what it made stands behind the rest -/
theorem cwn {post : S → Prop} {w1 : S → va_W} {wr : va_W} (hr : va_Run p l e R s m args below meth c H locs cells slots mc ms (F0 m pc ls st0) rest (WQv G wc H.size post w1 a) (va_A wc H.size)) (hS : va_S A0 H0 H locs) (hA : ∀ q, H0.size ≤ q → A0 q) (hP : PP G W0 H) (hD : va_D A0 W0) (isC isR : List Nat) (hC : isC.map (fun i => W0[i]?) = wc.map some) (hR : isR.map (fun i => W0[i]?) = wr.map some) (hn : va_nd isR = true) (hdis : ∀ i ∈ isR, i ∉ isC)
    (kk : ∀ (u : S) (H1 : Heap) (locs1 : List Loc), post u → PP G (wr ++ w1 u) H1 → va_D A0 (wr ++ w1 u) → va_S A0 H0 H1 locs1 → W p l e R s m args below meth c H1 locs1 (cells + mc) (slots + ms) Q (F0 m (pc + 3) ls rest)) : W p l e R s m args below meth c H locs cells slots Q (F0 m pc ls st0) := by
  have hF := va_free hD hS hA isC hC
  refine va_callv hr hS (fun q _ h => hF q h) hF fun u t H1 locs1 ht _ hp hB _ hk hS1 => ?_
  obtain ⟨hP1, hD1⟩ := hB
  rw [ht] at hP1
  obtain ⟨h1, h2⟩ := va_join hP hD isC isR hC hR hn hdis hk hF hP1 hD1
  exact kk u H1 locs1 hp h1 h2 hS1
end CALLS
end
section
theorem dX0_init_0 : decode cX0_init 0 = .ok (.aload_n 0, 1) := by decide +kernel
theorem dX0_init_1 : decode cX0_init 1 = .ok (.invokespecial 3, 3) := by decide +kernel
theorem dX0_init_4 : decode cX0_init 4 = .ok (.aload_n 0, 1) := by decide +kernel
theorem dX0_init_5 : decode cX0_init 5 = .ok (.bipush 30, 2) := by decide +kernel
theorem dX0_init_7 : decode cX0_init 7 = .ok (.newarray .int, 2) := by decide +kernel
theorem dX0_init_9 : decode cX0_init 9 = .ok (.putfield 9, 3) := by decide +kernel
theorem dX0_init_12 : decode cX0_init 12 = .ok (.return_, 1) := by decide +kernel
theorem dX0_here_0 : decode cX0_here 0 = .ok (.aload_n 0, 1) := by decide +kernel
theorem dX0_here_1 : decode cX0_here 1 = .ok (.getfield 15, 3) := by decide +kernel
theorem dX0_here_4 : decode cX0_here 4 = .ok (.ifCond .le 22, 3) := by decide +kernel
theorem dX0_here_7 : decode cX0_here 7 = .ok (.aload_n 1, 1) := by decide +kernel
theorem dX0_here_8 : decode cX0_here 8 = .ok (.getfield 19, 3) := by decide +kernel
theorem dX0_here_11 : decode cX0_here 11 = .ok (.aload_n 0, 1) := by decide +kernel
theorem dX0_here_12 : decode cX0_here 12 = .ok (.getfield 9, 3) := by decide +kernel
theorem dX0_here_15 : decode cX0_here 15 = .ok (.aload_n 0, 1) := by decide +kernel
theorem dX0_here_16 : decode cX0_here 16 = .ok (.getfield 15, 3) := by decide +kernel
theorem dX0_here_19 : decode cX0_here 19 = .ok (.iconst 1, 1) := by decide +kernel
theorem dX0_here_20 : decode cX0_here 20 = .ok (.isub, 1) := by decide +kernel
theorem dX0_here_21 : decode cX0_here 21 = .ok (.iaload, 1) := by decide +kernel
theorem dX0_here_22 : decode cX0_here 22 = .ok (.iaload, 1) := by decide +kernel
theorem dX0_here_23 : decode cX0_here 23 = .ok (.goto 4, 3) := by decide +kernel
theorem dX0_here_26 : decode cX0_here 26 = .ok (.iconst 0, 1) := by decide +kernel
theorem dX0_here_27 : decode cX0_here 27 = .ok (.ireturn, 1) := by decide +kernel
theorem dX1_init_0 : decode cX1_init 0 = .ok (.aload_n 0, 1) := by decide +kernel
theorem dX1_init_1 : decode cX1_init 1 = .ok (.invokespecial 3, 3) := by decide +kernel
theorem dX1_init_4 : decode cX1_init 4 = .ok (.aload_n 0, 1) := by decide +kernel
theorem dX1_init_5 : decode cX1_init 5 = .ok (.bipush 24, 2) := by decide +kernel
theorem dX1_init_7 : decode cX1_init 7 = .ok (.newarray .int, 2) := by decide +kernel
theorem dX1_init_9 : decode cX1_init 9 = .ok (.putfield 9, 3) := by decide +kernel
theorem dX1_init_12 : decode cX1_init 12 = .ok (.aload_n 0, 1) := by decide +kernel
theorem dX1_init_13 : decode cX1_init 13 = .ok (.bipush 24, 2) := by decide +kernel
theorem dX1_init_15 : decode cX1_init 15 = .ok (.newarray .int, 2) := by decide +kernel
theorem dX1_init_17 : decode cX1_init 17 = .ok (.putfield 15, 3) := by decide +kernel
theorem dX1_init_20 : decode cX1_init 20 = .ok (.return_, 1) := by decide +kernel
theorem dX2_init_0 : decode cX2_init 0 = .ok (.aload_n 0, 1) := by decide +kernel
theorem dX2_init_1 : decode cX2_init 1 = .ok (.invokespecial 3, 3) := by decide +kernel
theorem dX2_init_4 : decode cX2_init 4 = .ok (.aload_n 0, 1) := by decide +kernel
theorem dX2_init_5 : decode cX2_init 5 = .ok (.bipush 31, 2) := by decide +kernel
theorem dX2_init_7 : decode cX2_init 7 = .ok (.newarray .int, 2) := by decide +kernel
theorem dX2_init_9 : decode cX2_init 9 = .ok (.putfield 9, 3) := by decide +kernel
theorem dX2_init_12 : decode cX2_init 12 = .ok (.aload_n 0, 1) := by decide +kernel
theorem dX2_init_13 : decode cX2_init 13 = .ok (.bipush 31, 2) := by decide +kernel
theorem dX2_init_15 : decode cX2_init 15 = .ok (.newarray .int, 2) := by decide +kernel
theorem dX2_init_17 : decode cX2_init 17 = .ok (.putfield 15, 3) := by decide +kernel
theorem dX2_init_20 : decode cX2_init 20 = .ok (.aload_n 0, 1) := by decide +kernel
theorem dX2_init_21 : decode cX2_init 21 = .ok (.bipush 31, 2) := by decide +kernel
theorem dX2_init_23 : decode cX2_init 23 = .ok (.newarray .int, 2) := by decide +kernel
theorem dX2_init_25 : decode cX2_init 25 = .ok (.putfield 18, 3) := by decide +kernel
theorem dX2_init_28 : decode cX2_init 28 = .ok (.return_, 1) := by decide +kernel
set_option maxRecDepth 20000 in
theorem ggX2_write_X2_begin : GoodIn wsX2_write wsX2_begin := goodIn_r _ [8, 1, 9, 2, 3, 13, 14, 15, 16] (by decide +kernel) (by decide +kernel)
set_option maxRecDepth 20000 in
theorem gX2_write_X2_begin : GoodIn wsX2_write (wsV RX2 25 RX2 yX2_begin wsX2_begin) := goodIn_app (goodIn_of _ (by decide +kernel)) ggX2_write_X2_begin
set_option maxRecDepth 20000 in
theorem ggX2_write_X7_has : GoodIn wsX2_write wsX7_has := goodIn_r _ [12] (by decide +kernel) (by decide +kernel)
set_option maxRecDepth 20000 in
theorem gX2_write_X7_has_n40 : GoodIn wsX2_write (wsX7_has) := ggX2_write_X7_has
theorem dX2_write_0 : decode cX2_write 0 = .ok (.aload_n 0, 1) := by decide +kernel
theorem dX2_write_1 : decode cX2_write 1 = .ok (.iconst 0, 1) := by decide +kernel
theorem dX2_write_2 : decode cX2_write 2 = .ok (.putfield 21, 3) := by decide +kernel
theorem dX2_write_5 : decode cX2_write 5 = .ok (.aload_n 0, 1) := by decide +kernel
theorem dX2_write_6 : decode cX2_write 6 = .ok (.iconst 0, 1) := by decide +kernel
theorem dX2_write_7 : decode cX2_write 7 = .ok (.invokevirtual 25, 3) := by decide +kernel
theorem dX2_write_10 : decode cX2_write 10 = .ok (.iconst 0, 1) := by decide +kernel
theorem dX2_write_11 : decode cX2_write 11 = .ok (.istore 4, 2) := by decide +kernel
theorem dX2_write_13 : decode cX2_write 13 = .ok (.iload 4, 2) := by decide +kernel
theorem dX2_write_15 : decode cX2_write 15 = .ok (.aload_n 3, 1) := by decide +kernel
theorem dX2_write_16 : decode cX2_write 16 = .ok (.getfield 29, 3) := by decide +kernel
theorem dX2_write_19 : decode cX2_write 19 = .ok (.if_icmp .ge 78, 3) := by decide +kernel
theorem dX2_write_22 : decode cX2_write 22 = .ok (.aload_n 3, 1) := by decide +kernel
theorem dX2_write_23 : decode cX2_write 23 = .ok (.getfield 32, 3) := by decide +kernel
theorem dX2_write_26 : decode cX2_write 26 = .ok (.iload 4, 2) := by decide +kernel
theorem dX2_write_28 : decode cX2_write 28 = .ok (.iaload, 1) := by decide +kernel
theorem dX2_write_29 : decode cX2_write 29 = .ok (.istore 5, 2) := by decide +kernel
theorem dX2_write_31 : decode cX2_write 31 = .ok (.aload_n 1, 1) := by decide +kernel
theorem dX2_write_32 : decode cX2_write 32 = .ok (.getfield 35, 3) := by decide +kernel
theorem dX2_write_35 : decode cX2_write 35 = .ok (.iload 5, 2) := by decide +kernel
theorem dX2_write_37 : decode cX2_write 37 = .ok (.invokestatic 40, 3) := by decide +kernel
theorem dX2_write_40 : decode cX2_write 40 = .ok (.ifCond .eq 27, 3) := by decide +kernel
theorem dX2_write_43 : decode cX2_write 43 = .ok (.aload_n 0, 1) := by decide +kernel
theorem dX2_write_44 : decode cX2_write 44 = .ok (.getfield 15, 3) := by decide +kernel
theorem dX2_write_47 : decode cX2_write 47 = .ok (.aload_n 0, 1) := by decide +kernel
theorem dX2_write_48 : decode cX2_write 48 = .ok (.getfield 21, 3) := by decide +kernel
theorem dX2_write_51 : decode cX2_write 51 = .ok (.iconst 1, 1) := by decide +kernel
theorem dX2_write_52 : decode cX2_write 52 = .ok (.isub, 1) := by decide +kernel
theorem dX2_write_53 : decode cX2_write 53 = .ok (.dup2, 1) := by decide +kernel
theorem dX2_write_54 : decode cX2_write 54 = .ok (.iaload, 1) := by decide +kernel
theorem dX2_write_55 : decode cX2_write 55 = .ok (.aload_n 1, 1) := by decide +kernel
theorem dX2_write_56 : decode cX2_write 56 = .ok (.getfield 44, 3) := by decide +kernel
theorem dX2_write_59 : decode cX2_write 59 = .ok (.iload 5, 2) := by decide +kernel
theorem dX2_write_61 : decode cX2_write 61 = .ok (.iaload, 1) := by decide +kernel
theorem dX2_write_62 : decode cX2_write 62 = .ok (.iadd, 1) := by decide +kernel
theorem dX2_write_63 : decode cX2_write 63 = .ok (.iastore, 1) := by decide +kernel
theorem dX2_write_64 : decode cX2_write 64 = .ok (.goto 27, 3) := by decide +kernel
theorem dX2_write_67 : decode cX2_write 67 = .ok (.aload_n 0, 1) := by decide +kernel
theorem dX2_write_68 : decode cX2_write 68 = .ok (.getfield 18, 3) := by decide +kernel
theorem dX2_write_71 : decode cX2_write 71 = .ok (.aload_n 0, 1) := by decide +kernel
theorem dX2_write_72 : decode cX2_write 72 = .ok (.getfield 21, 3) := by decide +kernel
theorem dX2_write_75 : decode cX2_write 75 = .ok (.iconst 1, 1) := by decide +kernel
theorem dX2_write_76 : decode cX2_write 76 = .ok (.isub, 1) := by decide +kernel
theorem dX2_write_77 : decode cX2_write 77 = .ok (.iload 5, 2) := by decide +kernel
theorem dX2_write_79 : decode cX2_write 79 = .ok (.iastore, 1) := by decide +kernel
theorem dX2_write_80 : decode cX2_write 80 = .ok (.aload_n 0, 1) := by decide +kernel
theorem dX2_write_81 : decode cX2_write 81 = .ok (.aload_n 2, 1) := by decide +kernel
theorem dX2_write_82 : decode cX2_write 82 = .ok (.getfield 47, 3) := by decide +kernel
theorem dX2_write_85 : decode cX2_write 85 = .ok (.iload 5, 2) := by decide +kernel
theorem dX2_write_87 : decode cX2_write 87 = .ok (.iaload, 1) := by decide +kernel
theorem dX2_write_88 : decode cX2_write 88 = .ok (.invokevirtual 25, 3) := by decide +kernel
theorem dX2_write_91 : decode cX2_write 91 = .ok (.iinc 4 1, 3) := by decide +kernel
theorem dX2_write_94 : decode cX2_write 94 = .ok (.goto (-81), 3) := by decide +kernel
theorem dX2_write_97 : decode cX2_write 97 = .ok (.return_, 1) := by decide +kernel
theorem dX2_begin_0 : decode cX2_begin 0 = .ok (.aload_n 0, 1) := by decide +kernel
theorem dX2_begin_1 : decode cX2_begin 1 = .ok (.getfield 21, 3) := by decide +kernel
theorem dX2_begin_4 : decode cX2_begin 4 = .ok (.bipush 30, 2) := by decide +kernel
theorem dX2_begin_6 : decode cX2_begin 6 = .ok (.if_icmp .gt 44, 3) := by decide +kernel
theorem dX2_begin_9 : decode cX2_begin 9 = .ok (.aload_n 0, 1) := by decide +kernel
theorem dX2_begin_10 : decode cX2_begin 10 = .ok (.getfield 9, 3) := by decide +kernel
theorem dX2_begin_13 : decode cX2_begin 13 = .ok (.aload_n 0, 1) := by decide +kernel
theorem dX2_begin_14 : decode cX2_begin 14 = .ok (.getfield 21, 3) := by decide +kernel
theorem dX2_begin_17 : decode cX2_begin 17 = .ok (.iload_n 1, 1) := by decide +kernel
theorem dX2_begin_18 : decode cX2_begin 18 = .ok (.iastore, 1) := by decide +kernel
theorem dX2_begin_19 : decode cX2_begin 19 = .ok (.aload_n 0, 1) := by decide +kernel
theorem dX2_begin_20 : decode cX2_begin 20 = .ok (.getfield 15, 3) := by decide +kernel
theorem dX2_begin_23 : decode cX2_begin 23 = .ok (.aload_n 0, 1) := by decide +kernel
theorem dX2_begin_24 : decode cX2_begin 24 = .ok (.getfield 21, 3) := by decide +kernel
theorem dX2_begin_27 : decode cX2_begin 27 = .ok (.iconst 0, 1) := by decide +kernel
theorem dX2_begin_28 : decode cX2_begin 28 = .ok (.iastore, 1) := by decide +kernel
theorem dX2_begin_29 : decode cX2_begin 29 = .ok (.aload_n 0, 1) := by decide +kernel
theorem dX2_begin_30 : decode cX2_begin 30 = .ok (.getfield 18, 3) := by decide +kernel
theorem dX2_begin_33 : decode cX2_begin 33 = .ok (.aload_n 0, 1) := by decide +kernel
theorem dX2_begin_34 : decode cX2_begin 34 = .ok (.getfield 21, 3) := by decide +kernel
theorem dX2_begin_37 : decode cX2_begin 37 = .ok (.bipush (-9), 2) := by decide +kernel
theorem dX2_begin_39 : decode cX2_begin 39 = .ok (.iastore, 1) := by decide +kernel
theorem dX2_begin_40 : decode cX2_begin 40 = .ok (.aload_n 0, 1) := by decide +kernel
theorem dX2_begin_41 : decode cX2_begin 41 = .ok (.dup, 1) := by decide +kernel
theorem dX2_begin_42 : decode cX2_begin 42 = .ok (.getfield 21, 3) := by decide +kernel
theorem dX2_begin_45 : decode cX2_begin 45 = .ok (.iconst 1, 1) := by decide +kernel
theorem dX2_begin_46 : decode cX2_begin 46 = .ok (.iadd, 1) := by decide +kernel
theorem dX2_begin_47 : decode cX2_begin 47 = .ok (.putfield 21, 3) := by decide +kernel
theorem dX2_begin_50 : decode cX2_begin 50 = .ok (.return_, 1) := by decide +kernel
theorem dX2_lastNumber_0 : decode cX2_lastNumber 0 = .ok (.aload_n 0, 1) := by decide +kernel
theorem dX2_lastNumber_1 : decode cX2_lastNumber 1 = .ok (.getfield 21, 3) := by decide +kernel
theorem dX2_lastNumber_4 : decode cX2_lastNumber 4 = .ok (.ifCond .le 17, 3) := by decide +kernel
theorem dX2_lastNumber_7 : decode cX2_lastNumber 7 = .ok (.aload_n 0, 1) := by decide +kernel
theorem dX2_lastNumber_8 : decode cX2_lastNumber 8 = .ok (.getfield 15, 3) := by decide +kernel
theorem dX2_lastNumber_11 : decode cX2_lastNumber 11 = .ok (.aload_n 0, 1) := by decide +kernel
theorem dX2_lastNumber_12 : decode cX2_lastNumber 12 = .ok (.getfield 21, 3) := by decide +kernel
theorem dX2_lastNumber_15 : decode cX2_lastNumber 15 = .ok (.iconst 1, 1) := by decide +kernel
theorem dX2_lastNumber_16 : decode cX2_lastNumber 16 = .ok (.isub, 1) := by decide +kernel
theorem dX2_lastNumber_17 : decode cX2_lastNumber 17 = .ok (.iaload, 1) := by decide +kernel
theorem dX2_lastNumber_18 : decode cX2_lastNumber 18 = .ok (.goto 4, 3) := by decide +kernel
theorem dX2_lastNumber_21 : decode cX2_lastNumber 21 = .ok (.iconst 0, 1) := by decide +kernel
theorem dX2_lastNumber_22 : decode cX2_lastNumber 22 = .ok (.ireturn, 1) := by decide +kernel
theorem dX3_init_0 : decode cX3_init 0 = .ok (.aload_n 0, 1) := by decide +kernel
theorem dX3_init_1 : decode cX3_init 1 = .ok (.invokespecial 3, 3) := by decide +kernel
theorem dX3_init_4 : decode cX3_init 4 = .ok (.aload_n 0, 1) := by decide +kernel
theorem dX3_init_5 : decode cX3_init 5 = .ok (.bipush 10, 2) := by decide +kernel
theorem dX3_init_7 : decode cX3_init 7 = .ok (.newarray .int, 2) := by decide +kernel
theorem dX3_init_9 : decode cX3_init 9 = .ok (.putfield 9, 3) := by decide +kernel
theorem dX3_init_12 : decode cX3_init 12 = .ok (.return_, 1) := by decide +kernel
set_option maxRecDepth 20000 in
theorem ggX3_read_X3_lastCall : GoodIn wsX3_read wsX3_lastCall := goodIn_r _ [6, 7, 8, 9, 12, 13, 14, 15, 16, 17, 18, 19, 20, 21] (by decide +kernel) (by decide +kernel)
set_option maxRecDepth 20000 in
theorem gX3_read_X3_lastCall : GoodIn wsX3_read (va_wsS RX3 19 yX3_lastCall wsX3_lastCall) := goodIn_app (goodIn_of _ (by decide +kernel)) ggX3_read_X3_lastCall
theorem dX3_read_0 : decode cX3_read 0 = .ok (.aload_n 0, 1) := by decide +kernel
theorem dX3_read_1 : decode cX3_read 1 = .ok (.iconst 0, 1) := by decide +kernel
theorem dX3_read_2 : decode cX3_read 2 = .ok (.putfield 15, 3) := by decide +kernel
theorem dX3_read_5 : decode cX3_read 5 = .ok (.iload 4, 2) := by decide +kernel
theorem dX3_read_7 : decode cX3_read 7 = .ok (.istore 6, 2) := by decide +kernel
theorem dX3_read_9 : decode cX3_read 9 = .ok (.iload 5, 2) := by decide +kernel
theorem dX3_read_11 : decode cX3_read 11 = .ok (.istore 7, 2) := by decide +kernel
theorem dX3_read_13 : decode cX3_read 13 = .ok (.iconst 0, 1) := by decide +kernel
theorem dX3_read_14 : decode cX3_read 14 = .ok (.istore 8, 2) := by decide +kernel
theorem dX3_read_16 : decode cX3_read 16 = .ok (.iload 8, 2) := by decide +kernel
theorem dX3_read_18 : decode cX3_read 18 = .ok (.bipush 10, 2) := by decide +kernel
theorem dX3_read_20 : decode cX3_read 20 = .ok (.if_icmp .ge 84, 3) := by decide +kernel
theorem dX3_read_23 : decode cX3_read 23 = .ok (.iload 6, 2) := by decide +kernel
theorem dX3_read_25 : decode cX3_read 25 = .ok (.iload_n 3, 1) := by decide +kernel
theorem dX3_read_26 : decode cX3_read 26 = .ok (.if_icmp .ne 14, 3) := by decide +kernel
theorem dX3_read_29 : decode cX3_read 29 = .ok (.iload 7, 2) := by decide +kernel
theorem dX3_read_31 : decode cX3_read 31 = .ok (.ifCond .ne 7, 3) := by decide +kernel
theorem dX3_read_34 : decode cX3_read 34 = .ok (.iconst 1, 1) := by decide +kernel
theorem dX3_read_35 : decode cX3_read 35 = .ok (.goto 4, 3) := by decide +kernel
theorem dX3_read_38 : decode cX3_read 38 = .ok (.iconst 0, 1) := by decide +kernel
theorem dX3_read_39 : decode cX3_read 39 = .ok (.ireturn, 1) := by decide +kernel
theorem dX3_read_40 : decode cX3_read 40 = .ok (.aload_n 1, 1) := by decide +kernel
theorem dX3_read_41 : decode cX3_read 41 = .ok (.aload_n 2, 1) := by decide +kernel
theorem dX3_read_42 : decode cX3_read 42 = .ok (.iload 6, 2) := by decide +kernel
theorem dX3_read_44 : decode cX3_read 44 = .ok (.iload 7, 2) := by decide +kernel
theorem dX3_read_46 : decode cX3_read 46 = .ok (.invokestatic 19, 3) := by decide +kernel
theorem dX3_read_49 : decode cX3_read 49 = .ok (.istore 9, 2) := by decide +kernel
theorem dX3_read_51 : decode cX3_read 51 = .ok (.iload 9, 2) := by decide +kernel
theorem dX3_read_53 : decode cX3_read 53 = .ok (.bipush (-9), 2) := by decide +kernel
theorem dX3_read_55 : decode cX3_read 55 = .ok (.if_icmp .ne 5, 3) := by decide +kernel
theorem dX3_read_58 : decode cX3_read 58 = .ok (.iconst 0, 1) := by decide +kernel
theorem dX3_read_59 : decode cX3_read 59 = .ok (.ireturn, 1) := by decide +kernel
theorem dX3_read_60 : decode cX3_read 60 = .ok (.aload_n 0, 1) := by decide +kernel
theorem dX3_read_61 : decode cX3_read 61 = .ok (.getfield 9, 3) := by decide +kernel
theorem dX3_read_64 : decode cX3_read 64 = .ok (.iload 8, 2) := by decide +kernel
theorem dX3_read_66 : decode cX3_read 66 = .ok (.iload 9, 2) := by decide +kernel
theorem dX3_read_68 : decode cX3_read 68 = .ok (.iastore, 1) := by decide +kernel
theorem dX3_read_69 : decode cX3_read 69 = .ok (.aload_n 0, 1) := by decide +kernel
theorem dX3_read_70 : decode cX3_read 70 = .ok (.iload 8, 2) := by decide +kernel
theorem dX3_read_72 : decode cX3_read 72 = .ok (.iconst 1, 1) := by decide +kernel
theorem dX3_read_73 : decode cX3_read 73 = .ok (.iadd, 1) := by decide +kernel
theorem dX3_read_74 : decode cX3_read 74 = .ok (.putfield 15, 3) := by decide +kernel
theorem dX3_read_77 : decode cX3_read 77 = .ok (.iload 7, 2) := by decide +kernel
theorem dX3_read_79 : decode cX3_read 79 = .ok (.aload_n 1, 1) := by decide +kernel
theorem dX3_read_80 : decode cX3_read 80 = .ok (.getfield 23, 3) := by decide +kernel
theorem dX3_read_83 : decode cX3_read 83 = .ok (.iload 9, 2) := by decide +kernel
theorem dX3_read_85 : decode cX3_read 85 = .ok (.iaload, 1) := by decide +kernel
theorem dX3_read_86 : decode cX3_read 86 = .ok (.isub, 1) := by decide +kernel
theorem dX3_read_87 : decode cX3_read 87 = .ok (.istore 7, 2) := by decide +kernel
theorem dX3_read_89 : decode cX3_read 89 = .ok (.aload_n 2, 1) := by decide +kernel
theorem dX3_read_90 : decode cX3_read 90 = .ok (.getfield 28, 3) := by decide +kernel
theorem dX3_read_93 : decode cX3_read 93 = .ok (.iload 9, 2) := by decide +kernel
theorem dX3_read_95 : decode cX3_read 95 = .ok (.iaload, 1) := by decide +kernel
theorem dX3_read_96 : decode cX3_read 96 = .ok (.istore 6, 2) := by decide +kernel
theorem dX3_read_98 : decode cX3_read 98 = .ok (.iinc 8 1, 3) := by decide +kernel
theorem dX3_read_101 : decode cX3_read 101 = .ok (.goto (-85), 3) := by decide +kernel
theorem dX3_read_104 : decode cX3_read 104 = .ok (.iconst 0, 1) := by decide +kernel
theorem dX3_read_105 : decode cX3_read 105 = .ok (.ireturn, 1) := by decide +kernel
set_option maxRecDepth 20000 in
theorem ggX3_lastCall_X7_has : GoodIn wsX3_lastCall wsX7_has := goodIn_r _ [3] (by decide +kernel) (by decide +kernel)
set_option maxRecDepth 20000 in
theorem gX3_lastCall_X7_has_n39 : GoodIn wsX3_lastCall (wsX7_has) := ggX3_lastCall_X7_has
theorem dX3_lastCall_0 : decode cX3_lastCall 0 = .ok (.iconst 0, 1) := by decide +kernel
theorem dX3_lastCall_1 : decode cX3_lastCall 1 = .ok (.istore 4, 2) := by decide +kernel
theorem dX3_lastCall_3 : decode cX3_lastCall 3 = .ok (.iload 4, 2) := by decide +kernel
theorem dX3_lastCall_5 : decode cX3_lastCall 5 = .ok (.aload_n 0, 1) := by decide +kernel
theorem dX3_lastCall_6 : decode cX3_lastCall 6 = .ok (.getfield 33, 3) := by decide +kernel
theorem dX3_lastCall_9 : decode cX3_lastCall 9 = .ok (.if_icmp .ge 68, 3) := by decide +kernel
theorem dX3_lastCall_12 : decode cX3_lastCall 12 = .ok (.aload_n 0, 1) := by decide +kernel
theorem dX3_lastCall_13 : decode cX3_lastCall 13 = .ok (.getfield 36, 3) := by decide +kernel
theorem dX3_lastCall_16 : decode cX3_lastCall 16 = .ok (.iload 4, 2) := by decide +kernel
theorem dX3_lastCall_18 : decode cX3_lastCall 18 = .ok (.invokestatic 39, 3) := by decide +kernel
theorem dX3_lastCall_21 : decode cX3_lastCall 21 = .ok (.ifCond .eq 50, 3) := by decide +kernel
theorem dX3_lastCall_24 : decode cX3_lastCall 24 = .ok (.aload_n 1, 1) := by decide +kernel
theorem dX3_lastCall_25 : decode cX3_lastCall 25 = .ok (.getfield 43, 3) := by decide +kernel
theorem dX3_lastCall_28 : decode cX3_lastCall 28 = .ok (.iload 4, 2) := by decide +kernel
theorem dX3_lastCall_30 : decode cX3_lastCall 30 = .ok (.iaload, 1) := by decide +kernel
theorem dX3_lastCall_31 : decode cX3_lastCall 31 = .ok (.iload_n 2, 1) := by decide +kernel
theorem dX3_lastCall_32 : decode cX3_lastCall 32 = .ok (.if_icmp .ne 39, 3) := by decide +kernel
theorem dX3_lastCall_35 : decode cX3_lastCall 35 = .ok (.iload_n 3, 1) := by decide +kernel
theorem dX3_lastCall_36 : decode cX3_lastCall 36 = .ok (.aload_n 0, 1) := by decide +kernel
theorem dX3_lastCall_37 : decode cX3_lastCall 37 = .ok (.getfield 23, 3) := by decide +kernel
theorem dX3_lastCall_40 : decode cX3_lastCall 40 = .ok (.iload 4, 2) := by decide +kernel
theorem dX3_lastCall_42 : decode cX3_lastCall 42 = .ok (.iaload, 1) := by decide +kernel
theorem dX3_lastCall_43 : decode cX3_lastCall 43 = .ok (.isub, 1) := by decide +kernel
theorem dX3_lastCall_44 : decode cX3_lastCall 44 = .ok (.istore 5, 2) := by decide +kernel
theorem dX3_lastCall_46 : decode cX3_lastCall 46 = .ok (.iload 5, 2) := by decide +kernel
theorem dX3_lastCall_48 : decode cX3_lastCall 48 = .ok (.ifCond .lt 23, 3) := by decide +kernel
theorem dX3_lastCall_51 : decode cX3_lastCall 51 = .ok (.iload 5, 2) := by decide +kernel
theorem dX3_lastCall_53 : decode cX3_lastCall 53 = .ok (.aload_n 0, 1) := by decide +kernel
theorem dX3_lastCall_54 : decode cX3_lastCall 54 = .ok (.getfield 46, 3) := by decide +kernel
theorem dX3_lastCall_57 : decode cX3_lastCall 57 = .ok (.aload_n 1, 1) := by decide +kernel
theorem dX3_lastCall_58 : decode cX3_lastCall 58 = .ok (.getfield 28, 3) := by decide +kernel
theorem dX3_lastCall_61 : decode cX3_lastCall 61 = .ok (.iload 4, 2) := by decide +kernel
theorem dX3_lastCall_63 : decode cX3_lastCall 63 = .ok (.iaload, 1) := by decide +kernel
theorem dX3_lastCall_64 : decode cX3_lastCall 64 = .ok (.iaload, 1) := by decide +kernel
theorem dX3_lastCall_65 : decode cX3_lastCall 65 = .ok (.if_icmp .ge 6, 3) := by decide +kernel
theorem dX3_lastCall_68 : decode cX3_lastCall 68 = .ok (.iload 4, 2) := by decide +kernel
theorem dX3_lastCall_70 : decode cX3_lastCall 70 = .ok (.ireturn, 1) := by decide +kernel
theorem dX3_lastCall_71 : decode cX3_lastCall 71 = .ok (.iinc 4 1, 3) := by decide +kernel
theorem dX3_lastCall_74 : decode cX3_lastCall 74 = .ok (.goto (-71), 3) := by decide +kernel
theorem dX3_lastCall_77 : decode cX3_lastCall 77 = .ok (.bipush (-9), 2) := by decide +kernel
theorem dX3_lastCall_79 : decode cX3_lastCall 79 = .ok (.ireturn, 1) := by decide +kernel
theorem dX3_nth_0 : decode cX3_nth 0 = .ok (.iload_n 1, 1) := by decide +kernel
theorem dX3_nth_1 : decode cX3_nth 1 = .ok (.ifCond .lt 36, 3) := by decide +kernel
theorem dX3_nth_4 : decode cX3_nth 4 = .ok (.iload_n 1, 1) := by decide +kernel
theorem dX3_nth_5 : decode cX3_nth 5 = .ok (.aload_n 0, 1) := by decide +kernel
theorem dX3_nth_6 : decode cX3_nth 6 = .ok (.getfield 15, 3) := by decide +kernel
theorem dX3_nth_9 : decode cX3_nth 9 = .ok (.if_icmp .ge 28, 3) := by decide +kernel
theorem dX3_nth_12 : decode cX3_nth 12 = .ok (.aload_n 0, 1) := by decide +kernel
theorem dX3_nth_13 : decode cX3_nth 13 = .ok (.getfield 15, 3) := by decide +kernel
theorem dX3_nth_16 : decode cX3_nth 16 = .ok (.bipush 10, 2) := by decide +kernel
theorem dX3_nth_18 : decode cX3_nth 18 = .ok (.if_icmp .gt 19, 3) := by decide +kernel
theorem dX3_nth_21 : decode cX3_nth 21 = .ok (.aload_n 0, 1) := by decide +kernel
theorem dX3_nth_22 : decode cX3_nth 22 = .ok (.getfield 9, 3) := by decide +kernel
theorem dX3_nth_25 : decode cX3_nth 25 = .ok (.aload_n 0, 1) := by decide +kernel
theorem dX3_nth_26 : decode cX3_nth 26 = .ok (.getfield 15, 3) := by decide +kernel
theorem dX3_nth_29 : decode cX3_nth 29 = .ok (.iconst 1, 1) := by decide +kernel
theorem dX3_nth_30 : decode cX3_nth 30 = .ok (.isub, 1) := by decide +kernel
theorem dX3_nth_31 : decode cX3_nth 31 = .ok (.iload_n 1, 1) := by decide +kernel
theorem dX3_nth_32 : decode cX3_nth 32 = .ok (.isub, 1) := by decide +kernel
theorem dX3_nth_33 : decode cX3_nth 33 = .ok (.iaload, 1) := by decide +kernel
theorem dX3_nth_34 : decode cX3_nth 34 = .ok (.goto 5, 3) := by decide +kernel
theorem dX3_nth_37 : decode cX3_nth 37 = .ok (.bipush (-9), 2) := by decide +kernel
theorem dX3_nth_39 : decode cX3_nth 39 = .ok (.ireturn, 1) := by decide +kernel
theorem dX4_init_0 : decode cX4_init 0 = .ok (.aload_n 0, 1) := by decide +kernel
theorem dX4_init_1 : decode cX4_init 1 = .ok (.invokespecial 3, 3) := by decide +kernel
theorem dX4_init_4 : decode cX4_init 4 = .ok (.aload_n 0, 1) := by decide +kernel
theorem dX4_init_5 : decode cX4_init 5 = .ok (.bipush 10, 2) := by decide +kernel
theorem dX4_init_7 : decode cX4_init 7 = .ok (.newarray .int, 2) := by decide +kernel
theorem dX4_init_9 : decode cX4_init 9 = .ok (.putfield 9, 3) := by decide +kernel
theorem dX4_init_12 : decode cX4_init 12 = .ok (.aload_n 0, 1) := by decide +kernel
theorem dX4_init_13 : decode cX4_init 13 = .ok (.bipush 24, 2) := by decide +kernel
theorem dX4_init_15 : decode cX4_init 15 = .ok (.newarray .int, 2) := by decide +kernel
theorem dX4_init_17 : decode cX4_init 17 = .ok (.putfield 15, 3) := by decide +kernel
theorem dX4_init_20 : decode cX4_init 20 = .ok (.return_, 1) := by decide +kernel
set_option maxRecDepth 20000 in
theorem ggX4_draw_X6_init : GoodIn wsX4_draw wsX6_init := goodIn_r _ [11, 12, 13, 14, 15, 16, 49, 50, 51, 52, 53] (by decide +kernel) (by decide +kernel)
set_option maxRecDepth 20000 in
theorem gX4_draw_X6_init_n20 : GoodIn wsX4_draw (wsX6_init) := ggX4_draw_X6_init
set_option maxRecDepth 20000 in
theorem ggX4_draw_X6_goThrough : GoodIn wsX4_draw wsX6_goThrough := goodIn_r _ [18, 19, 20, 21, 22, 23, 24, 25, 26, 17, 3, 27, 28, 29, 30, 16, 49, 50, 51, 52, 53, 54, 55, 56] (by decide +kernel) (by decide +kernel)
set_option maxRecDepth 20000 in
theorem gX4_draw_X6_goThrough_n21 : GoodIn wsX4_draw (wsX6_goThrough) := ggX4_draw_X6_goThrough
set_option maxRecDepth 20000 in
theorem ggX4_draw_J7_fill_53178 : GoodIn wsX4_draw wsJ7_fill_53178 := goodIn_r _ [34] (by decide +kernel) (by decide +kernel)
set_option maxRecDepth 20000 in
theorem gX4_draw_J7_fill_53178 : GoodIn wsX4_draw (va_wsS RX4 42 yJ7_fill_53178 wsJ7_fill_53178) := goodIn_app (goodIn_of _ (by decide +kernel)) ggX4_draw_J7_fill_53178
set_option maxRecDepth 20000 in
theorem ggX4_draw_X4_weigh : GoodIn wsX4_draw wsX4_weigh := goodIn_r _ [39, 4, 5, 6, 7, 40, 23, 24, 25, 57, 58, 59, 60, 61, 62, 63, 54, 55, 56] (by decide +kernel) (by decide +kernel)
set_option maxRecDepth 20000 in
theorem gX4_draw_X4_weigh : GoodIn wsX4_draw (wsV RX4 54 RX4 yX4_weigh wsX4_weigh) := goodIn_app (goodIn_of _ (by decide +kernel)) ggX4_draw_X4_weigh
set_option maxRecDepth 20000 in
theorem ggX4_draw_X4_kindOf : GoodIn wsX4_draw wsX4_kindOf := goodIn_r _ [44, 6, 4, 5, 40, 23, 24, 25, 57, 58, 59, 60, 61, 62, 63, 54, 55, 56] (by decide +kernel) (by decide +kernel)
set_option maxRecDepth 20000 in
theorem gX4_draw_X4_kindOf : GoodIn wsX4_draw (wsV RX4 58 RX4 yX4_kindOf wsX4_kindOf) := goodIn_app (goodIn_of _ (by decide +kernel)) ggX4_draw_X4_kindOf
set_option maxRecDepth 20000 in
theorem ggX4_draw_X4_waysOfPlainCallsTo : GoodIn wsX4_draw wsX4_waysOfPlainCallsTo := goodIn_r _ [48, 4, 9, 7, 23, 24, 25, 57, 58, 59, 60, 61, 62, 63, 54, 55, 56] (by decide +kernel) (by decide +kernel)
set_option maxRecDepth 20000 in
theorem gX4_draw_X4_waysOfPlainCallsTo : GoodIn wsX4_draw (wsV RX4 65 RX4 yX4_waysOfPlainCallsTo wsX4_waysOfPlainCallsTo) := goodIn_app (goodIn_of _ (by decide +kernel)) ggX4_draw_X4_waysOfPlainCallsTo
theorem dX4_draw_0 : decode cX4_draw 0 = .ok (.new 18, 3) := by decide +kernel
theorem dX4_draw_3 : decode cX4_draw 3 = .ok (.dup, 1) := by decide +kernel
theorem dX4_draw_4 : decode cX4_draw 4 = .ok (.invokespecial 20, 3) := by decide +kernel
theorem dX4_draw_7 : decode cX4_draw 7 = .ok (.astore_n 3, 1) := by decide +kernel
theorem dX4_draw_8 : decode cX4_draw 8 = .ok (.aload_n 3, 1) := by decide +kernel
theorem dX4_draw_9 : decode cX4_draw 9 = .ok (.aload_n 1, 1) := by decide +kernel
theorem dX4_draw_10 : decode cX4_draw 10 = .ok (.iconst 0, 1) := by decide +kernel
theorem dX4_draw_11 : decode cX4_draw 11 = .ok (.iconst 0, 1) := by decide +kernel
theorem dX4_draw_12 : decode cX4_draw 12 = .ok (.invokestatic 21, 3) := by decide +kernel
theorem dX4_draw_15 : decode cX4_draw 15 = .ok (.aload_n 0, 1) := by decide +kernel
theorem dX4_draw_16 : decode cX4_draw 16 = .ok (.aload_n 1, 1) := by decide +kernel
theorem dX4_draw_17 : decode cX4_draw 17 = .ok (.getfield 25, 3) := by decide +kernel
theorem dX4_draw_20 : decode cX4_draw 20 = .ok (.putfield 31, 3) := by decide +kernel
theorem dX4_draw_23 : decode cX4_draw 23 = .ok (.aload_n 0, 1) := by decide +kernel
theorem dX4_draw_24 : decode cX4_draw 24 = .ok (.aload_n 3, 1) := by decide +kernel
theorem dX4_draw_25 : decode cX4_draw 25 = .ok (.getfield 34, 3) := by decide +kernel
theorem dX4_draw_28 : decode cX4_draw 28 = .ok (.putfield 37, 3) := by decide +kernel
theorem dX4_draw_31 : decode cX4_draw 31 = .ok (.aload_n 0, 1) := by decide +kernel
theorem dX4_draw_32 : decode cX4_draw 32 = .ok (.aload_n 3, 1) := by decide +kernel
theorem dX4_draw_33 : decode cX4_draw 33 = .ok (.getfield 38, 3) := by decide +kernel
theorem dX4_draw_36 : decode cX4_draw 36 = .ok (.putfield 41, 3) := by decide +kernel
theorem dX4_draw_39 : decode cX4_draw 39 = .ok (.aload_n 0, 1) := by decide +kernel
theorem dX4_draw_40 : decode cX4_draw 40 = .ok (.getfield 9, 3) := by decide +kernel
theorem dX4_draw_43 : decode cX4_draw 43 = .ok (.iconst 1, 1) := by decide +kernel
theorem dX4_draw_44 : decode cX4_draw 44 = .ok (.invokestatic 42, 3) := by decide +kernel
theorem dX4_draw_47 : decode cX4_draw 47 = .ok (.aload_n 3, 1) := by decide +kernel
theorem dX4_draw_48 : decode cX4_draw 48 = .ok (.getfield 48, 3) := by decide +kernel
theorem dX4_draw_51 : decode cX4_draw 51 = .ok (.iconst 1, 1) := by decide +kernel
theorem dX4_draw_52 : decode cX4_draw 52 = .ok (.isub, 1) := by decide +kernel
theorem dX4_draw_53 : decode cX4_draw 53 = .ok (.istore 4, 2) := by decide +kernel
theorem dX4_draw_55 : decode cX4_draw 55 = .ok (.iload 4, 2) := by decide +kernel
theorem dX4_draw_57 : decode cX4_draw 57 = .ok (.ifCond .lt 22, 3) := by decide +kernel
theorem dX4_draw_60 : decode cX4_draw 60 = .ok (.aload_n 0, 1) := by decide +kernel
theorem dX4_draw_61 : decode cX4_draw 61 = .ok (.aload_n 1, 1) := by decide +kernel
theorem dX4_draw_62 : decode cX4_draw 62 = .ok (.aload_n 3, 1) := by decide +kernel
theorem dX4_draw_63 : decode cX4_draw 63 = .ok (.getfield 51, 3) := by decide +kernel
theorem dX4_draw_66 : decode cX4_draw 66 = .ok (.iload 4, 2) := by decide +kernel
theorem dX4_draw_68 : decode cX4_draw 68 = .ok (.iaload, 1) := by decide +kernel
theorem dX4_draw_69 : decode cX4_draw 69 = .ok (.iload_n 2, 1) := by decide +kernel
theorem dX4_draw_70 : decode cX4_draw 70 = .ok (.invokevirtual 54, 3) := by decide +kernel
theorem dX4_draw_73 : decode cX4_draw 73 = .ok (.iinc 4 (-1), 3) := by decide +kernel
theorem dX4_draw_76 : decode cX4_draw 76 = .ok (.goto (-21), 3) := by decide +kernel
theorem dX4_draw_79 : decode cX4_draw 79 = .ok (.iconst 0, 1) := by decide +kernel
theorem dX4_draw_80 : decode cX4_draw 80 = .ok (.istore 4, 2) := by decide +kernel
theorem dX4_draw_82 : decode cX4_draw 82 = .ok (.iload 4, 2) := by decide +kernel
theorem dX4_draw_84 : decode cX4_draw 84 = .ok (.aload_n 0, 1) := by decide +kernel
theorem dX4_draw_85 : decode cX4_draw 85 = .ok (.getfield 31, 3) := by decide +kernel
theorem dX4_draw_88 : decode cX4_draw 88 = .ok (.if_icmp .ge 51, 3) := by decide +kernel
theorem dX4_draw_91 : decode cX4_draw 91 = .ok (.aload_n 0, 1) := by decide +kernel
theorem dX4_draw_92 : decode cX4_draw 92 = .ok (.aload_n 1, 1) := by decide +kernel
theorem dX4_draw_93 : decode cX4_draw 93 = .ok (.iload 4, 2) := by decide +kernel
theorem dX4_draw_95 : decode cX4_draw 95 = .ok (.invokevirtual 58, 3) := by decide +kernel
theorem dX4_draw_98 : decode cX4_draw 98 = .ok (.ifCond .ne 35, 3) := by decide +kernel
theorem dX4_draw_101 : decode cX4_draw 101 = .ok (.aload_n 0, 1) := by decide +kernel
theorem dX4_draw_102 : decode cX4_draw 102 = .ok (.getfield 15, 3) := by decide +kernel
theorem dX4_draw_105 : decode cX4_draw 105 = .ok (.iload 4, 2) := by decide +kernel
theorem dX4_draw_107 : decode cX4_draw 107 = .ok (.aload_n 0, 1) := by decide +kernel
theorem dX4_draw_108 : decode cX4_draw 108 = .ok (.aload_n 1, 1) := by decide +kernel
theorem dX4_draw_109 : decode cX4_draw 109 = .ok (.aload_n 1, 1) := by decide +kernel
theorem dX4_draw_110 : decode cX4_draw 110 = .ok (.getfield 62, 3) := by decide +kernel
theorem dX4_draw_113 : decode cX4_draw 113 = .ok (.iload 4, 2) := by decide +kernel
theorem dX4_draw_115 : decode cX4_draw 115 = .ok (.iaload, 1) := by decide +kernel
theorem dX4_draw_116 : decode cX4_draw 116 = .ok (.invokevirtual 65, 3) := by decide +kernel
theorem dX4_draw_119 : decode cX4_draw 119 = .ok (.iastore, 1) := by decide +kernel
theorem dX4_draw_120 : decode cX4_draw 120 = .ok (.aload_n 0, 1) := by decide +kernel
theorem dX4_draw_121 : decode cX4_draw 121 = .ok (.dup, 1) := by decide +kernel
theorem dX4_draw_122 : decode cX4_draw 122 = .ok (.getfield 68, 3) := by decide +kernel
theorem dX4_draw_125 : decode cX4_draw 125 = .ok (.iconst 1, 1) := by decide +kernel
theorem dX4_draw_126 : decode cX4_draw 126 = .ok (.iload 4, 2) := by decide +kernel
theorem dX4_draw_128 : decode cX4_draw 128 = .ok (.ishl, 1) := by decide +kernel
theorem dX4_draw_129 : decode cX4_draw 129 = .ok (.ior, 1) := by decide +kernel
theorem dX4_draw_130 : decode cX4_draw 130 = .ok (.putfield 68, 3) := by decide +kernel
theorem dX4_draw_133 : decode cX4_draw 133 = .ok (.iinc 4 1, 3) := by decide +kernel
theorem dX4_draw_136 : decode cX4_draw 136 = .ok (.goto (-54), 3) := by decide +kernel
theorem dX4_draw_139 : decode cX4_draw 139 = .ok (.return_, 1) := by decide +kernel
set_option maxRecDepth 20000 in
theorem ggX4_weigh_X7_has : GoodIn wsX4_weigh wsX7_has := goodIn_r _ [8] (by decide +kernel) (by decide +kernel)
set_option maxRecDepth 20000 in
theorem gX4_weigh_X7_has_n74 : GoodIn wsX4_weigh (wsX7_has) := ggX4_weigh_X7_has
theorem dX4_weigh_0 : decode cX4_weigh 0 = .ok (.iload_n 2, 1) := by decide +kernel
theorem dX4_weigh_1 : decode cX4_weigh 1 = .ok (.ifCond .ne 4, 3) := by decide +kernel
theorem dX4_weigh_4 : decode cX4_weigh 4 = .ok (.return_, 1) := by decide +kernel
theorem dX4_weigh_5 : decode cX4_weigh 5 = .ok (.iconst 0, 1) := by decide +kernel
theorem dX4_weigh_6 : decode cX4_weigh 6 = .ok (.istore 4, 2) := by decide +kernel
theorem dX4_weigh_8 : decode cX4_weigh 8 = .ok (.iconst 0, 1) := by decide +kernel
theorem dX4_weigh_9 : decode cX4_weigh 9 = .ok (.istore 5, 2) := by decide +kernel
theorem dX4_weigh_11 : decode cX4_weigh 11 = .ok (.iload 5, 2) := by decide +kernel
theorem dX4_weigh_13 : decode cX4_weigh 13 = .ok (.aload_n 0, 1) := by decide +kernel
theorem dX4_weigh_14 : decode cX4_weigh 14 = .ok (.getfield 31, 3) := by decide +kernel
theorem dX4_weigh_17 : decode cX4_weigh 17 = .ok (.if_icmp .ge 66, 3) := by decide +kernel
theorem dX4_weigh_20 : decode cX4_weigh 20 = .ok (.aload_n 1, 1) := by decide +kernel
theorem dX4_weigh_21 : decode cX4_weigh 21 = .ok (.getfield 62, 3) := by decide +kernel
theorem dX4_weigh_24 : decode cX4_weigh 24 = .ok (.iload 5, 2) := by decide +kernel
theorem dX4_weigh_26 : decode cX4_weigh 26 = .ok (.iaload, 1) := by decide +kernel
theorem dX4_weigh_27 : decode cX4_weigh 27 = .ok (.iload_n 2, 1) := by decide +kernel
theorem dX4_weigh_28 : decode cX4_weigh 28 = .ok (.if_icmp .ne 49, 3) := by decide +kernel
theorem dX4_weigh_31 : decode cX4_weigh 31 = .ok (.aload_n 0, 1) := by decide +kernel
theorem dX4_weigh_32 : decode cX4_weigh 32 = .ok (.getfield 37, 3) := by decide +kernel
theorem dX4_weigh_35 : decode cX4_weigh 35 = .ok (.aload_n 1, 1) := by decide +kernel
theorem dX4_weigh_36 : decode cX4_weigh 36 = .ok (.getfield 71, 3) := by decide +kernel
theorem dX4_weigh_39 : decode cX4_weigh 39 = .ok (.iload 5, 2) := by decide +kernel
theorem dX4_weigh_41 : decode cX4_weigh 41 = .ok (.iaload, 1) := by decide +kernel
theorem dX4_weigh_42 : decode cX4_weigh 42 = .ok (.invokestatic 74, 3) := by decide +kernel
theorem dX4_weigh_45 : decode cX4_weigh 45 = .ok (.ifCond .eq 32, 3) := by decide +kernel
theorem dX4_weigh_48 : decode cX4_weigh 48 = .ok (.aload_n 0, 1) := by decide +kernel
theorem dX4_weigh_49 : decode cX4_weigh 49 = .ok (.getfield 41, 3) := by decide +kernel
theorem dX4_weigh_52 : decode cX4_weigh 52 = .ok (.iload 5, 2) := by decide +kernel
theorem dX4_weigh_54 : decode cX4_weigh 54 = .ok (.invokestatic 74, 3) := by decide +kernel
theorem dX4_weigh_57 : decode cX4_weigh 57 = .ok (.ifCond .ne 20, 3) := by decide +kernel
theorem dX4_weigh_60 : decode cX4_weigh 60 = .ok (.iload 4, 2) := by decide +kernel
theorem dX4_weigh_62 : decode cX4_weigh 62 = .ok (.aload_n 0, 1) := by decide +kernel
theorem dX4_weigh_63 : decode cX4_weigh 63 = .ok (.getfield 9, 3) := by decide +kernel
theorem dX4_weigh_66 : decode cX4_weigh 66 = .ok (.aload_n 1, 1) := by decide +kernel
theorem dX4_weigh_67 : decode cX4_weigh 67 = .ok (.getfield 71, 3) := by decide +kernel
theorem dX4_weigh_70 : decode cX4_weigh 70 = .ok (.iload 5, 2) := by decide +kernel
theorem dX4_weigh_72 : decode cX4_weigh 72 = .ok (.iaload, 1) := by decide +kernel
theorem dX4_weigh_73 : decode cX4_weigh 73 = .ok (.iaload, 1) := by decide +kernel
theorem dX4_weigh_74 : decode cX4_weigh 74 = .ok (.iadd, 1) := by decide +kernel
theorem dX4_weigh_75 : decode cX4_weigh 75 = .ok (.istore 4, 2) := by decide +kernel
theorem dX4_weigh_77 : decode cX4_weigh 77 = .ok (.iinc 5 1, 3) := by decide +kernel
theorem dX4_weigh_80 : decode cX4_weigh 80 = .ok (.goto (-69), 3) := by decide +kernel
theorem dX4_weigh_83 : decode cX4_weigh 83 = .ok (.iload 4, 2) := by decide +kernel
theorem dX4_weigh_85 : decode cX4_weigh 85 = .ok (.iload_n 3, 1) := by decide +kernel
theorem dX4_weigh_86 : decode cX4_weigh 86 = .ok (.if_icmp .le 18, 3) := by decide +kernel
theorem dX4_weigh_89 : decode cX4_weigh 89 = .ok (.aload_n 0, 1) := by decide +kernel
theorem dX4_weigh_90 : decode cX4_weigh 90 = .ok (.dup, 1) := by decide +kernel
theorem dX4_weigh_91 : decode cX4_weigh 91 = .ok (.getfield 78, 3) := by decide +kernel
theorem dX4_weigh_94 : decode cX4_weigh 94 = .ok (.iconst 1, 1) := by decide +kernel
theorem dX4_weigh_95 : decode cX4_weigh 95 = .ok (.iload_n 2, 1) := by decide +kernel
theorem dX4_weigh_96 : decode cX4_weigh 96 = .ok (.ishl, 1) := by decide +kernel
theorem dX4_weigh_97 : decode cX4_weigh 97 = .ok (.ior, 1) := by decide +kernel
theorem dX4_weigh_98 : decode cX4_weigh 98 = .ok (.putfield 78, 3) := by decide +kernel
theorem dX4_weigh_101 : decode cX4_weigh 101 = .ok (.goto 11, 3) := by decide +kernel
theorem dX4_weigh_104 : decode cX4_weigh 104 = .ok (.aload_n 0, 1) := by decide +kernel
theorem dX4_weigh_105 : decode cX4_weigh 105 = .ok (.getfield 9, 3) := by decide +kernel
theorem dX4_weigh_108 : decode cX4_weigh 108 = .ok (.iload_n 2, 1) := by decide +kernel
theorem dX4_weigh_109 : decode cX4_weigh 109 = .ok (.iload 4, 2) := by decide +kernel
theorem dX4_weigh_111 : decode cX4_weigh 111 = .ok (.iastore, 1) := by decide +kernel
theorem dX4_weigh_112 : decode cX4_weigh 112 = .ok (.return_, 1) := by decide +kernel
set_option maxRecDepth 20000 in
theorem ggX4_waysOfPlainCallsTo_X7_has : GoodIn wsX4_waysOfPlainCallsTo wsX7_has := goodIn_r _ [6] (by decide +kernel) (by decide +kernel)
set_option maxRecDepth 20000 in
theorem gX4_waysOfPlainCallsTo_X7_has_n74 : GoodIn wsX4_waysOfPlainCallsTo (wsX7_has) := ggX4_waysOfPlainCallsTo_X7_has
theorem dX4_waysOfPlainCallsTo_0 : decode cX4_waysOfPlainCallsTo 0 = .ok (.iconst 0, 1) := by decide +kernel
theorem dX4_waysOfPlainCallsTo_1 : decode cX4_waysOfPlainCallsTo 1 = .ok (.istore_n 3, 1) := by decide +kernel
theorem dX4_waysOfPlainCallsTo_2 : decode cX4_waysOfPlainCallsTo 2 = .ok (.iconst 0, 1) := by decide +kernel
theorem dX4_waysOfPlainCallsTo_3 : decode cX4_waysOfPlainCallsTo 3 = .ok (.istore 4, 2) := by decide +kernel
theorem dX4_waysOfPlainCallsTo_5 : decode cX4_waysOfPlainCallsTo 5 = .ok (.iload 4, 2) := by decide +kernel
theorem dX4_waysOfPlainCallsTo_7 : decode cX4_waysOfPlainCallsTo 7 = .ok (.aload_n 0, 1) := by decide +kernel
theorem dX4_waysOfPlainCallsTo_8 : decode cX4_waysOfPlainCallsTo 8 = .ok (.getfield 31, 3) := by decide +kernel
theorem dX4_waysOfPlainCallsTo_11 : decode cX4_waysOfPlainCallsTo 11 = .ok (.if_icmp .ge 47, 3) := by decide +kernel
theorem dX4_waysOfPlainCallsTo_14 : decode cX4_waysOfPlainCallsTo 14 = .ok (.aload_n 0, 1) := by decide +kernel
theorem dX4_waysOfPlainCallsTo_15 : decode cX4_waysOfPlainCallsTo 15 = .ok (.getfield 68, 3) := by decide +kernel
theorem dX4_waysOfPlainCallsTo_18 : decode cX4_waysOfPlainCallsTo 18 = .ok (.iload 4, 2) := by decide +kernel
theorem dX4_waysOfPlainCallsTo_20 : decode cX4_waysOfPlainCallsTo 20 = .ok (.invokestatic 74, 3) := by decide +kernel
theorem dX4_waysOfPlainCallsTo_23 : decode cX4_waysOfPlainCallsTo 23 = .ok (.ifCond .eq 29, 3) := by decide +kernel
theorem dX4_waysOfPlainCallsTo_26 : decode cX4_waysOfPlainCallsTo 26 = .ok (.aload_n 1, 1) := by decide +kernel
theorem dX4_waysOfPlainCallsTo_27 : decode cX4_waysOfPlainCallsTo 27 = .ok (.getfield 62, 3) := by decide +kernel
theorem dX4_waysOfPlainCallsTo_30 : decode cX4_waysOfPlainCallsTo 30 = .ok (.iload 4, 2) := by decide +kernel
theorem dX4_waysOfPlainCallsTo_32 : decode cX4_waysOfPlainCallsTo 32 = .ok (.iaload, 1) := by decide +kernel
theorem dX4_waysOfPlainCallsTo_33 : decode cX4_waysOfPlainCallsTo 33 = .ok (.iload_n 2, 1) := by decide +kernel
theorem dX4_waysOfPlainCallsTo_34 : decode cX4_waysOfPlainCallsTo 34 = .ok (.if_icmp .ne 18, 3) := by decide +kernel
theorem dX4_waysOfPlainCallsTo_37 : decode cX4_waysOfPlainCallsTo 37 = .ok (.iload_n 3, 1) := by decide +kernel
theorem dX4_waysOfPlainCallsTo_38 : decode cX4_waysOfPlainCallsTo 38 = .ok (.aload_n 0, 1) := by decide +kernel
theorem dX4_waysOfPlainCallsTo_39 : decode cX4_waysOfPlainCallsTo 39 = .ok (.getfield 9, 3) := by decide +kernel
theorem dX4_waysOfPlainCallsTo_42 : decode cX4_waysOfPlainCallsTo 42 = .ok (.aload_n 1, 1) := by decide +kernel
theorem dX4_waysOfPlainCallsTo_43 : decode cX4_waysOfPlainCallsTo 43 = .ok (.getfield 71, 3) := by decide +kernel
theorem dX4_waysOfPlainCallsTo_46 : decode cX4_waysOfPlainCallsTo 46 = .ok (.iload 4, 2) := by decide +kernel
theorem dX4_waysOfPlainCallsTo_48 : decode cX4_waysOfPlainCallsTo 48 = .ok (.iaload, 1) := by decide +kernel
theorem dX4_waysOfPlainCallsTo_49 : decode cX4_waysOfPlainCallsTo 49 = .ok (.iaload, 1) := by decide +kernel
theorem dX4_waysOfPlainCallsTo_50 : decode cX4_waysOfPlainCallsTo 50 = .ok (.iadd, 1) := by decide +kernel
theorem dX4_waysOfPlainCallsTo_51 : decode cX4_waysOfPlainCallsTo 51 = .ok (.istore_n 3, 1) := by decide +kernel
theorem dX4_waysOfPlainCallsTo_52 : decode cX4_waysOfPlainCallsTo 52 = .ok (.iinc 4 1, 3) := by decide +kernel
theorem dX4_waysOfPlainCallsTo_55 : decode cX4_waysOfPlainCallsTo 55 = .ok (.goto (-50), 3) := by decide +kernel
theorem dX4_waysOfPlainCallsTo_58 : decode cX4_waysOfPlainCallsTo 58 = .ok (.iload_n 3, 1) := by decide +kernel
theorem dX4_waysOfPlainCallsTo_59 : decode cX4_waysOfPlainCallsTo 59 = .ok (.ireturn, 1) := by decide +kernel
set_option maxRecDepth 20000 in
theorem ggX4_kindOf_X7_has : GoodIn wsX4_kindOf wsX7_has := goodIn_r _ [7] (by decide +kernel) (by decide +kernel)
set_option maxRecDepth 20000 in
theorem gX4_kindOf_X7_has_n74 : GoodIn wsX4_kindOf (wsX7_has) := ggX4_kindOf_X7_has
theorem dX4_kindOf_0 : decode cX4_kindOf 0 = .ok (.aload_n 0, 1) := by decide +kernel
theorem dX4_kindOf_1 : decode cX4_kindOf 1 = .ok (.getfield 41, 3) := by decide +kernel
theorem dX4_kindOf_4 : decode cX4_kindOf 4 = .ok (.iload_n 2, 1) := by decide +kernel
theorem dX4_kindOf_5 : decode cX4_kindOf 5 = .ok (.invokestatic 74, 3) := by decide +kernel
theorem dX4_kindOf_8 : decode cX4_kindOf 8 = .ok (.ifCond .eq 5, 3) := by decide +kernel
theorem dX4_kindOf_11 : decode cX4_kindOf 11 = .ok (.iconst 1, 1) := by decide +kernel
theorem dX4_kindOf_12 : decode cX4_kindOf 12 = .ok (.ireturn, 1) := by decide +kernel
theorem dX4_kindOf_13 : decode cX4_kindOf 13 = .ok (.iload_n 2, 1) := by decide +kernel
theorem dX4_kindOf_14 : decode cX4_kindOf 14 = .ok (.aload_n 0, 1) := by decide +kernel
theorem dX4_kindOf_15 : decode cX4_kindOf 15 = .ok (.getfield 31, 3) := by decide +kernel
theorem dX4_kindOf_18 : decode cX4_kindOf 18 = .ok (.if_icmp .lt 5, 3) := by decide +kernel
theorem dX4_kindOf_21 : decode cX4_kindOf 21 = .ok (.iconst 2, 1) := by decide +kernel
theorem dX4_kindOf_22 : decode cX4_kindOf 22 = .ok (.ireturn, 1) := by decide +kernel
theorem dX4_kindOf_23 : decode cX4_kindOf 23 = .ok (.aload_n 0, 1) := by decide +kernel
theorem dX4_kindOf_24 : decode cX4_kindOf 24 = .ok (.getfield 37, 3) := by decide +kernel
theorem dX4_kindOf_27 : decode cX4_kindOf 27 = .ok (.aload_n 1, 1) := by decide +kernel
theorem dX4_kindOf_28 : decode cX4_kindOf 28 = .ok (.getfield 71, 3) := by decide +kernel
theorem dX4_kindOf_31 : decode cX4_kindOf 31 = .ok (.iload_n 2, 1) := by decide +kernel
theorem dX4_kindOf_32 : decode cX4_kindOf 32 = .ok (.iaload, 1) := by decide +kernel
theorem dX4_kindOf_33 : decode cX4_kindOf 33 = .ok (.invokestatic 74, 3) := by decide +kernel
theorem dX4_kindOf_36 : decode cX4_kindOf 36 = .ok (.ifCond .ne 5, 3) := by decide +kernel
theorem dX4_kindOf_39 : decode cX4_kindOf 39 = .ok (.iconst 3, 1) := by decide +kernel
theorem dX4_kindOf_40 : decode cX4_kindOf 40 = .ok (.ireturn, 1) := by decide +kernel
theorem dX4_kindOf_41 : decode cX4_kindOf 41 = .ok (.aload_n 0, 1) := by decide +kernel
theorem dX4_kindOf_42 : decode cX4_kindOf 42 = .ok (.getfield 78, 3) := by decide +kernel
theorem dX4_kindOf_45 : decode cX4_kindOf 45 = .ok (.aload_n 1, 1) := by decide +kernel
theorem dX4_kindOf_46 : decode cX4_kindOf 46 = .ok (.getfield 62, 3) := by decide +kernel
theorem dX4_kindOf_49 : decode cX4_kindOf 49 = .ok (.iload_n 2, 1) := by decide +kernel
theorem dX4_kindOf_50 : decode cX4_kindOf 50 = .ok (.iaload, 1) := by decide +kernel
theorem dX4_kindOf_51 : decode cX4_kindOf 51 = .ok (.invokestatic 74, 3) := by decide +kernel
theorem dX4_kindOf_54 : decode cX4_kindOf 54 = .ok (.ifCond .eq 7, 3) := by decide +kernel
theorem dX4_kindOf_57 : decode cX4_kindOf 57 = .ok (.iconst 4, 1) := by decide +kernel
theorem dX4_kindOf_58 : decode cX4_kindOf 58 = .ok (.goto 4, 3) := by decide +kernel
theorem dX4_kindOf_61 : decode cX4_kindOf 61 = .ok (.iconst 0, 1) := by decide +kernel
theorem dX4_kindOf_62 : decode cX4_kindOf 62 = .ok (.ireturn, 1) := by decide +kernel
set_option maxRecDepth 20000 in
theorem ggX5_init_X2_lastNumber : GoodIn wsX5_init wsX2_lastNumber := goodIn_r _ [12, 13, 14, 39, 40, 41, 42] (by decide +kernel) (by decide +kernel)
set_option maxRecDepth 20000 in
theorem gX5_init_X2_lastNumber_n24 : GoodIn wsX5_init (wsX2_lastNumber) := ggX5_init_X2_lastNumber
set_option maxRecDepth 20000 in
theorem ggX5_init_J7_copyOf_59c91 : GoodIn wsX5_init wsJ7_copyOf_59c91 := goodIn_r _ [18, 19, 20, 21, 22, 23, 24, 25, 26, 27, 28, 29, 30, 31, 32, 33] (by decide +kernel) (by decide +kernel)
set_option maxRecDepth 20000 in
theorem gX5_init_J7_copyOf_59c91 : GoodIn wsX5_init (va_wsS RX5 37 yJ7_copyOf_59c91 wsJ7_copyOf_59c91) := goodIn_app (goodIn_of _ (by decide +kernel)) ggX5_init_J7_copyOf_59c91
theorem dX5_init_0 : decode cX5_init 0 = .ok (.aload_n 0, 1) := by decide +kernel
theorem dX5_init_1 : decode cX5_init 1 = .ok (.invokespecial 1, 3) := by decide +kernel
theorem dX5_init_4 : decode cX5_init 4 = .ok (.aload_n 0, 1) := by decide +kernel
theorem dX5_init_5 : decode cX5_init 5 = .ok (.iload_n 1, 1) := by decide +kernel
theorem dX5_init_6 : decode cX5_init 6 = .ok (.putfield 7, 3) := by decide +kernel
theorem dX5_init_9 : decode cX5_init 9 = .ok (.aload_n 0, 1) := by decide +kernel
theorem dX5_init_10 : decode cX5_init 10 = .ok (.iload_n 2, 1) := by decide +kernel
theorem dX5_init_11 : decode cX5_init 11 = .ok (.putfield 13, 3) := by decide +kernel
theorem dX5_init_14 : decode cX5_init 14 = .ok (.aload_n 0, 1) := by decide +kernel
theorem dX5_init_15 : decode cX5_init 15 = .ok (.aload_n 3, 1) := by decide +kernel
theorem dX5_init_16 : decode cX5_init 16 = .ok (.getfield 16, 3) := by decide +kernel
theorem dX5_init_19 : decode cX5_init 19 = .ok (.putfield 21, 3) := by decide +kernel
theorem dX5_init_22 : decode cX5_init 22 = .ok (.aload_n 0, 1) := by decide +kernel
theorem dX5_init_23 : decode cX5_init 23 = .ok (.aload_n 3, 1) := by decide +kernel
theorem dX5_init_24 : decode cX5_init 24 = .ok (.invokevirtual 24, 3) := by decide +kernel
theorem dX5_init_27 : decode cX5_init 27 = .ok (.putfield 28, 3) := by decide +kernel
theorem dX5_init_30 : decode cX5_init 30 = .ok (.aload_n 0, 1) := by decide +kernel
theorem dX5_init_31 : decode cX5_init 31 = .ok (.aload 4, 2) := by decide +kernel
theorem dX5_init_33 : decode cX5_init 33 = .ok (.getfield 30, 3) := by decide +kernel
theorem dX5_init_36 : decode cX5_init 36 = .ok (.aload 4, 2) := by decide +kernel
theorem dX5_init_38 : decode cX5_init 38 = .ok (.getfield 36, 3) := by decide +kernel
theorem dX5_init_41 : decode cX5_init 41 = .ok (.invokestatic 37, 3) := by decide +kernel
theorem dX5_init_44 : decode cX5_init 44 = .ok (.putfield 43, 3) := by decide +kernel
theorem dX5_init_47 : decode cX5_init 47 = .ok (.return_, 1) := by decide +kernel
theorem dX6_init_0 : decode cX6_init 0 = .ok (.aload_n 0, 1) := by decide +kernel
theorem dX6_init_1 : decode cX6_init 1 = .ok (.invokespecial 3, 3) := by decide +kernel
theorem dX6_init_4 : decode cX6_init 4 = .ok (.aload_n 0, 1) := by decide +kernel
theorem dX6_init_5 : decode cX6_init 5 = .ok (.bipush 10, 2) := by decide +kernel
theorem dX6_init_7 : decode cX6_init 7 = .ok (.newarray .int, 2) := by decide +kernel
theorem dX6_init_9 : decode cX6_init 9 = .ok (.putfield 9, 3) := by decide +kernel
theorem dX6_init_12 : decode cX6_init 12 = .ok (.return_, 1) := by decide +kernel
set_option maxRecDepth 20000 in
theorem ggX6_goThrough_X7_has : GoodIn wsX6_goThrough wsX7_has := goodIn_r _ [7] (by decide +kernel) (by decide +kernel)
set_option maxRecDepth 20000 in
theorem gX6_goThrough_X7_has_n36 : GoodIn wsX6_goThrough (wsX7_has) := ggX6_goThrough_X7_has
set_option maxRecDepth 20000 in
theorem ggX6_goThrough_X6_goThrough : GoodIn wsX6_goThrough wsX6_goThrough := goodIn_r _ [0, 1, 2, 3, 4, 5, 6, 7, 8, 9, 10, 11, 12, 13, 14, 15, 16, 17, 18, 19, 20, 21, 22, 23] (by decide +kernel) (by decide +kernel)
set_option maxRecDepth 20000 in
theorem gX6_goThrough_X6_goThrough : GoodIn wsX6_goThrough (va_wsS RX6 43 yX6_goThrough wsX6_goThrough) := goodIn_app (goodIn_of _ (by decide +kernel)) ggX6_goThrough_X6_goThrough
set_option maxRecDepth 20000 in
theorem ggX6_goThrough_X6_end : GoodIn wsX6_goThrough wsX6_end := goodIn_r _ [14, 1, 15, 16, 17, 18, 19, 20] (by decide +kernel) (by decide +kernel)
set_option maxRecDepth 20000 in
theorem gX6_goThrough_X6_end : GoodIn wsX6_goThrough (wsV RX6 47 RX6 yX6_end wsX6_end) := goodIn_app (goodIn_of _ (by decide +kernel)) ggX6_goThrough_X6_end
theorem dX6_goThrough_0 : decode cX6_goThrough 0 = .ok (.iload_n 3, 1) := by decide +kernel
theorem dX6_goThrough_1 : decode cX6_goThrough 1 = .ok (.bipush 10, 2) := by decide +kernel
theorem dX6_goThrough_3 : decode cX6_goThrough 3 = .ok (.if_icmp .ge 12, 3) := by decide +kernel
theorem dX6_goThrough_6 : decode cX6_goThrough 6 = .ok (.aload_n 0, 1) := by decide +kernel
theorem dX6_goThrough_7 : decode cX6_goThrough 7 = .ok (.getfield 15, 3) := by decide +kernel
theorem dX6_goThrough_10 : decode cX6_goThrough 10 = .ok (.bipush 10, 2) := by decide +kernel
theorem dX6_goThrough_12 : decode cX6_goThrough 12 = .ok (.if_icmp .lt 4, 3) := by decide +kernel
theorem dX6_goThrough_15 : decode cX6_goThrough 15 = .ok (.return_, 1) := by decide +kernel
theorem dX6_goThrough_16 : decode cX6_goThrough 16 = .ok (.aload_n 0, 1) := by decide +kernel
theorem dX6_goThrough_17 : decode cX6_goThrough 17 = .ok (.dup, 1) := by decide +kernel
theorem dX6_goThrough_18 : decode cX6_goThrough 18 = .ok (.getfield 19, 3) := by decide +kernel
theorem dX6_goThrough_21 : decode cX6_goThrough 21 = .ok (.iconst 1, 1) := by decide +kernel
theorem dX6_goThrough_22 : decode cX6_goThrough 22 = .ok (.iload_n 2, 1) := by decide +kernel
theorem dX6_goThrough_23 : decode cX6_goThrough 23 = .ok (.ishl, 1) := by decide +kernel
theorem dX6_goThrough_24 : decode cX6_goThrough 24 = .ok (.ior, 1) := by decide +kernel
theorem dX6_goThrough_25 : decode cX6_goThrough 25 = .ok (.putfield 19, 3) := by decide +kernel
theorem dX6_goThrough_28 : decode cX6_goThrough 28 = .ok (.aload_n 0, 1) := by decide +kernel
theorem dX6_goThrough_29 : decode cX6_goThrough 29 = .ok (.dup, 1) := by decide +kernel
theorem dX6_goThrough_30 : decode cX6_goThrough 30 = .ok (.getfield 22, 3) := by decide +kernel
theorem dX6_goThrough_33 : decode cX6_goThrough 33 = .ok (.iconst 1, 1) := by decide +kernel
theorem dX6_goThrough_34 : decode cX6_goThrough 34 = .ok (.iload_n 2, 1) := by decide +kernel
theorem dX6_goThrough_35 : decode cX6_goThrough 35 = .ok (.ishl, 1) := by decide +kernel
theorem dX6_goThrough_36 : decode cX6_goThrough 36 = .ok (.ior, 1) := by decide +kernel
theorem dX6_goThrough_37 : decode cX6_goThrough 37 = .ok (.putfield 22, 3) := by decide +kernel
theorem dX6_goThrough_40 : decode cX6_goThrough 40 = .ok (.iconst 0, 1) := by decide +kernel
theorem dX6_goThrough_41 : decode cX6_goThrough 41 = .ok (.istore 4, 2) := by decide +kernel
theorem dX6_goThrough_43 : decode cX6_goThrough 43 = .ok (.iload 4, 2) := by decide +kernel
theorem dX6_goThrough_45 : decode cX6_goThrough 45 = .ok (.aload_n 1, 1) := by decide +kernel
theorem dX6_goThrough_46 : decode cX6_goThrough 46 = .ok (.getfield 25, 3) := by decide +kernel
theorem dX6_goThrough_49 : decode cX6_goThrough 49 = .ok (.if_icmp .ge 88, 3) := by decide +kernel
theorem dX6_goThrough_52 : decode cX6_goThrough 52 = .ok (.aload_n 1, 1) := by decide +kernel
theorem dX6_goThrough_53 : decode cX6_goThrough 53 = .ok (.getfield 30, 3) := by decide +kernel
theorem dX6_goThrough_56 : decode cX6_goThrough 56 = .ok (.iload 4, 2) := by decide +kernel
theorem dX6_goThrough_58 : decode cX6_goThrough 58 = .ok (.iaload, 1) := by decide +kernel
theorem dX6_goThrough_59 : decode cX6_goThrough 59 = .ok (.iload_n 2, 1) := by decide +kernel
theorem dX6_goThrough_60 : decode cX6_goThrough 60 = .ok (.if_icmp .eq 6, 3) := by decide +kernel
theorem dX6_goThrough_63 : decode cX6_goThrough 63 = .ok (.goto 68, 3) := by decide +kernel
theorem dX6_goThrough_66 : decode cX6_goThrough 66 = .ok (.aload_n 0, 1) := by decide +kernel
theorem dX6_goThrough_67 : decode cX6_goThrough 67 = .ok (.getfield 22, 3) := by decide +kernel
theorem dX6_goThrough_70 : decode cX6_goThrough 70 = .ok (.aload_n 1, 1) := by decide +kernel
theorem dX6_goThrough_71 : decode cX6_goThrough 71 = .ok (.getfield 33, 3) := by decide +kernel
theorem dX6_goThrough_74 : decode cX6_goThrough 74 = .ok (.iload 4, 2) := by decide +kernel
theorem dX6_goThrough_76 : decode cX6_goThrough 76 = .ok (.iaload, 1) := by decide +kernel
theorem dX6_goThrough_77 : decode cX6_goThrough 77 = .ok (.invokestatic 36, 3) := by decide +kernel
theorem dX6_goThrough_80 : decode cX6_goThrough 80 = .ok (.ifCond .eq 19, 3) := by decide +kernel
theorem dX6_goThrough_83 : decode cX6_goThrough 83 = .ok (.aload_n 0, 1) := by decide +kernel
theorem dX6_goThrough_84 : decode cX6_goThrough 84 = .ok (.dup, 1) := by decide +kernel
theorem dX6_goThrough_85 : decode cX6_goThrough 85 = .ok (.getfield 40, 3) := by decide +kernel
theorem dX6_goThrough_88 : decode cX6_goThrough 88 = .ok (.iconst 1, 1) := by decide +kernel
theorem dX6_goThrough_89 : decode cX6_goThrough 89 = .ok (.iload 4, 2) := by decide +kernel
theorem dX6_goThrough_91 : decode cX6_goThrough 91 = .ok (.ishl, 1) := by decide +kernel
theorem dX6_goThrough_92 : decode cX6_goThrough 92 = .ok (.ior, 1) := by decide +kernel
theorem dX6_goThrough_93 : decode cX6_goThrough 93 = .ok (.putfield 40, 3) := by decide +kernel
theorem dX6_goThrough_96 : decode cX6_goThrough 96 = .ok (.goto 35, 3) := by decide +kernel
theorem dX6_goThrough_99 : decode cX6_goThrough 99 = .ok (.aload_n 0, 1) := by decide +kernel
theorem dX6_goThrough_100 : decode cX6_goThrough 100 = .ok (.getfield 19, 3) := by decide +kernel
theorem dX6_goThrough_103 : decode cX6_goThrough 103 = .ok (.aload_n 1, 1) := by decide +kernel
theorem dX6_goThrough_104 : decode cX6_goThrough 104 = .ok (.getfield 33, 3) := by decide +kernel
theorem dX6_goThrough_107 : decode cX6_goThrough 107 = .ok (.iload 4, 2) := by decide +kernel
theorem dX6_goThrough_109 : decode cX6_goThrough 109 = .ok (.iaload, 1) := by decide +kernel
theorem dX6_goThrough_110 : decode cX6_goThrough 110 = .ok (.invokestatic 36, 3) := by decide +kernel
theorem dX6_goThrough_113 : decode cX6_goThrough 113 = .ok (.ifCond .ne 18, 3) := by decide +kernel
theorem dX6_goThrough_116 : decode cX6_goThrough 116 = .ok (.aload_n 0, 1) := by decide +kernel
theorem dX6_goThrough_117 : decode cX6_goThrough 117 = .ok (.aload_n 1, 1) := by decide +kernel
theorem dX6_goThrough_118 : decode cX6_goThrough 118 = .ok (.aload_n 1, 1) := by decide +kernel
theorem dX6_goThrough_119 : decode cX6_goThrough 119 = .ok (.getfield 33, 3) := by decide +kernel
theorem dX6_goThrough_122 : decode cX6_goThrough 122 = .ok (.iload 4, 2) := by decide +kernel
theorem dX6_goThrough_124 : decode cX6_goThrough 124 = .ok (.iaload, 1) := by decide +kernel
theorem dX6_goThrough_125 : decode cX6_goThrough 125 = .ok (.iload_n 3, 1) := by decide +kernel
theorem dX6_goThrough_126 : decode cX6_goThrough 126 = .ok (.iconst 1, 1) := by decide +kernel
theorem dX6_goThrough_127 : decode cX6_goThrough 127 = .ok (.iadd, 1) := by decide +kernel
theorem dX6_goThrough_128 : decode cX6_goThrough 128 = .ok (.invokestatic 43, 3) := by decide +kernel
theorem dX6_goThrough_131 : decode cX6_goThrough 131 = .ok (.iinc 4 1, 3) := by decide +kernel
theorem dX6_goThrough_134 : decode cX6_goThrough 134 = .ok (.goto (-91), 3) := by decide +kernel
theorem dX6_goThrough_137 : decode cX6_goThrough 137 = .ok (.aload_n 0, 1) := by decide +kernel
theorem dX6_goThrough_138 : decode cX6_goThrough 138 = .ok (.dup, 1) := by decide +kernel
theorem dX6_goThrough_139 : decode cX6_goThrough 139 = .ok (.getfield 22, 3) := by decide +kernel
theorem dX6_goThrough_142 : decode cX6_goThrough 142 = .ok (.iconst 1, 1) := by decide +kernel
theorem dX6_goThrough_143 : decode cX6_goThrough 143 = .ok (.iload_n 2, 1) := by decide +kernel
theorem dX6_goThrough_144 : decode cX6_goThrough 144 = .ok (.ishl, 1) := by decide +kernel
theorem dX6_goThrough_145 : decode cX6_goThrough 145 = .ok (.iconst (-1), 1) := by decide +kernel
theorem dX6_goThrough_146 : decode cX6_goThrough 146 = .ok (.ixor, 1) := by decide +kernel
theorem dX6_goThrough_147 : decode cX6_goThrough 147 = .ok (.iand, 1) := by decide +kernel
theorem dX6_goThrough_148 : decode cX6_goThrough 148 = .ok (.putfield 22, 3) := by decide +kernel
theorem dX6_goThrough_151 : decode cX6_goThrough 151 = .ok (.aload_n 0, 1) := by decide +kernel
theorem dX6_goThrough_152 : decode cX6_goThrough 152 = .ok (.iload_n 2, 1) := by decide +kernel
theorem dX6_goThrough_153 : decode cX6_goThrough 153 = .ok (.invokevirtual 47, 3) := by decide +kernel
theorem dX6_goThrough_156 : decode cX6_goThrough 156 = .ok (.return_, 1) := by decide +kernel
theorem dX6_end_0 : decode cX6_end 0 = .ok (.aload_n 0, 1) := by decide +kernel
theorem dX6_end_1 : decode cX6_end 1 = .ok (.getfield 15, 3) := by decide +kernel
theorem dX6_end_4 : decode cX6_end 4 = .ok (.bipush 10, 2) := by decide +kernel
theorem dX6_end_6 : decode cX6_end 6 = .ok (.if_icmp .ge 23, 3) := by decide +kernel
theorem dX6_end_9 : decode cX6_end 9 = .ok (.aload_n 0, 1) := by decide +kernel
theorem dX6_end_10 : decode cX6_end 10 = .ok (.getfield 9, 3) := by decide +kernel
theorem dX6_end_13 : decode cX6_end 13 = .ok (.aload_n 0, 1) := by decide +kernel
theorem dX6_end_14 : decode cX6_end 14 = .ok (.getfield 15, 3) := by decide +kernel
theorem dX6_end_17 : decode cX6_end 17 = .ok (.iload_n 1, 1) := by decide +kernel
theorem dX6_end_18 : decode cX6_end 18 = .ok (.iastore, 1) := by decide +kernel
theorem dX6_end_19 : decode cX6_end 19 = .ok (.aload_n 0, 1) := by decide +kernel
theorem dX6_end_20 : decode cX6_end 20 = .ok (.dup, 1) := by decide +kernel
theorem dX6_end_21 : decode cX6_end 21 = .ok (.getfield 15, 3) := by decide +kernel
theorem dX6_end_24 : decode cX6_end 24 = .ok (.iconst 1, 1) := by decide +kernel
theorem dX6_end_25 : decode cX6_end 25 = .ok (.iadd, 1) := by decide +kernel
theorem dX6_end_26 : decode cX6_end 26 = .ok (.putfield 15, 3) := by decide +kernel
theorem dX6_end_29 : decode cX6_end 29 = .ok (.return_, 1) := by decide +kernel
end
section
set_option maxRecDepth 20000 in
theorem ggX7_init_X1_init : GoodIn wsX7_init wsX1_init := goodIn_r _ [30, 31, 2, 3, 32, 33, 34, 99, 100, 101] (by decide +kernel) (by decide +kernel)
set_option maxRecDepth 20000 in
theorem gX7_init_X1_init_n9 : GoodIn wsX7_init (wsX1_init) := ggX7_init_X1_init
set_option maxRecDepth 20000 in
theorem ggX7_init_X0_init : GoodIn wsX7_init wsX0_init := goodIn_r _ [36, 37, 2, 3, 32, 38, 112, 113] (by decide +kernel) (by decide +kernel)
set_option maxRecDepth 20000 in
theorem gX7_init_X0_init_n24 : GoodIn wsX7_init (wsX0_init) := ggX7_init_X0_init
set_option maxRecDepth 20000 in
theorem ggX7_init_X2_init : GoodIn wsX7_init wsX2_init := goodIn_r _ [40, 41, 2, 3, 32, 42, 43, 44, 114, 115, 116, 117] (by decide +kernel) (by decide +kernel)
set_option maxRecDepth 20000 in
theorem gX7_init_X2_init_n37 : GoodIn wsX7_init (wsX2_init) := ggX7_init_X2_init
set_option maxRecDepth 20000 in
theorem ggX7_init_X3_init : GoodIn wsX7_init wsX3_init := goodIn_r _ [46, 47, 2, 3, 32, 48, 118, 119] (by decide +kernel) (by decide +kernel)
set_option maxRecDepth 20000 in
theorem gX7_init_X3_init_n44 : GoodIn wsX7_init (wsX3_init) := ggX7_init_X3_init
set_option maxRecDepth 20000 in
theorem ggX7_init_X4_init : GoodIn wsX7_init wsX4_init := goodIn_r _ [50, 51, 2, 3, 32, 52, 53, 120, 121, 122, 123, 124, 125, 126] (by decide +kernel) (by decide +kernel)
set_option maxRecDepth 20000 in
theorem gX7_init_X4_init_n53 : GoodIn wsX7_init (wsX4_init) := ggX7_init_X4_init
set_option maxRecDepth 20000 in
theorem ggX7_init_X4_draw : GoodIn wsX7_init wsX4_draw := goodIn_r _ [56, 57, 58, 59, 60, 61, 62, 52, 53, 63, 64, 65, 66, 2, 3, 32, 67, 68, 69, 70, 71, 72, 73, 74, 75, 76, 77, 78, 79, 80, 81, 82, 83, 84, 85, 86, 87, 88, 26, 89, 90, 91, 92, 93, 94, 95, 96, 97, 98, 127, 128, 129, 130, 131, 99, 100, 101, 120, 121, 122, 123, 124, 125, 126] (by decide +kernel) (by decide +kernel)
set_option maxRecDepth 20000 in
theorem gX7_init_X4_draw_n58 : GoodIn wsX7_init (wsX4_draw) := ggX7_init_X4_draw
theorem dX7_init_0 : decode cX7_init 0 = .ok (.aload_n 0, 1) := by decide +kernel
theorem dX7_init_1 : decode cX7_init 1 = .ok (.invokespecial 1, 3) := by decide +kernel
theorem dX7_init_4 : decode cX7_init 4 = .ok (.aload_n 0, 1) := by decide +kernel
theorem dX7_init_5 : decode cX7_init 5 = .ok (.new 7, 3) := by decide +kernel
theorem dX7_init_8 : decode cX7_init 8 = .ok (.dup, 1) := by decide +kernel
theorem dX7_init_9 : decode cX7_init 9 = .ok (.invokespecial 9, 3) := by decide +kernel
theorem dX7_init_12 : decode cX7_init 12 = .ok (.putfield 10, 3) := by decide +kernel
theorem dX7_init_15 : decode cX7_init 15 = .ok (.aload_n 0, 1) := by decide +kernel
theorem dX7_init_16 : decode cX7_init 16 = .ok (.bipush 8, 2) := by decide +kernel
theorem dX7_init_18 : decode cX7_init 18 = .ok (.anewarray 16, 3) := by decide +kernel
theorem dX7_init_21 : decode cX7_init 21 = .ok (.putfield 18, 3) := by decide +kernel
theorem dX7_init_24 : decode cX7_init 24 = .ok (.aload_n 0, 1) := by decide +kernel
theorem dX7_init_25 : decode cX7_init 25 = .ok (.new 22, 3) := by decide +kernel
theorem dX7_init_28 : decode cX7_init 28 = .ok (.dup, 1) := by decide +kernel
theorem dX7_init_29 : decode cX7_init 29 = .ok (.invokespecial 24, 3) := by decide +kernel
theorem dX7_init_32 : decode cX7_init 32 = .ok (.putfield 25, 3) := by decide +kernel
theorem dX7_init_35 : decode cX7_init 35 = .ok (.aload_n 0, 1) := by decide +kernel
theorem dX7_init_36 : decode cX7_init 36 = .ok (.bipush 10, 2) := by decide +kernel
theorem dX7_init_38 : decode cX7_init 38 = .ok (.anewarray 29, 3) := by decide +kernel
theorem dX7_init_41 : decode cX7_init 41 = .ok (.putfield 31, 3) := by decide +kernel
theorem dX7_init_44 : decode cX7_init 44 = .ok (.aload_n 0, 1) := by decide +kernel
theorem dX7_init_45 : decode cX7_init 45 = .ok (.new 35, 3) := by decide +kernel
theorem dX7_init_48 : decode cX7_init 48 = .ok (.dup, 1) := by decide +kernel
theorem dX7_init_49 : decode cX7_init 49 = .ok (.invokespecial 37, 3) := by decide +kernel
theorem dX7_init_52 : decode cX7_init 52 = .ok (.putfield 38, 3) := by decide +kernel
theorem dX7_init_55 : decode cX7_init 55 = .ok (.aload_n 0, 1) := by decide +kernel
theorem dX7_init_56 : decode cX7_init 56 = .ok (.new 42, 3) := by decide +kernel
theorem dX7_init_59 : decode cX7_init 59 = .ok (.dup, 1) := by decide +kernel
theorem dX7_init_60 : decode cX7_init 60 = .ok (.invokespecial 44, 3) := by decide +kernel
theorem dX7_init_63 : decode cX7_init 63 = .ok (.putfield 45, 3) := by decide +kernel
theorem dX7_init_66 : decode cX7_init 66 = .ok (.aload_n 0, 1) := by decide +kernel
theorem dX7_init_67 : decode cX7_init 67 = .ok (.sipush 1000, 3) := by decide +kernel
theorem dX7_init_70 : decode cX7_init 70 = .ok (.putfield 49, 3) := by decide +kernel
theorem dX7_init_73 : decode cX7_init 73 = .ok (.aload_n 0, 1) := by decide +kernel
theorem dX7_init_74 : decode cX7_init 74 = .ok (.new 16, 3) := by decide +kernel
theorem dX7_init_77 : decode cX7_init 77 = .ok (.dup, 1) := by decide +kernel
theorem dX7_init_78 : decode cX7_init 78 = .ok (.invokespecial 53, 3) := by decide +kernel
theorem dX7_init_81 : decode cX7_init 81 = .ok (.putfield 54, 3) := by decide +kernel
theorem dX7_init_84 : decode cX7_init 84 = .ok (.aload_n 0, 1) := by decide +kernel
theorem dX7_init_85 : decode cX7_init 85 = .ok (.getfield 54, 3) := by decide +kernel
theorem dX7_init_88 : decode cX7_init 88 = .ok (.aload_n 0, 1) := by decide +kernel
theorem dX7_init_89 : decode cX7_init 89 = .ok (.getfield 10, 3) := by decide +kernel
theorem dX7_init_92 : decode cX7_init 92 = .ok (.aload_n 0, 1) := by decide +kernel
theorem dX7_init_93 : decode cX7_init 93 = .ok (.getfield 49, 3) := by decide +kernel
theorem dX7_init_96 : decode cX7_init 96 = .ok (.invokevirtual 58, 3) := by decide +kernel
theorem dX7_init_99 : decode cX7_init 99 = .ok (.aload_n 0, 1) := by decide +kernel
theorem dX7_init_100 : decode cX7_init 100 = .ok (.getfield 18, 3) := by decide +kernel
theorem dX7_init_103 : decode cX7_init 103 = .ok (.iconst 0, 1) := by decide +kernel
theorem dX7_init_104 : decode cX7_init 104 = .ok (.aload_n 0, 1) := by decide +kernel
theorem dX7_init_105 : decode cX7_init 105 = .ok (.getfield 54, 3) := by decide +kernel
theorem dX7_init_108 : decode cX7_init 108 = .ok (.aastore, 1) := by decide +kernel
theorem dX7_init_109 : decode cX7_init 109 = .ok (.aload_n 0, 1) := by decide +kernel
theorem dX7_init_110 : decode cX7_init 110 = .ok (.iconst 1, 1) := by decide +kernel
theorem dX7_init_111 : decode cX7_init 111 = .ok (.putfield 62, 3) := by decide +kernel
theorem dX7_init_114 : decode cX7_init 114 = .ok (.return_, 1) := by decide +kernel
set_option maxRecDepth 20000 in
theorem ggX7_add_X7_isRoutine : GoodIn wsX7_add wsX7_isRoutine := goodIn_r _ [5] (by decide +kernel) (by decide +kernel)
set_option maxRecDepth 20000 in
theorem gX7_add_X7_isRoutine : GoodIn wsX7_add (va_wsS RX7 65 yX7_isRoutine wsX7_isRoutine) := goodIn_app (goodIn_of _ (by decide +kernel)) ggX7_add_X7_isRoutine
theorem dX7_add_0 : decode cX7_add 0 = .ok (.iload_n 1, 1) := by decide +kernel
theorem dX7_add_1 : decode cX7_add 1 = .ok (.invokestatic 65, 3) := by decide +kernel
theorem dX7_add_4 : decode cX7_add 4 = .ok (.ifCond .eq 10, 3) := by decide +kernel
theorem dX7_add_7 : decode cX7_add 7 = .ok (.iload_n 2, 1) := by decide +kernel
theorem dX7_add_8 : decode cX7_add 8 = .ok (.invokestatic 65, 3) := by decide +kernel
theorem dX7_add_11 : decode cX7_add 11 = .ok (.ifCond .ne 5, 3) := by decide +kernel
theorem dX7_add_14 : decode cX7_add 14 = .ok (.iconst (-1), 1) := by decide +kernel
theorem dX7_add_15 : decode cX7_add 15 = .ok (.ireturn, 1) := by decide +kernel
theorem dX7_add_16 : decode cX7_add 16 = .ok (.aload_n 0, 1) := by decide +kernel
theorem dX7_add_17 : decode cX7_add 17 = .ok (.getfield 10, 3) := by decide +kernel
theorem dX7_add_20 : decode cX7_add 20 = .ok (.getfield 69, 3) := by decide +kernel
theorem dX7_add_23 : decode cX7_add 23 = .ok (.bipush 24, 2) := by decide +kernel
theorem dX7_add_25 : decode cX7_add 25 = .ok (.if_icmp .lt 6, 3) := by decide +kernel
theorem dX7_add_28 : decode cX7_add 28 = .ok (.bipush (-4), 2) := by decide +kernel
theorem dX7_add_30 : decode cX7_add 30 = .ok (.ireturn, 1) := by decide +kernel
theorem dX7_add_31 : decode cX7_add 31 = .ok (.aload_n 0, 1) := by decide +kernel
theorem dX7_add_32 : decode cX7_add 32 = .ok (.getfield 10, 3) := by decide +kernel
theorem dX7_add_35 : decode cX7_add 35 = .ok (.getfield 72, 3) := by decide +kernel
theorem dX7_add_38 : decode cX7_add 38 = .ok (.aload_n 0, 1) := by decide +kernel
theorem dX7_add_39 : decode cX7_add 39 = .ok (.getfield 10, 3) := by decide +kernel
theorem dX7_add_42 : decode cX7_add 42 = .ok (.getfield 69, 3) := by decide +kernel
theorem dX7_add_45 : decode cX7_add 45 = .ok (.iload_n 1, 1) := by decide +kernel
theorem dX7_add_46 : decode cX7_add 46 = .ok (.iastore, 1) := by decide +kernel
theorem dX7_add_47 : decode cX7_add 47 = .ok (.aload_n 0, 1) := by decide +kernel
theorem dX7_add_48 : decode cX7_add 48 = .ok (.getfield 10, 3) := by decide +kernel
theorem dX7_add_51 : decode cX7_add 51 = .ok (.getfield 76, 3) := by decide +kernel
theorem dX7_add_54 : decode cX7_add 54 = .ok (.aload_n 0, 1) := by decide +kernel
theorem dX7_add_55 : decode cX7_add 55 = .ok (.getfield 10, 3) := by decide +kernel
theorem dX7_add_58 : decode cX7_add 58 = .ok (.getfield 69, 3) := by decide +kernel
theorem dX7_add_61 : decode cX7_add 61 = .ok (.iload_n 2, 1) := by decide +kernel
theorem dX7_add_62 : decode cX7_add 62 = .ok (.iastore, 1) := by decide +kernel
theorem dX7_add_63 : decode cX7_add 63 = .ok (.aload_n 0, 1) := by decide +kernel
theorem dX7_add_64 : decode cX7_add 64 = .ok (.getfield 10, 3) := by decide +kernel
theorem dX7_add_67 : decode cX7_add 67 = .ok (.dup, 1) := by decide +kernel
theorem dX7_add_68 : decode cX7_add 68 = .ok (.getfield 69, 3) := by decide +kernel
theorem dX7_add_71 : decode cX7_add 71 = .ok (.iconst 1, 1) := by decide +kernel
theorem dX7_add_72 : decode cX7_add 72 = .ok (.iadd, 1) := by decide +kernel
theorem dX7_add_73 : decode cX7_add 73 = .ok (.putfield 69, 3) := by decide +kernel
theorem dX7_add_76 : decode cX7_add 76 = .ok (.aload_n 0, 1) := by decide +kernel
theorem dX7_add_77 : decode cX7_add 77 = .ok (.getfield 10, 3) := by decide +kernel
theorem dX7_add_80 : decode cX7_add 80 = .ok (.getfield 69, 3) := by decide +kernel
theorem dX7_add_83 : decode cX7_add 83 = .ok (.iconst 1, 1) := by decide +kernel
theorem dX7_add_84 : decode cX7_add 84 = .ok (.isub, 1) := by decide +kernel
theorem dX7_add_85 : decode cX7_add 85 = .ok (.ireturn, 1) := by decide +kernel
set_option maxRecDepth 20000 in
theorem ggX7_ofCall_X7_isCall : GoodIn wsX7_ofCall wsX7_isCall := goodIn_r _ [6, 1, 7, 8, 9, 10, 11, 12, 13, 14, 15, 16, 17, 18, 19] (by decide +kernel) (by decide +kernel)
set_option maxRecDepth 20000 in
theorem gX7_ofCall_X7_isCall : GoodIn wsX7_ofCall (wsV RX7 79 RX7 yX7_isCall wsX7_isCall) := goodIn_app (goodIn_of _ (by decide +kernel)) ggX7_ofCall_X7_isCall
theorem dX7_ofCall_0 : decode cX7_ofCall 0 = .ok (.aload_n 0, 1) := by decide +kernel
theorem dX7_ofCall_1 : decode cX7_ofCall 1 = .ok (.iload_n 1, 1) := by decide +kernel
theorem dX7_ofCall_2 : decode cX7_ofCall 2 = .ok (.invokevirtual 79, 3) := by decide +kernel
theorem dX7_ofCall_5 : decode cX7_ofCall 5 = .ok (.ifCond .ne 5, 3) := by decide +kernel
theorem dX7_ofCall_8 : decode cX7_ofCall 8 = .ok (.iconst (-1), 1) := by decide +kernel
theorem dX7_ofCall_9 : decode cX7_ofCall 9 = .ok (.ireturn, 1) := by decide +kernel
theorem dX7_ofCall_10 : decode cX7_ofCall 10 = .ok (.iload_n 2, 1) := by decide +kernel
theorem dX7_ofCall_11 : decode cX7_ofCall 11 = .ok (.lookupswitch 45 #[(0, 25), (1, 35)], 25) := by decide +kernel
theorem dX7_ofCall_36 : decode cX7_ofCall 36 = .ok (.aload_n 0, 1) := by decide +kernel
theorem dX7_ofCall_37 : decode cX7_ofCall 37 = .ok (.getfield 10, 3) := by decide +kernel
theorem dX7_ofCall_40 : decode cX7_ofCall 40 = .ok (.getfield 72, 3) := by decide +kernel
theorem dX7_ofCall_43 : decode cX7_ofCall 43 = .ok (.iload_n 1, 1) := by decide +kernel
theorem dX7_ofCall_44 : decode cX7_ofCall 44 = .ok (.iaload, 1) := by decide +kernel
theorem dX7_ofCall_45 : decode cX7_ofCall 45 = .ok (.ireturn, 1) := by decide +kernel
theorem dX7_ofCall_46 : decode cX7_ofCall 46 = .ok (.aload_n 0, 1) := by decide +kernel
theorem dX7_ofCall_47 : decode cX7_ofCall 47 = .ok (.getfield 10, 3) := by decide +kernel
theorem dX7_ofCall_50 : decode cX7_ofCall 50 = .ok (.getfield 76, 3) := by decide +kernel
theorem dX7_ofCall_53 : decode cX7_ofCall 53 = .ok (.iload_n 1, 1) := by decide +kernel
theorem dX7_ofCall_54 : decode cX7_ofCall 54 = .ok (.iaload, 1) := by decide +kernel
theorem dX7_ofCall_55 : decode cX7_ofCall 55 = .ok (.ireturn, 1) := by decide +kernel
theorem dX7_ofCall_56 : decode cX7_ofCall 56 = .ok (.bipush (-2), 2) := by decide +kernel
theorem dX7_ofCall_58 : decode cX7_ofCall 58 = .ok (.ireturn, 1) := by decide +kernel
theorem dX7_limit_0 : decode cX7_limit 0 = .ok (.iload_n 1, 1) := by decide +kernel
theorem dX7_limit_1 : decode cX7_limit 1 = .ok (.iconst 1, 1) := by decide +kernel
theorem dX7_limit_2 : decode cX7_limit 2 = .ok (.if_icmp .lt 9, 3) := by decide +kernel
theorem dX7_limit_5 : decode cX7_limit 5 = .ok (.iload_n 1, 1) := by decide +kernel
theorem dX7_limit_6 : decode cX7_limit 6 = .ok (.ldc 82, 2) := by decide +kernel
theorem dX7_limit_8 : decode cX7_limit 8 = .ok (.if_icmp .le 6, 3) := by decide +kernel
theorem dX7_limit_11 : decode cX7_limit 11 = .ok (.bipush (-2), 2) := by decide +kernel
theorem dX7_limit_13 : decode cX7_limit 13 = .ok (.ireturn, 1) := by decide +kernel
theorem dX7_limit_14 : decode cX7_limit 14 = .ok (.aload_n 0, 1) := by decide +kernel
theorem dX7_limit_15 : decode cX7_limit 15 = .ok (.getfield 49, 3) := by decide +kernel
theorem dX7_limit_18 : decode cX7_limit 18 = .ok (.istore_n 2, 1) := by decide +kernel
theorem dX7_limit_19 : decode cX7_limit 19 = .ok (.aload_n 0, 1) := by decide +kernel
theorem dX7_limit_20 : decode cX7_limit 20 = .ok (.iload_n 1, 1) := by decide +kernel
theorem dX7_limit_21 : decode cX7_limit 21 = .ok (.putfield 49, 3) := by decide +kernel
theorem dX7_limit_24 : decode cX7_limit 24 = .ok (.iload_n 2, 1) := by decide +kernel
theorem dX7_limit_25 : decode cX7_limit 25 = .ok (.ireturn, 1) := by decide +kernel
set_option maxRecDepth 20000 in
theorem ggX7_plan_X4_init : GoodIn wsX7_plan wsX4_init := goodIn_r _ [10, 11, 12, 13, 14, 15, 16, 72, 73, 74, 75, 76, 77, 78] (by decide +kernel) (by decide +kernel)
set_option maxRecDepth 20000 in
theorem gX7_plan_X4_init_n53 : GoodIn wsX7_plan (wsX4_init) := ggX7_plan_X4_init
set_option maxRecDepth 20000 in
theorem ggX7_plan_X4_draw : GoodIn wsX7_plan wsX4_draw := goodIn_r _ [19, 20, 21, 22, 23, 24, 25, 15, 16, 26, 27, 28, 29, 12, 13, 14, 30, 31, 32, 33, 34, 35, 36, 37, 38, 39, 40, 41, 42, 43, 44, 45, 46, 47, 48, 49, 50, 51, 4, 52, 53, 54, 55, 56, 57, 58, 59, 60, 61, 79, 80, 81, 82, 83, 84, 85, 86, 72, 73, 74, 75, 76, 77, 78] (by decide +kernel) (by decide +kernel)
set_option maxRecDepth 20000 in
theorem gX7_plan_X4_draw_n58 : GoodIn wsX7_plan (wsX4_draw) := ggX7_plan_X4_draw
theorem dX7_plan_0 : decode cX7_plan 0 = .ok (.aload_n 0, 1) := by decide +kernel
theorem dX7_plan_1 : decode cX7_plan 1 = .ok (.getfield 62, 3) := by decide +kernel
theorem dX7_plan_4 : decode cX7_plan 4 = .ok (.bipush 8, 2) := by decide +kernel
theorem dX7_plan_6 : decode cX7_plan 6 = .ok (.if_icmp .lt 6, 3) := by decide +kernel
theorem dX7_plan_9 : decode cX7_plan 9 = .ok (.bipush (-4), 2) := by decide +kernel
theorem dX7_plan_11 : decode cX7_plan 11 = .ok (.ireturn, 1) := by decide +kernel
theorem dX7_plan_12 : decode cX7_plan 12 = .ok (.aload_n 0, 1) := by decide +kernel
theorem dX7_plan_13 : decode cX7_plan 13 = .ok (.new 16, 3) := by decide +kernel
theorem dX7_plan_16 : decode cX7_plan 16 = .ok (.dup, 1) := by decide +kernel
theorem dX7_plan_17 : decode cX7_plan 17 = .ok (.invokespecial 53, 3) := by decide +kernel
theorem dX7_plan_20 : decode cX7_plan 20 = .ok (.putfield 54, 3) := by decide +kernel
theorem dX7_plan_23 : decode cX7_plan 23 = .ok (.aload_n 0, 1) := by decide +kernel
theorem dX7_plan_24 : decode cX7_plan 24 = .ok (.getfield 54, 3) := by decide +kernel
theorem dX7_plan_27 : decode cX7_plan 27 = .ok (.aload_n 0, 1) := by decide +kernel
theorem dX7_plan_28 : decode cX7_plan 28 = .ok (.getfield 10, 3) := by decide +kernel
theorem dX7_plan_31 : decode cX7_plan 31 = .ok (.aload_n 0, 1) := by decide +kernel
theorem dX7_plan_32 : decode cX7_plan 32 = .ok (.getfield 49, 3) := by decide +kernel
theorem dX7_plan_35 : decode cX7_plan 35 = .ok (.invokevirtual 58, 3) := by decide +kernel
theorem dX7_plan_38 : decode cX7_plan 38 = .ok (.aload_n 0, 1) := by decide +kernel
theorem dX7_plan_39 : decode cX7_plan 39 = .ok (.getfield 18, 3) := by decide +kernel
theorem dX7_plan_42 : decode cX7_plan 42 = .ok (.aload_n 0, 1) := by decide +kernel
theorem dX7_plan_43 : decode cX7_plan 43 = .ok (.getfield 62, 3) := by decide +kernel
theorem dX7_plan_46 : decode cX7_plan 46 = .ok (.aload_n 0, 1) := by decide +kernel
theorem dX7_plan_47 : decode cX7_plan 47 = .ok (.getfield 54, 3) := by decide +kernel
theorem dX7_plan_50 : decode cX7_plan 50 = .ok (.aastore, 1) := by decide +kernel
theorem dX7_plan_51 : decode cX7_plan 51 = .ok (.aload_n 0, 1) := by decide +kernel
theorem dX7_plan_52 : decode cX7_plan 52 = .ok (.dup, 1) := by decide +kernel
theorem dX7_plan_53 : decode cX7_plan 53 = .ok (.getfield 62, 3) := by decide +kernel
theorem dX7_plan_56 : decode cX7_plan 56 = .ok (.iconst 1, 1) := by decide +kernel
theorem dX7_plan_57 : decode cX7_plan 57 = .ok (.iadd, 1) := by decide +kernel
theorem dX7_plan_58 : decode cX7_plan 58 = .ok (.putfield 62, 3) := by decide +kernel
theorem dX7_plan_61 : decode cX7_plan 61 = .ok (.aload_n 0, 1) := by decide +kernel
theorem dX7_plan_62 : decode cX7_plan 62 = .ok (.getfield 62, 3) := by decide +kernel
theorem dX7_plan_65 : decode cX7_plan 65 = .ok (.iconst 1, 1) := by decide +kernel
theorem dX7_plan_66 : decode cX7_plan 66 = .ok (.isub, 1) := by decide +kernel
theorem dX7_plan_67 : decode cX7_plan 67 = .ok (.ireturn, 1) := by decide +kernel
set_option maxRecDepth 20000 in
theorem ggX7_kind_X7_planOf : GoodIn wsX7_kind wsX7_planOf := goodIn_r _ [6, 7, 8, 23, 24, 25, 26, 27, 28, 29, 30, 31, 32] (by decide +kernel) (by decide +kernel)
set_option maxRecDepth 20000 in
theorem gX7_kind_X7_planOf : GoodIn wsX7_kind (wsV RX7 83 RX7 yX7_planOf wsX7_planOf) := goodIn_app (goodIn_of _ (by decide +kernel)) ggX7_kind_X7_planOf
set_option maxRecDepth 20000 in
theorem ggX7_kind_X7_isCall : GoodIn wsX7_kind wsX7_isCall := goodIn_r _ [12, 1, 23, 24, 25, 26, 27, 28, 29, 30, 31, 32, 33, 34, 35] (by decide +kernel) (by decide +kernel)
set_option maxRecDepth 20000 in
theorem gX7_kind_X7_isCall : GoodIn wsX7_kind (wsV RX7 79 RX7 yX7_isCall wsX7_isCall) := goodIn_app (goodIn_of _ (by decide +kernel)) ggX7_kind_X7_isCall
set_option maxRecDepth 20000 in
theorem ggX7_kind_X4_kindOf : GoodIn wsX7_kind wsX4_kindOf := goodIn_r _ [16, 17, 18, 19, 20, 21, 5, 22, 36, 37, 38, 39, 40, 41, 42, 33, 34, 35] (by decide +kernel) (by decide +kernel)
set_option maxRecDepth 20000 in
theorem gX7_kind_X4_kindOf_n87 : GoodIn wsX7_kind (wsX4_kindOf) := ggX7_kind_X4_kindOf
theorem dX7_kind_0 : decode cX7_kind 0 = .ok (.aload_n 0, 1) := by decide +kernel
theorem dX7_kind_1 : decode cX7_kind 1 = .ok (.iload_n 1, 1) := by decide +kernel
theorem dX7_kind_2 : decode cX7_kind 2 = .ok (.invokevirtual 83, 3) := by decide +kernel
theorem dX7_kind_5 : decode cX7_kind 5 = .ok (.astore_n 3, 1) := by decide +kernel
theorem dX7_kind_6 : decode cX7_kind 6 = .ok (.aload_n 3, 1) := by decide +kernel
theorem dX7_kind_7 : decode cX7_kind 7 = .ok (.ifnull 11, 3) := by decide +kernel
theorem dX7_kind_10 : decode cX7_kind 10 = .ok (.aload_n 0, 1) := by decide +kernel
theorem dX7_kind_11 : decode cX7_kind 11 = .ok (.iload_n 2, 1) := by decide +kernel
theorem dX7_kind_12 : decode cX7_kind 12 = .ok (.invokevirtual 79, 3) := by decide +kernel
theorem dX7_kind_15 : decode cX7_kind 15 = .ok (.ifCond .ne 5, 3) := by decide +kernel
theorem dX7_kind_18 : decode cX7_kind 18 = .ok (.iconst (-1), 1) := by decide +kernel
theorem dX7_kind_19 : decode cX7_kind 19 = .ok (.ireturn, 1) := by decide +kernel
theorem dX7_kind_20 : decode cX7_kind 20 = .ok (.aload_n 3, 1) := by decide +kernel
theorem dX7_kind_21 : decode cX7_kind 21 = .ok (.aload_n 0, 1) := by decide +kernel
theorem dX7_kind_22 : decode cX7_kind 22 = .ok (.getfield 10, 3) := by decide +kernel
theorem dX7_kind_25 : decode cX7_kind 25 = .ok (.iload_n 2, 1) := by decide +kernel
theorem dX7_kind_26 : decode cX7_kind 26 = .ok (.invokevirtual 87, 3) := by decide +kernel
theorem dX7_kind_29 : decode cX7_kind 29 = .ok (.ireturn, 1) := by decide +kernel
set_option maxRecDepth 20000 in
theorem ggX7_adds_X7_planOf : GoodIn wsX7_adds wsX7_planOf := goodIn_r _ [5, 6, 7, 23, 24, 25, 26, 27, 28, 29, 30, 31, 32] (by decide +kernel) (by decide +kernel)
set_option maxRecDepth 20000 in
theorem gX7_adds_X7_planOf : GoodIn wsX7_adds (wsV RX7 83 RX7 yX7_planOf wsX7_planOf) := goodIn_app (goodIn_of _ (by decide +kernel)) ggX7_adds_X7_planOf
set_option maxRecDepth 20000 in
theorem ggX7_adds_X7_isCall : GoodIn wsX7_adds wsX7_isCall := goodIn_r _ [11, 12, 23, 24, 25, 26, 27, 28, 29, 30, 31, 32, 33, 34, 35] (by decide +kernel) (by decide +kernel)
set_option maxRecDepth 20000 in
theorem gX7_adds_X7_isCall : GoodIn wsX7_adds (wsV RX7 79 RX7 yX7_isCall wsX7_isCall) := goodIn_app (goodIn_of _ (by decide +kernel)) ggX7_adds_X7_isCall
set_option maxRecDepth 20000 in
theorem ggX7_adds_X7_has : GoodIn wsX7_adds wsX7_has := goodIn_r _ [15] (by decide +kernel) (by decide +kernel)
set_option maxRecDepth 20000 in
theorem gX7_adds_X7_has : GoodIn wsX7_adds (va_wsS RX7 94 yX7_has wsX7_has) := goodIn_app (goodIn_of _ (by decide +kernel)) ggX7_adds_X7_has
theorem dX7_adds_0 : decode cX7_adds 0 = .ok (.aload_n 0, 1) := by decide +kernel
theorem dX7_adds_1 : decode cX7_adds 1 = .ok (.iload_n 1, 1) := by decide +kernel
theorem dX7_adds_2 : decode cX7_adds 2 = .ok (.invokevirtual 83, 3) := by decide +kernel
theorem dX7_adds_5 : decode cX7_adds 5 = .ok (.astore_n 3, 1) := by decide +kernel
theorem dX7_adds_6 : decode cX7_adds 6 = .ok (.aload_n 3, 1) := by decide +kernel
theorem dX7_adds_7 : decode cX7_adds 7 = .ok (.ifnull 11, 3) := by decide +kernel
theorem dX7_adds_10 : decode cX7_adds 10 = .ok (.aload_n 0, 1) := by decide +kernel
theorem dX7_adds_11 : decode cX7_adds 11 = .ok (.iload_n 2, 1) := by decide +kernel
theorem dX7_adds_12 : decode cX7_adds 12 = .ok (.invokevirtual 79, 3) := by decide +kernel
theorem dX7_adds_15 : decode cX7_adds 15 = .ok (.ifCond .ne 5, 3) := by decide +kernel
theorem dX7_adds_18 : decode cX7_adds 18 = .ok (.iconst (-1), 1) := by decide +kernel
theorem dX7_adds_19 : decode cX7_adds 19 = .ok (.ireturn, 1) := by decide +kernel
theorem dX7_adds_20 : decode cX7_adds 20 = .ok (.aload_n 3, 1) := by decide +kernel
theorem dX7_adds_21 : decode cX7_adds 21 = .ok (.getfield 91, 3) := by decide +kernel
theorem dX7_adds_24 : decode cX7_adds 24 = .ok (.iload_n 2, 1) := by decide +kernel
theorem dX7_adds_25 : decode cX7_adds 25 = .ok (.invokestatic 94, 3) := by decide +kernel
theorem dX7_adds_28 : decode cX7_adds 28 = .ok (.ifCond .eq 12, 3) := by decide +kernel
theorem dX7_adds_31 : decode cX7_adds 31 = .ok (.aload_n 3, 1) := by decide +kernel
theorem dX7_adds_32 : decode cX7_adds 32 = .ok (.getfield 98, 3) := by decide +kernel
theorem dX7_adds_35 : decode cX7_adds 35 = .ok (.iload_n 2, 1) := by decide +kernel
theorem dX7_adds_36 : decode cX7_adds 36 = .ok (.iaload, 1) := by decide +kernel
theorem dX7_adds_37 : decode cX7_adds 37 = .ok (.goto 5, 3) := by decide +kernel
theorem dX7_adds_40 : decode cX7_adds 40 = .ok (.bipush (-9), 2) := by decide +kernel
theorem dX7_adds_42 : decode cX7_adds 42 = .ok (.ireturn, 1) := by decide +kernel
set_option maxRecDepth 20000 in
theorem ggX7_ways_X7_planOf : GoodIn wsX7_ways wsX7_planOf := goodIn_r _ [5, 6, 7, 18, 19, 20, 21, 22, 23, 24, 25, 26, 27] (by decide +kernel) (by decide +kernel)
set_option maxRecDepth 20000 in
theorem gX7_ways_X7_planOf : GoodIn wsX7_ways (wsV RX7 83 RX7 yX7_planOf wsX7_planOf) := goodIn_app (goodIn_of _ (by decide +kernel)) ggX7_ways_X7_planOf
set_option maxRecDepth 20000 in
theorem ggX7_ways_X7_isRoutine : GoodIn wsX7_ways wsX7_isRoutine := goodIn_r _ [10] (by decide +kernel) (by decide +kernel)
set_option maxRecDepth 20000 in
theorem gX7_ways_X7_isRoutine : GoodIn wsX7_ways (va_wsS RX7 65 yX7_isRoutine wsX7_isRoutine) := goodIn_app (goodIn_of _ (by decide +kernel)) ggX7_ways_X7_isRoutine
theorem dX7_ways_0 : decode cX7_ways 0 = .ok (.aload_n 0, 1) := by decide +kernel
theorem dX7_ways_1 : decode cX7_ways 1 = .ok (.iload_n 1, 1) := by decide +kernel
theorem dX7_ways_2 : decode cX7_ways 2 = .ok (.invokevirtual 83, 3) := by decide +kernel
theorem dX7_ways_5 : decode cX7_ways 5 = .ok (.astore_n 3, 1) := by decide +kernel
theorem dX7_ways_6 : decode cX7_ways 6 = .ok (.aload_n 3, 1) := by decide +kernel
theorem dX7_ways_7 : decode cX7_ways 7 = .ok (.ifnull 10, 3) := by decide +kernel
theorem dX7_ways_10 : decode cX7_ways 10 = .ok (.iload_n 2, 1) := by decide +kernel
theorem dX7_ways_11 : decode cX7_ways 11 = .ok (.invokestatic 65, 3) := by decide +kernel
theorem dX7_ways_14 : decode cX7_ways 14 = .ok (.ifCond .ne 5, 3) := by decide +kernel
theorem dX7_ways_17 : decode cX7_ways 17 = .ok (.iconst (-1), 1) := by decide +kernel
theorem dX7_ways_18 : decode cX7_ways 18 = .ok (.ireturn, 1) := by decide +kernel
theorem dX7_ways_19 : decode cX7_ways 19 = .ok (.aload_n 3, 1) := by decide +kernel
theorem dX7_ways_20 : decode cX7_ways 20 = .ok (.getfield 101, 3) := by decide +kernel
theorem dX7_ways_23 : decode cX7_ways 23 = .ok (.iload_n 2, 1) := by decide +kernel
theorem dX7_ways_24 : decode cX7_ways 24 = .ok (.iaload, 1) := by decide +kernel
theorem dX7_ways_25 : decode cX7_ways 25 = .ok (.ireturn, 1) := by decide +kernel
set_option maxRecDepth 20000 in
theorem ggX7_ofPlan_X7_planOf : GoodIn wsX7_ofPlan wsX7_planOf := goodIn_r _ [5, 6, 7, 15, 16, 17, 18, 19, 20, 21, 22, 23, 24] (by decide +kernel) (by decide +kernel)
set_option maxRecDepth 20000 in
theorem gX7_ofPlan_X7_planOf : GoodIn wsX7_ofPlan (wsV RX7 83 RX7 yX7_planOf wsX7_planOf) := goodIn_app (goodIn_of _ (by decide +kernel)) ggX7_ofPlan_X7_planOf
theorem dX7_ofPlan_0 : decode cX7_ofPlan 0 = .ok (.aload_n 0, 1) := by decide +kernel
theorem dX7_ofPlan_1 : decode cX7_ofPlan 1 = .ok (.iload_n 1, 1) := by decide +kernel
theorem dX7_ofPlan_2 : decode cX7_ofPlan 2 = .ok (.invokevirtual 83, 3) := by decide +kernel
theorem dX7_ofPlan_5 : decode cX7_ofPlan 5 = .ok (.astore_n 3, 1) := by decide +kernel
theorem dX7_ofPlan_6 : decode cX7_ofPlan 6 = .ok (.aload_n 3, 1) := by decide +kernel
theorem dX7_ofPlan_7 : decode cX7_ofPlan 7 = .ok (.ifnonnull 5, 3) := by decide +kernel
theorem dX7_ofPlan_10 : decode cX7_ofPlan 10 = .ok (.iconst (-1), 1) := by decide +kernel
theorem dX7_ofPlan_11 : decode cX7_ofPlan 11 = .ok (.ireturn, 1) := by decide +kernel
theorem dX7_ofPlan_12 : decode cX7_ofPlan 12 = .ok (.iload_n 2, 1) := by decide +kernel
theorem dX7_ofPlan_13 : decode cX7_ofPlan 13 = .ok (.tableswitch 51 0 3 #[31, 36, 41, 46], 31) := by decide +kernel
theorem dX7_ofPlan_44 : decode cX7_ofPlan 44 = .ok (.aload_n 3, 1) := by decide +kernel
theorem dX7_ofPlan_45 : decode cX7_ofPlan 45 = .ok (.getfield 104, 3) := by decide +kernel
theorem dX7_ofPlan_48 : decode cX7_ofPlan 48 = .ok (.ireturn, 1) := by decide +kernel
theorem dX7_ofPlan_49 : decode cX7_ofPlan 49 = .ok (.aload_n 3, 1) := by decide +kernel
theorem dX7_ofPlan_50 : decode cX7_ofPlan 50 = .ok (.getfield 107, 3) := by decide +kernel
theorem dX7_ofPlan_53 : decode cX7_ofPlan 53 = .ok (.ireturn, 1) := by decide +kernel
theorem dX7_ofPlan_54 : decode cX7_ofPlan 54 = .ok (.aload_n 3, 1) := by decide +kernel
theorem dX7_ofPlan_55 : decode cX7_ofPlan 55 = .ok (.getfield 110, 3) := by decide +kernel
theorem dX7_ofPlan_58 : decode cX7_ofPlan 58 = .ok (.ireturn, 1) := by decide +kernel
theorem dX7_ofPlan_59 : decode cX7_ofPlan 59 = .ok (.aload_n 3, 1) := by decide +kernel
theorem dX7_ofPlan_60 : decode cX7_ofPlan 60 = .ok (.getfield 91, 3) := by decide +kernel
theorem dX7_ofPlan_63 : decode cX7_ofPlan 63 = .ok (.ireturn, 1) := by decide +kernel
theorem dX7_ofPlan_64 : decode cX7_ofPlan 64 = .ok (.bipush (-2), 2) := by decide +kernel
theorem dX7_ofPlan_66 : decode cX7_ofPlan 66 = .ok (.ireturn, 1) := by decide +kernel
set_option maxRecDepth 20000 in
theorem ggX7_decoded_X7_planOf : GoodIn wsX7_decoded wsX7_planOf := goodIn_r _ [8, 9, 10, 28, 29, 30, 31, 32, 33, 34, 35, 36, 37] (by decide +kernel) (by decide +kernel)
set_option maxRecDepth 20000 in
theorem gX7_decoded_X7_planOf : GoodIn wsX7_decoded (wsV RX7 83 RX7 yX7_planOf wsX7_planOf) := goodIn_app (goodIn_of _ (by decide +kernel)) ggX7_decoded_X7_planOf
set_option maxRecDepth 20000 in
theorem ggX7_decoded_X7_isRoutine : GoodIn wsX7_decoded wsX7_isRoutine := goodIn_r _ [13] (by decide +kernel) (by decide +kernel)
set_option maxRecDepth 20000 in
theorem gX7_decoded_X7_isRoutine : GoodIn wsX7_decoded (va_wsS RX7 65 yX7_isRoutine wsX7_isRoutine) := goodIn_app (goodIn_of _ (by decide +kernel)) ggX7_decoded_X7_isRoutine
set_option maxRecDepth 20000 in
theorem ggX7_decoded_X3_read : GoodIn wsX7_decoded wsX3_read := goodIn_r _ [17, 18, 19, 20, 21, 15, 22, 23, 7, 24, 38, 39, 40, 41, 42, 43, 44, 45, 46, 47, 48, 49] (by decide +kernel) (by decide +kernel)
set_option maxRecDepth 20000 in
theorem gX7_decoded_X3_read_n114 : GoodIn wsX7_decoded (wsX3_read) := ggX7_decoded_X3_read
set_option maxRecDepth 20000 in
theorem ggX7_decoded_X3_nth : GoodIn wsX7_decoded wsX3_nth := goodIn_r _ [27, 18, 19, 38, 39] (by decide +kernel) (by decide +kernel)
set_option maxRecDepth 20000 in
theorem gX7_decoded_X3_nth_n119 : GoodIn wsX7_decoded (wsX3_nth) := ggX7_decoded_X3_nth
theorem dX7_decoded_0 : decode cX7_decoded 0 = .ok (.aload_n 0, 1) := by decide +kernel
theorem dX7_decoded_1 : decode cX7_decoded 1 = .ok (.iload_n 1, 1) := by decide +kernel
theorem dX7_decoded_2 : decode cX7_decoded 2 = .ok (.invokevirtual 83, 3) := by decide +kernel
theorem dX7_decoded_5 : decode cX7_decoded 5 = .ok (.astore 6, 2) := by decide +kernel
theorem dX7_decoded_7 : decode cX7_decoded 7 = .ok (.aload 6, 2) := by decide +kernel
theorem dX7_decoded_9 : decode cX7_decoded 9 = .ok (.ifnull 17, 3) := by decide +kernel
theorem dX7_decoded_12 : decode cX7_decoded 12 = .ok (.iload_n 2, 1) := by decide +kernel
theorem dX7_decoded_13 : decode cX7_decoded 13 = .ok (.invokestatic 65, 3) := by decide +kernel
theorem dX7_decoded_16 : decode cX7_decoded 16 = .ok (.ifCond .eq 10, 3) := by decide +kernel
theorem dX7_decoded_19 : decode cX7_decoded 19 = .ok (.iload_n 3, 1) := by decide +kernel
theorem dX7_decoded_20 : decode cX7_decoded 20 = .ok (.invokestatic 65, 3) := by decide +kernel
theorem dX7_decoded_23 : decode cX7_decoded 23 = .ok (.ifCond .ne 5, 3) := by decide +kernel
theorem dX7_decoded_26 : decode cX7_decoded 26 = .ok (.iconst (-1), 1) := by decide +kernel
theorem dX7_decoded_27 : decode cX7_decoded 27 = .ok (.ireturn, 1) := by decide +kernel
theorem dX7_decoded_28 : decode cX7_decoded 28 = .ok (.iload 4, 2) := by decide +kernel
theorem dX7_decoded_30 : decode cX7_decoded 30 = .ok (.ifCond .lt 16, 3) := by decide +kernel
theorem dX7_decoded_33 : decode cX7_decoded 33 = .ok (.iload 4, 2) := by decide +kernel
theorem dX7_decoded_35 : decode cX7_decoded 35 = .ok (.ldc 113, 2) := by decide +kernel
theorem dX7_decoded_37 : decode cX7_decoded 37 = .ok (.if_icmp .gt 9, 3) := by decide +kernel
theorem dX7_decoded_40 : decode cX7_decoded 40 = .ok (.iload 5, 2) := by decide +kernel
theorem dX7_decoded_42 : decode cX7_decoded 42 = .ok (.iconst (-1), 1) := by decide +kernel
theorem dX7_decoded_43 : decode cX7_decoded 43 = .ok (.if_icmp .ge 6, 3) := by decide +kernel
theorem dX7_decoded_46 : decode cX7_decoded 46 = .ok (.bipush (-2), 2) := by decide +kernel
theorem dX7_decoded_48 : decode cX7_decoded 48 = .ok (.ireturn, 1) := by decide +kernel
theorem dX7_decoded_49 : decode cX7_decoded 49 = .ok (.aload_n 0, 1) := by decide +kernel
theorem dX7_decoded_50 : decode cX7_decoded 50 = .ok (.getfield 45, 3) := by decide +kernel
theorem dX7_decoded_53 : decode cX7_decoded 53 = .ok (.aload 6, 2) := by decide +kernel
theorem dX7_decoded_55 : decode cX7_decoded 55 = .ok (.aload_n 0, 1) := by decide +kernel
theorem dX7_decoded_56 : decode cX7_decoded 56 = .ok (.getfield 10, 3) := by decide +kernel
theorem dX7_decoded_59 : decode cX7_decoded 59 = .ok (.iload_n 2, 1) := by decide +kernel
theorem dX7_decoded_60 : decode cX7_decoded 60 = .ok (.iload_n 3, 1) := by decide +kernel
theorem dX7_decoded_61 : decode cX7_decoded 61 = .ok (.iload 4, 2) := by decide +kernel
theorem dX7_decoded_63 : decode cX7_decoded 63 = .ok (.invokevirtual 114, 3) := by decide +kernel
theorem dX7_decoded_66 : decode cX7_decoded 66 = .ok (.ifCond .ne 6, 3) := by decide +kernel
theorem dX7_decoded_69 : decode cX7_decoded 69 = .ok (.bipush (-9), 2) := by decide +kernel
theorem dX7_decoded_71 : decode cX7_decoded 71 = .ok (.ireturn, 1) := by decide +kernel
theorem dX7_decoded_72 : decode cX7_decoded 72 = .ok (.iload 5, 2) := by decide +kernel
theorem dX7_decoded_74 : decode cX7_decoded 74 = .ok (.iconst (-1), 1) := by decide +kernel
theorem dX7_decoded_75 : decode cX7_decoded 75 = .ok (.if_icmp .ne 13, 3) := by decide +kernel
theorem dX7_decoded_78 : decode cX7_decoded 78 = .ok (.aload_n 0, 1) := by decide +kernel
theorem dX7_decoded_79 : decode cX7_decoded 79 = .ok (.getfield 45, 3) := by decide +kernel
theorem dX7_decoded_82 : decode cX7_decoded 82 = .ok (.getfield 118, 3) := by decide +kernel
theorem dX7_decoded_85 : decode cX7_decoded 85 = .ok (.goto 12, 3) := by decide +kernel
theorem dX7_decoded_88 : decode cX7_decoded 88 = .ok (.aload_n 0, 1) := by decide +kernel
theorem dX7_decoded_89 : decode cX7_decoded 89 = .ok (.getfield 45, 3) := by decide +kernel
theorem dX7_decoded_92 : decode cX7_decoded 92 = .ok (.iload 5, 2) := by decide +kernel
theorem dX7_decoded_94 : decode cX7_decoded 94 = .ok (.invokevirtual 119, 3) := by decide +kernel
theorem dX7_decoded_97 : decode cX7_decoded 97 = .ok (.ireturn, 1) := by decide +kernel
set_option maxRecDepth 20000 in
theorem ggX7_call_X7_isCall : GoodIn wsX7_call wsX7_isCall := goodIn_r _ [7, 1, 14, 15, 16, 17, 18, 19, 20, 21, 22, 23, 24, 25, 26] (by decide +kernel) (by decide +kernel)
set_option maxRecDepth 20000 in
theorem gX7_call_X7_isCall : GoodIn wsX7_call (wsV RX7 79 RX7 yX7_isCall wsX7_isCall) := goodIn_app (goodIn_of _ (by decide +kernel)) ggX7_call_X7_isCall
set_option maxRecDepth 20000 in
theorem ggX7_call_X0_here : GoodIn wsX7_call wsX0_here := goodIn_r _ [11, 12, 13, 27, 28, 24, 25, 26] (by decide +kernel) (by decide +kernel)
set_option maxRecDepth 20000 in
theorem gX7_call_X0_here_n123 : GoodIn wsX7_call (wsX0_here) := ggX7_call_X0_here
theorem dX7_call_0 : decode cX7_call 0 = .ok (.aload_n 0, 1) := by decide +kernel
theorem dX7_call_1 : decode cX7_call 1 = .ok (.iload_n 1, 1) := by decide +kernel
theorem dX7_call_2 : decode cX7_call 2 = .ok (.invokevirtual 79, 3) := by decide +kernel
theorem dX7_call_5 : decode cX7_call 5 = .ok (.ifCond .ne 5, 3) := by decide +kernel
theorem dX7_call_8 : decode cX7_call 8 = .ok (.iconst (-1), 1) := by decide +kernel
theorem dX7_call_9 : decode cX7_call 9 = .ok (.ireturn, 1) := by decide +kernel
theorem dX7_call_10 : decode cX7_call 10 = .ok (.aload_n 0, 1) := by decide +kernel
theorem dX7_call_11 : decode cX7_call 11 = .ok (.getfield 10, 3) := by decide +kernel
theorem dX7_call_14 : decode cX7_call 14 = .ok (.getfield 72, 3) := by decide +kernel
theorem dX7_call_17 : decode cX7_call 17 = .ok (.iload_n 1, 1) := by decide +kernel
theorem dX7_call_18 : decode cX7_call 18 = .ok (.iaload, 1) := by decide +kernel
theorem dX7_call_19 : decode cX7_call 19 = .ok (.aload_n 0, 1) := by decide +kernel
theorem dX7_call_20 : decode cX7_call 20 = .ok (.getfield 25, 3) := by decide +kernel
theorem dX7_call_23 : decode cX7_call 23 = .ok (.aload_n 0, 1) := by decide +kernel
theorem dX7_call_24 : decode cX7_call 24 = .ok (.getfield 10, 3) := by decide +kernel
theorem dX7_call_27 : decode cX7_call 27 = .ok (.invokevirtual 123, 3) := by decide +kernel
theorem dX7_call_30 : decode cX7_call 30 = .ok (.if_icmp .eq 6, 3) := by decide +kernel
theorem dX7_call_33 : decode cX7_call 33 = .ok (.bipush (-3), 2) := by decide +kernel
theorem dX7_call_35 : decode cX7_call 35 = .ok (.ireturn, 1) := by decide +kernel
theorem dX7_call_36 : decode cX7_call 36 = .ok (.aload_n 0, 1) := by decide +kernel
theorem dX7_call_37 : decode cX7_call 37 = .ok (.getfield 25, 3) := by decide +kernel
theorem dX7_call_40 : decode cX7_call 40 = .ok (.getfield 127, 3) := by decide +kernel
theorem dX7_call_43 : decode cX7_call 43 = .ok (.bipush 30, 2) := by decide +kernel
theorem dX7_call_45 : decode cX7_call 45 = .ok (.if_icmp .lt 6, 3) := by decide +kernel
theorem dX7_call_48 : decode cX7_call 48 = .ok (.bipush (-4), 2) := by decide +kernel
theorem dX7_call_50 : decode cX7_call 50 = .ok (.ireturn, 1) := by decide +kernel
theorem dX7_call_51 : decode cX7_call 51 = .ok (.aload_n 0, 1) := by decide +kernel
theorem dX7_call_52 : decode cX7_call 52 = .ok (.getfield 25, 3) := by decide +kernel
theorem dX7_call_55 : decode cX7_call 55 = .ok (.getfield 128, 3) := by decide +kernel
theorem dX7_call_58 : decode cX7_call 58 = .ok (.aload_n 0, 1) := by decide +kernel
theorem dX7_call_59 : decode cX7_call 59 = .ok (.getfield 25, 3) := by decide +kernel
theorem dX7_call_62 : decode cX7_call 62 = .ok (.getfield 127, 3) := by decide +kernel
theorem dX7_call_65 : decode cX7_call 65 = .ok (.iload_n 1, 1) := by decide +kernel
theorem dX7_call_66 : decode cX7_call 66 = .ok (.iastore, 1) := by decide +kernel
theorem dX7_call_67 : decode cX7_call 67 = .ok (.aload_n 0, 1) := by decide +kernel
theorem dX7_call_68 : decode cX7_call 68 = .ok (.getfield 25, 3) := by decide +kernel
theorem dX7_call_71 : decode cX7_call 71 = .ok (.dup, 1) := by decide +kernel
theorem dX7_call_72 : decode cX7_call 72 = .ok (.getfield 127, 3) := by decide +kernel
theorem dX7_call_75 : decode cX7_call 75 = .ok (.iconst 1, 1) := by decide +kernel
theorem dX7_call_76 : decode cX7_call 76 = .ok (.iadd, 1) := by decide +kernel
theorem dX7_call_77 : decode cX7_call 77 = .ok (.putfield 127, 3) := by decide +kernel
theorem dX7_call_80 : decode cX7_call 80 = .ok (.aload_n 0, 1) := by decide +kernel
theorem dX7_call_81 : decode cX7_call 81 = .ok (.getfield 25, 3) := by decide +kernel
theorem dX7_call_84 : decode cX7_call 84 = .ok (.aload_n 0, 1) := by decide +kernel
theorem dX7_call_85 : decode cX7_call 85 = .ok (.getfield 10, 3) := by decide +kernel
theorem dX7_call_88 : decode cX7_call 88 = .ok (.invokevirtual 123, 3) := by decide +kernel
theorem dX7_call_91 : decode cX7_call 91 = .ok (.ireturn, 1) := by decide +kernel
set_option maxRecDepth 20000 in
theorem ggX7_back_X0_here : GoodIn wsX7_back wsX0_here := goodIn_r _ [6, 7, 8, 19, 20, 21, 22, 23] (by decide +kernel) (by decide +kernel)
set_option maxRecDepth 20000 in
theorem gX7_back_X0_here_n123 : GoodIn wsX7_back (wsX0_here) := ggX7_back_X0_here
theorem dX7_back_0 : decode cX7_back 0 = .ok (.aload_n 0, 1) := by decide +kernel
theorem dX7_back_1 : decode cX7_back 1 = .ok (.getfield 25, 3) := by decide +kernel
theorem dX7_back_4 : decode cX7_back 4 = .ok (.getfield 127, 3) := by decide +kernel
theorem dX7_back_7 : decode cX7_back 7 = .ok (.ifCond .gt 6, 3) := by decide +kernel
theorem dX7_back_10 : decode cX7_back 10 = .ok (.bipush (-3), 2) := by decide +kernel
theorem dX7_back_12 : decode cX7_back 12 = .ok (.ireturn, 1) := by decide +kernel
theorem dX7_back_13 : decode cX7_back 13 = .ok (.aload_n 0, 1) := by decide +kernel
theorem dX7_back_14 : decode cX7_back 14 = .ok (.getfield 25, 3) := by decide +kernel
theorem dX7_back_17 : decode cX7_back 17 = .ok (.dup, 1) := by decide +kernel
theorem dX7_back_18 : decode cX7_back 18 = .ok (.getfield 127, 3) := by decide +kernel
theorem dX7_back_21 : decode cX7_back 21 = .ok (.iconst 1, 1) := by decide +kernel
theorem dX7_back_22 : decode cX7_back 22 = .ok (.isub, 1) := by decide +kernel
theorem dX7_back_23 : decode cX7_back 23 = .ok (.putfield 127, 3) := by decide +kernel
theorem dX7_back_26 : decode cX7_back 26 = .ok (.aload_n 0, 1) := by decide +kernel
theorem dX7_back_27 : decode cX7_back 27 = .ok (.getfield 25, 3) := by decide +kernel
theorem dX7_back_30 : decode cX7_back 30 = .ok (.aload_n 0, 1) := by decide +kernel
theorem dX7_back_31 : decode cX7_back 31 = .ok (.getfield 10, 3) := by decide +kernel
theorem dX7_back_34 : decode cX7_back 34 = .ok (.invokevirtual 123, 3) := by decide +kernel
theorem dX7_back_37 : decode cX7_back 37 = .ok (.ireturn, 1) := by decide +kernel
theorem dX7_running_0 : decode cX7_running 0 = .ok (.iload_n 1, 1) := by decide +kernel
theorem dX7_running_1 : decode cX7_running 1 = .ok (.ifCond .ge 6, 3) := by decide +kernel
theorem dX7_running_4 : decode cX7_running 4 = .ok (.bipush (-2), 2) := by decide +kernel
theorem dX7_running_6 : decode cX7_running 6 = .ok (.ireturn, 1) := by decide +kernel
theorem dX7_running_7 : decode cX7_running 7 = .ok (.iload_n 1, 1) := by decide +kernel
theorem dX7_running_8 : decode cX7_running 8 = .ok (.aload_n 0, 1) := by decide +kernel
theorem dX7_running_9 : decode cX7_running 9 = .ok (.getfield 25, 3) := by decide +kernel
theorem dX7_running_12 : decode cX7_running 12 = .ok (.getfield 127, 3) := by decide +kernel
theorem dX7_running_15 : decode cX7_running 15 = .ok (.if_icmp .ge 15, 3) := by decide +kernel
theorem dX7_running_18 : decode cX7_running 18 = .ok (.aload_n 0, 1) := by decide +kernel
theorem dX7_running_19 : decode cX7_running 19 = .ok (.getfield 25, 3) := by decide +kernel
theorem dX7_running_22 : decode cX7_running 22 = .ok (.getfield 128, 3) := by decide +kernel
theorem dX7_running_25 : decode cX7_running 25 = .ok (.iload_n 1, 1) := by decide +kernel
theorem dX7_running_26 : decode cX7_running 26 = .ok (.iaload, 1) := by decide +kernel
theorem dX7_running_27 : decode cX7_running 27 = .ok (.goto 5, 3) := by decide +kernel
theorem dX7_running_30 : decode cX7_running 30 = .ok (.bipush (-9), 2) := by decide +kernel
theorem dX7_running_32 : decode cX7_running 32 = .ok (.ireturn, 1) := by decide +kernel
set_option maxRecDepth 20000 in
theorem ggX7_piece_X7_planOf : GoodIn wsX7_piece wsX7_planOf := goodIn_r _ [8, 9, 10, 25, 26, 27, 28, 29, 30, 31, 32, 33, 34] (by decide +kernel) (by decide +kernel)
set_option maxRecDepth 20000 in
theorem gX7_piece_X7_planOf : GoodIn wsX7_piece (wsV RX7 83 RX7 yX7_planOf wsX7_planOf) := goodIn_app (goodIn_of _ (by decide +kernel)) ggX7_piece_X7_planOf
set_option maxRecDepth 20000 in
theorem ggX7_piece_X2_write : GoodIn wsX7_piece wsX2_write := goodIn_r _ [14, 15, 16, 17, 18, 19, 20, 12, 21, 22, 23, 7, 24, 35, 36, 37, 38, 39, 40, 41, 42, 43, 44, 45, 46, 47, 48, 49, 50] (by decide +kernel) (by decide +kernel)
set_option maxRecDepth 20000 in
theorem gX7_piece_X2_write_n131 : GoodIn wsX7_piece (wsX2_write) := ggX7_piece_X2_write
theorem dX7_piece_0 : decode cX7_piece 0 = .ok (.aload_n 0, 1) := by decide +kernel
theorem dX7_piece_1 : decode cX7_piece 1 = .ok (.iload_n 1, 1) := by decide +kernel
theorem dX7_piece_2 : decode cX7_piece 2 = .ok (.invokevirtual 83, 3) := by decide +kernel
theorem dX7_piece_5 : decode cX7_piece 5 = .ok (.astore 4, 2) := by decide +kernel
theorem dX7_piece_7 : decode cX7_piece 7 = .ok (.aload 4, 2) := by decide +kernel
theorem dX7_piece_9 : decode cX7_piece 9 = .ok (.ifnonnull 5, 3) := by decide +kernel
theorem dX7_piece_12 : decode cX7_piece 12 = .ok (.iconst (-1), 1) := by decide +kernel
theorem dX7_piece_13 : decode cX7_piece 13 = .ok (.ireturn, 1) := by decide +kernel
theorem dX7_piece_14 : decode cX7_piece 14 = .ok (.iload_n 2, 1) := by decide +kernel
theorem dX7_piece_15 : decode cX7_piece 15 = .ok (.ifCond .lt 12, 3) := by decide +kernel
theorem dX7_piece_18 : decode cX7_piece 18 = .ok (.iload_n 3, 1) := by decide +kernel
theorem dX7_piece_19 : decode cX7_piece 19 = .ok (.ifCond .lt 8, 3) := by decide +kernel
theorem dX7_piece_22 : decode cX7_piece 22 = .ok (.iload_n 3, 1) := by decide +kernel
theorem dX7_piece_23 : decode cX7_piece 23 = .ok (.iconst 2, 1) := by decide +kernel
theorem dX7_piece_24 : decode cX7_piece 24 = .ok (.if_icmp .le 6, 3) := by decide +kernel
theorem dX7_piece_27 : decode cX7_piece 27 = .ok (.bipush (-2), 2) := by decide +kernel
theorem dX7_piece_29 : decode cX7_piece 29 = .ok (.ireturn, 1) := by decide +kernel
theorem dX7_piece_30 : decode cX7_piece 30 = .ok (.aload_n 0, 1) := by decide +kernel
theorem dX7_piece_31 : decode cX7_piece 31 = .ok (.getfield 38, 3) := by decide +kernel
theorem dX7_piece_34 : decode cX7_piece 34 = .ok (.aload 4, 2) := by decide +kernel
theorem dX7_piece_36 : decode cX7_piece 36 = .ok (.aload_n 0, 1) := by decide +kernel
theorem dX7_piece_37 : decode cX7_piece 37 = .ok (.getfield 10, 3) := by decide +kernel
theorem dX7_piece_40 : decode cX7_piece 40 = .ok (.aload_n 0, 1) := by decide +kernel
theorem dX7_piece_41 : decode cX7_piece 41 = .ok (.getfield 25, 3) := by decide +kernel
theorem dX7_piece_44 : decode cX7_piece 44 = .ok (.invokevirtual 131, 3) := by decide +kernel
theorem dX7_piece_47 : decode cX7_piece 47 = .ok (.iload_n 2, 1) := by decide +kernel
theorem dX7_piece_48 : decode cX7_piece 48 = .ok (.aload_n 0, 1) := by decide +kernel
theorem dX7_piece_49 : decode cX7_piece 49 = .ok (.getfield 38, 3) := by decide +kernel
theorem dX7_piece_52 : decode cX7_piece 52 = .ok (.getfield 135, 3) := by decide +kernel
theorem dX7_piece_55 : decode cX7_piece 55 = .ok (.if_icmp .lt 6, 3) := by decide +kernel
theorem dX7_piece_58 : decode cX7_piece 58 = .ok (.bipush (-9), 2) := by decide +kernel
theorem dX7_piece_60 : decode cX7_piece 60 = .ok (.ireturn, 1) := by decide +kernel
theorem dX7_piece_61 : decode cX7_piece 61 = .ok (.iload_n 3, 1) := by decide +kernel
theorem dX7_piece_62 : decode cX7_piece 62 = .ok (.lookupswitch 46 #[(0, 26), (1, 36)], 26) := by decide +kernel
theorem dX7_piece_88 : decode cX7_piece 88 = .ok (.aload_n 0, 1) := by decide +kernel
theorem dX7_piece_89 : decode cX7_piece 89 = .ok (.getfield 38, 3) := by decide +kernel
theorem dX7_piece_92 : decode cX7_piece 92 = .ok (.getfield 136, 3) := by decide +kernel
theorem dX7_piece_95 : decode cX7_piece 95 = .ok (.iload_n 2, 1) := by decide +kernel
theorem dX7_piece_96 : decode cX7_piece 96 = .ok (.iaload, 1) := by decide +kernel
theorem dX7_piece_97 : decode cX7_piece 97 = .ok (.ireturn, 1) := by decide +kernel
theorem dX7_piece_98 : decode cX7_piece 98 = .ok (.aload_n 0, 1) := by decide +kernel
theorem dX7_piece_99 : decode cX7_piece 99 = .ok (.getfield 38, 3) := by decide +kernel
theorem dX7_piece_102 : decode cX7_piece 102 = .ok (.getfield 139, 3) := by decide +kernel
theorem dX7_piece_105 : decode cX7_piece 105 = .ok (.iload_n 2, 1) := by decide +kernel
theorem dX7_piece_106 : decode cX7_piece 106 = .ok (.iaload, 1) := by decide +kernel
theorem dX7_piece_107 : decode cX7_piece 107 = .ok (.ireturn, 1) := by decide +kernel
theorem dX7_piece_108 : decode cX7_piece 108 = .ok (.aload_n 0, 1) := by decide +kernel
theorem dX7_piece_109 : decode cX7_piece 109 = .ok (.getfield 38, 3) := by decide +kernel
theorem dX7_piece_112 : decode cX7_piece 112 = .ok (.getfield 142, 3) := by decide +kernel
theorem dX7_piece_115 : decode cX7_piece 115 = .ok (.iload_n 2, 1) := by decide +kernel
theorem dX7_piece_116 : decode cX7_piece 116 = .ok (.iaload, 1) := by decide +kernel
theorem dX7_piece_117 : decode cX7_piece 117 = .ok (.ireturn, 1) := by decide +kernel
set_option maxRecDepth 20000 in
theorem ggX7_pieces_X7_planOf : GoodIn wsX7_pieces wsX7_planOf := goodIn_r _ [8, 9, 10, 25, 26, 27, 28, 29, 30, 31, 32, 33, 34] (by decide +kernel) (by decide +kernel)
set_option maxRecDepth 20000 in
theorem gX7_pieces_X7_planOf : GoodIn wsX7_pieces (wsV RX7 83 RX7 yX7_planOf wsX7_planOf) := goodIn_app (goodIn_of _ (by decide +kernel)) ggX7_pieces_X7_planOf
set_option maxRecDepth 20000 in
theorem ggX7_pieces_X2_write : GoodIn wsX7_pieces wsX2_write := goodIn_r _ [14, 15, 16, 17, 18, 19, 20, 12, 21, 22, 23, 7, 24, 35, 36, 37, 38, 39, 40, 41, 42, 43, 44, 45, 46, 47, 48, 49, 50] (by decide +kernel) (by decide +kernel)
set_option maxRecDepth 20000 in
theorem gX7_pieces_X2_write_n131 : GoodIn wsX7_pieces (wsX2_write) := ggX7_pieces_X2_write
theorem dX7_pieces_0 : decode cX7_pieces 0 = .ok (.aload_n 0, 1) := by decide +kernel
theorem dX7_pieces_1 : decode cX7_pieces 1 = .ok (.iload_n 1, 1) := by decide +kernel
theorem dX7_pieces_2 : decode cX7_pieces 2 = .ok (.invokevirtual 83, 3) := by decide +kernel
theorem dX7_pieces_5 : decode cX7_pieces 5 = .ok (.astore_n 2, 1) := by decide +kernel
theorem dX7_pieces_6 : decode cX7_pieces 6 = .ok (.aload_n 2, 1) := by decide +kernel
theorem dX7_pieces_7 : decode cX7_pieces 7 = .ok (.ifnonnull 5, 3) := by decide +kernel
theorem dX7_pieces_10 : decode cX7_pieces 10 = .ok (.iconst (-1), 1) := by decide +kernel
theorem dX7_pieces_11 : decode cX7_pieces 11 = .ok (.ireturn, 1) := by decide +kernel
theorem dX7_pieces_12 : decode cX7_pieces 12 = .ok (.aload_n 0, 1) := by decide +kernel
theorem dX7_pieces_13 : decode cX7_pieces 13 = .ok (.getfield 38, 3) := by decide +kernel
theorem dX7_pieces_16 : decode cX7_pieces 16 = .ok (.aload_n 2, 1) := by decide +kernel
theorem dX7_pieces_17 : decode cX7_pieces 17 = .ok (.aload_n 0, 1) := by decide +kernel
theorem dX7_pieces_18 : decode cX7_pieces 18 = .ok (.getfield 10, 3) := by decide +kernel
theorem dX7_pieces_21 : decode cX7_pieces 21 = .ok (.aload_n 0, 1) := by decide +kernel
theorem dX7_pieces_22 : decode cX7_pieces 22 = .ok (.getfield 25, 3) := by decide +kernel
theorem dX7_pieces_25 : decode cX7_pieces 25 = .ok (.invokevirtual 131, 3) := by decide +kernel
theorem dX7_pieces_28 : decode cX7_pieces 28 = .ok (.aload_n 0, 1) := by decide +kernel
theorem dX7_pieces_29 : decode cX7_pieces 29 = .ok (.getfield 38, 3) := by decide +kernel
theorem dX7_pieces_32 : decode cX7_pieces 32 = .ok (.getfield 135, 3) := by decide +kernel
theorem dX7_pieces_35 : decode cX7_pieces 35 = .ok (.ireturn, 1) := by decide +kernel
set_option maxRecDepth 20000 in
theorem ggX7_snap_X2_write : GoodIn wsX7_snap wsX2_write := goodIn_r _ [14, 15, 16, 17, 18, 19, 20, 12, 21, 22, 23, 24, 25, 79, 80, 81, 82, 83, 84, 85, 86, 87, 88, 89, 90, 91, 92, 93, 94] (by decide +kernel) (by decide +kernel)
set_option maxRecDepth 20000 in
theorem gX7_snap_X2_write_n131 : GoodIn wsX7_snap (wsX2_write) := ggX7_snap_X2_write
set_option maxRecDepth 20000 in
theorem ggX7_snap_X0_here : GoodIn wsX7_snap wsX0_here := goodIn_r _ [29, 30, 31, 83, 84, 92, 93, 94] (by decide +kernel) (by decide +kernel)
set_option maxRecDepth 20000 in
theorem gX7_snap_X0_here_n123 : GoodIn wsX7_snap (wsX0_here) := ggX7_snap_X0_here
set_option maxRecDepth 20000 in
theorem ggX7_snap_X5_init : GoodIn wsX7_snap wsX5_init := goodIn_r _ [33, 34, 35, 36, 37, 38, 39, 40, 41, 42, 12, 43, 44, 15, 16, 45, 46, 47, 48, 49, 50, 51, 52, 53, 54, 55, 56, 57, 58, 59, 60, 61, 62, 63, 74, 75, 76, 77, 78, 79, 80, 81, 82, 83, 84] (by decide +kernel) (by decide +kernel)
set_option maxRecDepth 20000 in
theorem gX7_snap_X5_init_n148 : GoodIn wsX7_snap (wsX5_init) := ggX7_snap_X5_init
theorem dX7_snap_0 : decode cX7_snap 0 = .ok (.aload_n 0, 1) := by decide +kernel
theorem dX7_snap_1 : decode cX7_snap 1 = .ok (.getfield 145, 3) := by decide +kernel
theorem dX7_snap_4 : decode cX7_snap 4 = .ok (.bipush 10, 2) := by decide +kernel
theorem dX7_snap_6 : decode cX7_snap 6 = .ok (.if_icmp .lt 6, 3) := by decide +kernel
theorem dX7_snap_9 : decode cX7_snap 9 = .ok (.bipush (-4), 2) := by decide +kernel
theorem dX7_snap_11 : decode cX7_snap 11 = .ok (.ireturn, 1) := by decide +kernel
theorem dX7_snap_12 : decode cX7_snap 12 = .ok (.aload_n 0, 1) := by decide +kernel
theorem dX7_snap_13 : decode cX7_snap 13 = .ok (.getfield 38, 3) := by decide +kernel
theorem dX7_snap_16 : decode cX7_snap 16 = .ok (.aload_n 0, 1) := by decide +kernel
theorem dX7_snap_17 : decode cX7_snap 17 = .ok (.getfield 54, 3) := by decide +kernel
theorem dX7_snap_20 : decode cX7_snap 20 = .ok (.aload_n 0, 1) := by decide +kernel
theorem dX7_snap_21 : decode cX7_snap 21 = .ok (.getfield 10, 3) := by decide +kernel
theorem dX7_snap_24 : decode cX7_snap 24 = .ok (.aload_n 0, 1) := by decide +kernel
theorem dX7_snap_25 : decode cX7_snap 25 = .ok (.getfield 25, 3) := by decide +kernel
theorem dX7_snap_28 : decode cX7_snap 28 = .ok (.invokevirtual 131, 3) := by decide +kernel
theorem dX7_snap_31 : decode cX7_snap 31 = .ok (.aload_n 0, 1) := by decide +kernel
theorem dX7_snap_32 : decode cX7_snap 32 = .ok (.getfield 31, 3) := by decide +kernel
theorem dX7_snap_35 : decode cX7_snap 35 = .ok (.aload_n 0, 1) := by decide +kernel
theorem dX7_snap_36 : decode cX7_snap 36 = .ok (.getfield 145, 3) := by decide +kernel
theorem dX7_snap_39 : decode cX7_snap 39 = .ok (.new 29, 3) := by decide +kernel
theorem dX7_snap_42 : decode cX7_snap 42 = .ok (.dup, 1) := by decide +kernel
theorem dX7_snap_43 : decode cX7_snap 43 = .ok (.aload_n 0, 1) := by decide +kernel
theorem dX7_snap_44 : decode cX7_snap 44 = .ok (.getfield 62, 3) := by decide +kernel
theorem dX7_snap_47 : decode cX7_snap 47 = .ok (.iconst 1, 1) := by decide +kernel
theorem dX7_snap_48 : decode cX7_snap 48 = .ok (.isub, 1) := by decide +kernel
theorem dX7_snap_49 : decode cX7_snap 49 = .ok (.aload_n 0, 1) := by decide +kernel
theorem dX7_snap_50 : decode cX7_snap 50 = .ok (.getfield 25, 3) := by decide +kernel
theorem dX7_snap_53 : decode cX7_snap 53 = .ok (.aload_n 0, 1) := by decide +kernel
theorem dX7_snap_54 : decode cX7_snap 54 = .ok (.getfield 10, 3) := by decide +kernel
theorem dX7_snap_57 : decode cX7_snap 57 = .ok (.invokevirtual 123, 3) := by decide +kernel
theorem dX7_snap_60 : decode cX7_snap 60 = .ok (.aload_n 0, 1) := by decide +kernel
theorem dX7_snap_61 : decode cX7_snap 61 = .ok (.getfield 38, 3) := by decide +kernel
theorem dX7_snap_64 : decode cX7_snap 64 = .ok (.aload_n 0, 1) := by decide +kernel
theorem dX7_snap_65 : decode cX7_snap 65 = .ok (.getfield 25, 3) := by decide +kernel
theorem dX7_snap_68 : decode cX7_snap 68 = .ok (.invokespecial 148, 3) := by decide +kernel
theorem dX7_snap_71 : decode cX7_snap 71 = .ok (.aastore, 1) := by decide +kernel
theorem dX7_snap_72 : decode cX7_snap 72 = .ok (.aload_n 0, 1) := by decide +kernel
theorem dX7_snap_73 : decode cX7_snap 73 = .ok (.dup, 1) := by decide +kernel
theorem dX7_snap_74 : decode cX7_snap 74 = .ok (.getfield 145, 3) := by decide +kernel
theorem dX7_snap_77 : decode cX7_snap 77 = .ok (.iconst 1, 1) := by decide +kernel
theorem dX7_snap_78 : decode cX7_snap 78 = .ok (.iadd, 1) := by decide +kernel
theorem dX7_snap_79 : decode cX7_snap 79 = .ok (.putfield 145, 3) := by decide +kernel
theorem dX7_snap_82 : decode cX7_snap 82 = .ok (.aload_n 0, 1) := by decide +kernel
theorem dX7_snap_83 : decode cX7_snap 83 = .ok (.getfield 145, 3) := by decide +kernel
theorem dX7_snap_86 : decode cX7_snap 86 = .ok (.iconst 1, 1) := by decide +kernel
theorem dX7_snap_87 : decode cX7_snap 87 = .ok (.isub, 1) := by decide +kernel
theorem dX7_snap_88 : decode cX7_snap 88 = .ok (.ireturn, 1) := by decide +kernel
set_option maxRecDepth 20000 in
theorem ggX7_ofSnap_X7_snapOf : GoodIn wsX7_ofSnap wsX7_snapOf := goodIn_r _ [5, 6, 7, 13, 14, 15, 16, 17, 18, 19, 20, 21, 22] (by decide +kernel) (by decide +kernel)
set_option maxRecDepth 20000 in
theorem gX7_ofSnap_X7_snapOf : GoodIn wsX7_ofSnap (wsV RX7 151 RX7 yX7_snapOf wsX7_snapOf) := goodIn_app (goodIn_of _ (by decide +kernel)) ggX7_ofSnap_X7_snapOf
theorem dX7_ofSnap_0 : decode cX7_ofSnap 0 = .ok (.aload_n 0, 1) := by decide +kernel
theorem dX7_ofSnap_1 : decode cX7_ofSnap 1 = .ok (.iload_n 1, 1) := by decide +kernel
theorem dX7_ofSnap_2 : decode cX7_ofSnap 2 = .ok (.invokevirtual 151, 3) := by decide +kernel
theorem dX7_ofSnap_5 : decode cX7_ofSnap 5 = .ok (.astore_n 3, 1) := by decide +kernel
theorem dX7_ofSnap_6 : decode cX7_ofSnap 6 = .ok (.aload_n 3, 1) := by decide +kernel
theorem dX7_ofSnap_7 : decode cX7_ofSnap 7 = .ok (.ifnonnull 5, 3) := by decide +kernel
theorem dX7_ofSnap_10 : decode cX7_ofSnap 10 = .ok (.iconst (-1), 1) := by decide +kernel
theorem dX7_ofSnap_11 : decode cX7_ofSnap 11 = .ok (.ireturn, 1) := by decide +kernel
theorem dX7_ofSnap_12 : decode cX7_ofSnap 12 = .ok (.iload_n 2, 1) := by decide +kernel
theorem dX7_ofSnap_13 : decode cX7_ofSnap 13 = .ok (.tableswitch 61 0 4 #[35, 40, 45, 50, 55], 35) := by decide +kernel
theorem dX7_ofSnap_48 : decode cX7_ofSnap 48 = .ok (.aload_n 3, 1) := by decide +kernel
theorem dX7_ofSnap_49 : decode cX7_ofSnap 49 = .ok (.getfield 155, 3) := by decide +kernel
theorem dX7_ofSnap_52 : decode cX7_ofSnap 52 = .ok (.ireturn, 1) := by decide +kernel
theorem dX7_ofSnap_53 : decode cX7_ofSnap 53 = .ok (.aload_n 3, 1) := by decide +kernel
theorem dX7_ofSnap_54 : decode cX7_ofSnap 54 = .ok (.getfield 158, 3) := by decide +kernel
theorem dX7_ofSnap_57 : decode cX7_ofSnap 57 = .ok (.ireturn, 1) := by decide +kernel
theorem dX7_ofSnap_58 : decode cX7_ofSnap 58 = .ok (.aload_n 3, 1) := by decide +kernel
theorem dX7_ofSnap_59 : decode cX7_ofSnap 59 = .ok (.getfield 160, 3) := by decide +kernel
theorem dX7_ofSnap_62 : decode cX7_ofSnap 62 = .ok (.ireturn, 1) := by decide +kernel
theorem dX7_ofSnap_63 : decode cX7_ofSnap 63 = .ok (.aload_n 3, 1) := by decide +kernel
theorem dX7_ofSnap_64 : decode cX7_ofSnap 64 = .ok (.getfield 163, 3) := by decide +kernel
theorem dX7_ofSnap_67 : decode cX7_ofSnap 67 = .ok (.ireturn, 1) := by decide +kernel
theorem dX7_ofSnap_68 : decode cX7_ofSnap 68 = .ok (.aload_n 3, 1) := by decide +kernel
theorem dX7_ofSnap_69 : decode cX7_ofSnap 69 = .ok (.getfield 166, 3) := by decide +kernel
theorem dX7_ofSnap_72 : decode cX7_ofSnap 72 = .ok (.arraylength, 1) := by decide +kernel
theorem dX7_ofSnap_73 : decode cX7_ofSnap 73 = .ok (.ireturn, 1) := by decide +kernel
theorem dX7_ofSnap_74 : decode cX7_ofSnap 74 = .ok (.bipush (-2), 2) := by decide +kernel
theorem dX7_ofSnap_76 : decode cX7_ofSnap 76 = .ok (.ireturn, 1) := by decide +kernel
set_option maxRecDepth 20000 in
theorem ggX7_snapped_X7_snapOf : GoodIn wsX7_snapped wsX7_snapOf := goodIn_r _ [5, 6, 7, 13, 14, 15, 16, 17, 18, 19, 20, 21, 22] (by decide +kernel) (by decide +kernel)
set_option maxRecDepth 20000 in
theorem gX7_snapped_X7_snapOf : GoodIn wsX7_snapped (wsV RX7 151 RX7 yX7_snapOf wsX7_snapOf) := goodIn_app (goodIn_of _ (by decide +kernel)) ggX7_snapped_X7_snapOf
theorem dX7_snapped_0 : decode cX7_snapped 0 = .ok (.aload_n 0, 1) := by decide +kernel
theorem dX7_snapped_1 : decode cX7_snapped 1 = .ok (.iload_n 1, 1) := by decide +kernel
theorem dX7_snapped_2 : decode cX7_snapped 2 = .ok (.invokevirtual 151, 3) := by decide +kernel
theorem dX7_snapped_5 : decode cX7_snapped 5 = .ok (.astore_n 3, 1) := by decide +kernel
theorem dX7_snapped_6 : decode cX7_snapped 6 = .ok (.aload_n 3, 1) := by decide +kernel
theorem dX7_snapped_7 : decode cX7_snapped 7 = .ok (.ifnonnull 5, 3) := by decide +kernel
theorem dX7_snapped_10 : decode cX7_snapped 10 = .ok (.iconst (-1), 1) := by decide +kernel
theorem dX7_snapped_11 : decode cX7_snapped 11 = .ok (.ireturn, 1) := by decide +kernel
theorem dX7_snapped_12 : decode cX7_snapped 12 = .ok (.iload_n 2, 1) := by decide +kernel
theorem dX7_snapped_13 : decode cX7_snapped 13 = .ok (.ifCond .ge 6, 3) := by decide +kernel
theorem dX7_snapped_16 : decode cX7_snapped 16 = .ok (.bipush (-2), 2) := by decide +kernel
theorem dX7_snapped_18 : decode cX7_snapped 18 = .ok (.ireturn, 1) := by decide +kernel
theorem dX7_snapped_19 : decode cX7_snapped 19 = .ok (.iload_n 2, 1) := by decide +kernel
theorem dX7_snapped_20 : decode cX7_snapped 20 = .ok (.aload_n 3, 1) := by decide +kernel
theorem dX7_snapped_21 : decode cX7_snapped 21 = .ok (.getfield 166, 3) := by decide +kernel
theorem dX7_snapped_24 : decode cX7_snapped 24 = .ok (.arraylength, 1) := by decide +kernel
theorem dX7_snapped_25 : decode cX7_snapped 25 = .ok (.if_icmp .ge 12, 3) := by decide +kernel
theorem dX7_snapped_28 : decode cX7_snapped 28 = .ok (.aload_n 3, 1) := by decide +kernel
theorem dX7_snapped_29 : decode cX7_snapped 29 = .ok (.getfield 166, 3) := by decide +kernel
theorem dX7_snapped_32 : decode cX7_snapped 32 = .ok (.iload_n 2, 1) := by decide +kernel
theorem dX7_snapped_33 : decode cX7_snapped 33 = .ok (.iaload, 1) := by decide +kernel
theorem dX7_snapped_34 : decode cX7_snapped 34 = .ok (.goto 5, 3) := by decide +kernel
theorem dX7_snapped_37 : decode cX7_snapped 37 = .ok (.bipush (-9), 2) := by decide +kernel
theorem dX7_snapped_39 : decode cX7_snapped 39 = .ok (.ireturn, 1) := by decide +kernel
set_option maxRecDepth 20000 in
theorem ggX7_same_X7_snapOf : GoodIn wsX7_same wsX7_snapOf := goodIn_r _ [5, 6, 7, 16, 17, 18, 19, 20, 21, 22, 23, 24, 25] (by decide +kernel) (by decide +kernel)
set_option maxRecDepth 20000 in
theorem gX7_same_X7_snapOf : GoodIn wsX7_same (wsV RX7 151 RX7 yX7_snapOf wsX7_snapOf) := goodIn_app (goodIn_of _ (by decide +kernel)) ggX7_same_X7_snapOf
set_option maxRecDepth 20000 in
theorem ggX7_same_X7_sameRows : GoodIn wsX7_same wsX7_sameRows := goodIn_r _ [10] (by decide +kernel) (by decide +kernel)
set_option maxRecDepth 20000 in
theorem gX7_same_X7_sameRows : GoodIn wsX7_same (va_wsS RX7 167 yX7_sameRows wsX7_sameRows) := goodIn_app (goodIn_of _ (by decide +kernel)) ggX7_same_X7_sameRows
theorem dX7_same_0 : decode cX7_same 0 = .ok (.aload_n 0, 1) := by decide +kernel
theorem dX7_same_1 : decode cX7_same 1 = .ok (.iload_n 1, 1) := by decide +kernel
theorem dX7_same_2 : decode cX7_same 2 = .ok (.invokevirtual 151, 3) := by decide +kernel
theorem dX7_same_5 : decode cX7_same 5 = .ok (.astore_n 3, 1) := by decide +kernel
theorem dX7_same_6 : decode cX7_same 6 = .ok (.aload_n 0, 1) := by decide +kernel
theorem dX7_same_7 : decode cX7_same 7 = .ok (.iload_n 2, 1) := by decide +kernel
theorem dX7_same_8 : decode cX7_same 8 = .ok (.invokevirtual 151, 3) := by decide +kernel
theorem dX7_same_11 : decode cX7_same 11 = .ok (.astore 4, 2) := by decide +kernel
theorem dX7_same_13 : decode cX7_same 13 = .ok (.aload_n 3, 1) := by decide +kernel
theorem dX7_same_14 : decode cX7_same 14 = .ok (.ifnull 8, 3) := by decide +kernel
theorem dX7_same_17 : decode cX7_same 17 = .ok (.aload 4, 2) := by decide +kernel
theorem dX7_same_19 : decode cX7_same 19 = .ok (.ifnonnull 5, 3) := by decide +kernel
theorem dX7_same_22 : decode cX7_same 22 = .ok (.iconst (-1), 1) := by decide +kernel
theorem dX7_same_23 : decode cX7_same 23 = .ok (.ireturn, 1) := by decide +kernel
theorem dX7_same_24 : decode cX7_same 24 = .ok (.aload_n 3, 1) := by decide +kernel
theorem dX7_same_25 : decode cX7_same 25 = .ok (.getfield 166, 3) := by decide +kernel
theorem dX7_same_28 : decode cX7_same 28 = .ok (.aload 4, 2) := by decide +kernel
theorem dX7_same_30 : decode cX7_same 30 = .ok (.getfield 166, 3) := by decide +kernel
theorem dX7_same_33 : decode cX7_same 33 = .ok (.invokestatic 167, 3) := by decide +kernel
theorem dX7_same_36 : decode cX7_same 36 = .ok (.ifCond .eq 7, 3) := by decide +kernel
theorem dX7_same_39 : decode cX7_same 39 = .ok (.iconst 1, 1) := by decide +kernel
theorem dX7_same_40 : decode cX7_same 40 = .ok (.goto 4, 3) := by decide +kernel
theorem dX7_same_43 : decode cX7_same 43 = .ok (.iconst 0, 1) := by decide +kernel
theorem dX7_same_44 : decode cX7_same 44 = .ok (.ireturn, 1) := by decide +kernel
set_option maxRecDepth 20000 in
theorem ggX7_many_X0_here : GoodIn wsX7_many wsX0_here := goodIn_r _ [9, 10, 11, 25, 26, 22, 23, 24] (by decide +kernel) (by decide +kernel)
set_option maxRecDepth 20000 in
theorem gX7_many_X0_here_n123 : GoodIn wsX7_many (wsX0_here) := ggX7_many_X0_here
theorem dX7_many_0 : decode cX7_many 0 = .ok (.iload_n 1, 1) := by decide +kernel
theorem dX7_many_1 : decode cX7_many 1 = .ok (.tableswitch 82 0 5 #[39, 47, 52, 60, 65, 77], 39) := by decide +kernel
theorem dX7_many_40 : decode cX7_many 40 = .ok (.aload_n 0, 1) := by decide +kernel
theorem dX7_many_41 : decode cX7_many 41 = .ok (.getfield 10, 3) := by decide +kernel
theorem dX7_many_44 : decode cX7_many 44 = .ok (.getfield 69, 3) := by decide +kernel
theorem dX7_many_47 : decode cX7_many 47 = .ok (.ireturn, 1) := by decide +kernel
theorem dX7_many_48 : decode cX7_many 48 = .ok (.aload_n 0, 1) := by decide +kernel
theorem dX7_many_49 : decode cX7_many 49 = .ok (.getfield 62, 3) := by decide +kernel
theorem dX7_many_52 : decode cX7_many 52 = .ok (.ireturn, 1) := by decide +kernel
theorem dX7_many_53 : decode cX7_many 53 = .ok (.aload_n 0, 1) := by decide +kernel
theorem dX7_many_54 : decode cX7_many 54 = .ok (.getfield 25, 3) := by decide +kernel
theorem dX7_many_57 : decode cX7_many 57 = .ok (.getfield 127, 3) := by decide +kernel
theorem dX7_many_60 : decode cX7_many 60 = .ok (.ireturn, 1) := by decide +kernel
theorem dX7_many_61 : decode cX7_many 61 = .ok (.aload_n 0, 1) := by decide +kernel
theorem dX7_many_62 : decode cX7_many 62 = .ok (.getfield 145, 3) := by decide +kernel
theorem dX7_many_65 : decode cX7_many 65 = .ok (.ireturn, 1) := by decide +kernel
theorem dX7_many_66 : decode cX7_many 66 = .ok (.aload_n 0, 1) := by decide +kernel
theorem dX7_many_67 : decode cX7_many 67 = .ok (.getfield 25, 3) := by decide +kernel
theorem dX7_many_70 : decode cX7_many 70 = .ok (.aload_n 0, 1) := by decide +kernel
theorem dX7_many_71 : decode cX7_many 71 = .ok (.getfield 10, 3) := by decide +kernel
theorem dX7_many_74 : decode cX7_many 74 = .ok (.invokevirtual 123, 3) := by decide +kernel
theorem dX7_many_77 : decode cX7_many 77 = .ok (.ireturn, 1) := by decide +kernel
theorem dX7_many_78 : decode cX7_many 78 = .ok (.aload_n 0, 1) := by decide +kernel
theorem dX7_many_79 : decode cX7_many 79 = .ok (.getfield 49, 3) := by decide +kernel
theorem dX7_many_82 : decode cX7_many 82 = .ok (.ireturn, 1) := by decide +kernel
theorem dX7_many_83 : decode cX7_many 83 = .ok (.bipush (-2), 2) := by decide +kernel
theorem dX7_many_85 : decode cX7_many 85 = .ok (.ireturn, 1) := by decide +kernel
theorem dX7_isRoutine_0 : decode cX7_isRoutine 0 = .ok (.iload_n 0, 1) := by decide +kernel
theorem dX7_isRoutine_1 : decode cX7_isRoutine 1 = .ok (.ifCond .lt 13, 3) := by decide +kernel
theorem dX7_isRoutine_4 : decode cX7_isRoutine 4 = .ok (.iload_n 0, 1) := by decide +kernel
theorem dX7_isRoutine_5 : decode cX7_isRoutine 5 = .ok (.bipush 10, 2) := by decide +kernel
theorem dX7_isRoutine_7 : decode cX7_isRoutine 7 = .ok (.if_icmp .ge 7, 3) := by decide +kernel
theorem dX7_isRoutine_10 : decode cX7_isRoutine 10 = .ok (.iconst 1, 1) := by decide +kernel
theorem dX7_isRoutine_11 : decode cX7_isRoutine 11 = .ok (.goto 4, 3) := by decide +kernel
theorem dX7_isRoutine_14 : decode cX7_isRoutine 14 = .ok (.iconst 0, 1) := by decide +kernel
theorem dX7_isRoutine_15 : decode cX7_isRoutine 15 = .ok (.ireturn, 1) := by decide +kernel
theorem dX7_isCall_0 : decode cX7_isCall 0 = .ok (.iload_n 1, 1) := by decide +kernel
theorem dX7_isCall_1 : decode cX7_isCall 1 = .ok (.ifCond .lt 18, 3) := by decide +kernel
theorem dX7_isCall_4 : decode cX7_isCall 4 = .ok (.iload_n 1, 1) := by decide +kernel
theorem dX7_isCall_5 : decode cX7_isCall 5 = .ok (.aload_n 0, 1) := by decide +kernel
theorem dX7_isCall_6 : decode cX7_isCall 6 = .ok (.getfield 10, 3) := by decide +kernel
theorem dX7_isCall_9 : decode cX7_isCall 9 = .ok (.getfield 69, 3) := by decide +kernel
theorem dX7_isCall_12 : decode cX7_isCall 12 = .ok (.if_icmp .ge 7, 3) := by decide +kernel
theorem dX7_isCall_15 : decode cX7_isCall 15 = .ok (.iconst 1, 1) := by decide +kernel
theorem dX7_isCall_16 : decode cX7_isCall 16 = .ok (.goto 4, 3) := by decide +kernel
theorem dX7_isCall_19 : decode cX7_isCall 19 = .ok (.iconst 0, 1) := by decide +kernel
theorem dX7_isCall_20 : decode cX7_isCall 20 = .ok (.ireturn, 1) := by decide +kernel
theorem dX7_planOf_0 : decode cX7_planOf 0 = .ok (.iload_n 1, 1) := by decide +kernel
theorem dX7_planOf_1 : decode cX7_planOf 1 = .ok (.ifCond .lt 26, 3) := by decide +kernel
theorem dX7_planOf_4 : decode cX7_planOf 4 = .ok (.iload_n 1, 1) := by decide +kernel
theorem dX7_planOf_5 : decode cX7_planOf 5 = .ok (.aload_n 0, 1) := by decide +kernel
theorem dX7_planOf_6 : decode cX7_planOf 6 = .ok (.getfield 62, 3) := by decide +kernel
theorem dX7_planOf_9 : decode cX7_planOf 9 = .ok (.if_icmp .ge 18, 3) := by decide +kernel
theorem dX7_planOf_12 : decode cX7_planOf 12 = .ok (.iload_n 1, 1) := by decide +kernel
theorem dX7_planOf_13 : decode cX7_planOf 13 = .ok (.bipush 8, 2) := by decide +kernel
theorem dX7_planOf_15 : decode cX7_planOf 15 = .ok (.if_icmp .ge 12, 3) := by decide +kernel
theorem dX7_planOf_18 : decode cX7_planOf 18 = .ok (.aload_n 0, 1) := by decide +kernel
theorem dX7_planOf_19 : decode cX7_planOf 19 = .ok (.getfield 18, 3) := by decide +kernel
theorem dX7_planOf_22 : decode cX7_planOf 22 = .ok (.iload_n 1, 1) := by decide +kernel
theorem dX7_planOf_23 : decode cX7_planOf 23 = .ok (.aaload, 1) := by decide +kernel
theorem dX7_planOf_24 : decode cX7_planOf 24 = .ok (.goto 4, 3) := by decide +kernel
theorem dX7_planOf_27 : decode cX7_planOf 27 = .ok (.aconst_null, 1) := by decide +kernel
theorem dX7_planOf_28 : decode cX7_planOf 28 = .ok (.areturn, 1) := by decide +kernel
theorem dX7_snapOf_0 : decode cX7_snapOf 0 = .ok (.iload_n 1, 1) := by decide +kernel
theorem dX7_snapOf_1 : decode cX7_snapOf 1 = .ok (.ifCond .lt 26, 3) := by decide +kernel
theorem dX7_snapOf_4 : decode cX7_snapOf 4 = .ok (.iload_n 1, 1) := by decide +kernel
theorem dX7_snapOf_5 : decode cX7_snapOf 5 = .ok (.aload_n 0, 1) := by decide +kernel
theorem dX7_snapOf_6 : decode cX7_snapOf 6 = .ok (.getfield 145, 3) := by decide +kernel
theorem dX7_snapOf_9 : decode cX7_snapOf 9 = .ok (.if_icmp .ge 18, 3) := by decide +kernel
theorem dX7_snapOf_12 : decode cX7_snapOf 12 = .ok (.iload_n 1, 1) := by decide +kernel
theorem dX7_snapOf_13 : decode cX7_snapOf 13 = .ok (.bipush 10, 2) := by decide +kernel
theorem dX7_snapOf_15 : decode cX7_snapOf 15 = .ok (.if_icmp .ge 12, 3) := by decide +kernel
theorem dX7_snapOf_18 : decode cX7_snapOf 18 = .ok (.aload_n 0, 1) := by decide +kernel
theorem dX7_snapOf_19 : decode cX7_snapOf 19 = .ok (.getfield 31, 3) := by decide +kernel
theorem dX7_snapOf_22 : decode cX7_snapOf 22 = .ok (.iload_n 1, 1) := by decide +kernel
theorem dX7_snapOf_23 : decode cX7_snapOf 23 = .ok (.aaload, 1) := by decide +kernel
theorem dX7_snapOf_24 : decode cX7_snapOf 24 = .ok (.goto 4, 3) := by decide +kernel
theorem dX7_snapOf_27 : decode cX7_snapOf 27 = .ok (.aconst_null, 1) := by decide +kernel
theorem dX7_snapOf_28 : decode cX7_snapOf 28 = .ok (.areturn, 1) := by decide +kernel
theorem dX7_has_0 : decode cX7_has 0 = .ok (.iload_n 0, 1) := by decide +kernel
theorem dX7_has_1 : decode cX7_has 1 = .ok (.iload_n 1, 1) := by decide +kernel
theorem dX7_has_2 : decode cX7_has 2 = .ok (.ishr, 1) := by decide +kernel
theorem dX7_has_3 : decode cX7_has 3 = .ok (.iconst 1, 1) := by decide +kernel
theorem dX7_has_4 : decode cX7_has 4 = .ok (.iand, 1) := by decide +kernel
theorem dX7_has_5 : decode cX7_has 5 = .ok (.iconst 1, 1) := by decide +kernel
theorem dX7_has_6 : decode cX7_has 6 = .ok (.if_icmp .ne 7, 3) := by decide +kernel
theorem dX7_has_9 : decode cX7_has 9 = .ok (.iconst 1, 1) := by decide +kernel
theorem dX7_has_10 : decode cX7_has 10 = .ok (.goto 4, 3) := by decide +kernel
theorem dX7_has_13 : decode cX7_has 13 = .ok (.iconst 0, 1) := by decide +kernel
theorem dX7_has_14 : decode cX7_has 14 = .ok (.ireturn, 1) := by decide +kernel
theorem dX7_sameRows_0 : decode cX7_sameRows 0 = .ok (.aload_n 0, 1) := by decide +kernel
theorem dX7_sameRows_1 : decode cX7_sameRows 1 = .ok (.arraylength, 1) := by decide +kernel
theorem dX7_sameRows_2 : decode cX7_sameRows 2 = .ok (.aload_n 1, 1) := by decide +kernel
theorem dX7_sameRows_3 : decode cX7_sameRows 3 = .ok (.arraylength, 1) := by decide +kernel
theorem dX7_sameRows_4 : decode cX7_sameRows 4 = .ok (.if_icmp .eq 5, 3) := by decide +kernel
theorem dX7_sameRows_7 : decode cX7_sameRows 7 = .ok (.iconst 0, 1) := by decide +kernel
theorem dX7_sameRows_8 : decode cX7_sameRows 8 = .ok (.ireturn, 1) := by decide +kernel
theorem dX7_sameRows_9 : decode cX7_sameRows 9 = .ok (.iconst 0, 1) := by decide +kernel
theorem dX7_sameRows_10 : decode cX7_sameRows 10 = .ok (.istore_n 2, 1) := by decide +kernel
theorem dX7_sameRows_11 : decode cX7_sameRows 11 = .ok (.iload_n 2, 1) := by decide +kernel
theorem dX7_sameRows_12 : decode cX7_sameRows 12 = .ok (.aload_n 0, 1) := by decide +kernel
theorem dX7_sameRows_13 : decode cX7_sameRows 13 = .ok (.arraylength, 1) := by decide +kernel
theorem dX7_sameRows_14 : decode cX7_sameRows 14 = .ok (.if_icmp .ge 20, 3) := by decide +kernel
theorem dX7_sameRows_17 : decode cX7_sameRows 17 = .ok (.aload_n 0, 1) := by decide +kernel
theorem dX7_sameRows_18 : decode cX7_sameRows 18 = .ok (.iload_n 2, 1) := by decide +kernel
theorem dX7_sameRows_19 : decode cX7_sameRows 19 = .ok (.iaload, 1) := by decide +kernel
theorem dX7_sameRows_20 : decode cX7_sameRows 20 = .ok (.aload_n 1, 1) := by decide +kernel
theorem dX7_sameRows_21 : decode cX7_sameRows 21 = .ok (.iload_n 2, 1) := by decide +kernel
theorem dX7_sameRows_22 : decode cX7_sameRows 22 = .ok (.iaload, 1) := by decide +kernel
theorem dX7_sameRows_23 : decode cX7_sameRows 23 = .ok (.if_icmp .eq 5, 3) := by decide +kernel
theorem dX7_sameRows_26 : decode cX7_sameRows 26 = .ok (.iconst 0, 1) := by decide +kernel
theorem dX7_sameRows_27 : decode cX7_sameRows 27 = .ok (.ireturn, 1) := by decide +kernel
theorem dX7_sameRows_28 : decode cX7_sameRows 28 = .ok (.iinc 2 1, 3) := by decide +kernel
theorem dX7_sameRows_31 : decode cX7_sameRows 31 = .ok (.goto (-20), 3) := by decide +kernel
theorem dX7_sameRows_34 : decode cX7_sameRows 34 = .ok (.iconst 1, 1) := by decide +kernel
theorem dX7_sameRows_35 : decode cX7_sameRows 35 = .ok (.ireturn, 1) := by decide +kernel
end
section
set_option maxRecDepth 20000 in
theorem ggX8_init_X8_makesPlan : GoodIn wsX8_init wsX8_makesPlan := goodIn_r _ [29, 8, 30, 31, 32, 33, 34, 28, 35, 36, 37, 15, 16, 5, 38, 39, 40, 41, 9, 42, 43, 44, 45, 6, 11, 46, 47, 48, 49, 50, 51, 52, 13, 53, 54, 55, 56, 10, 7, 57, 58, 59, 60, 61, 62, 63, 64, 12, 14, 65, 66, 67, 68, 69, 70, 71, 72, 73, 74, 75, 76, 77, 78, 79, 80, 81, 82, 83, 84, 85, 86, 87, 88, 89, 90, 91, 92] (by decide +kernel) (by decide +kernel)
set_option maxRecDepth 20000 in
theorem gX8_init_X8_makesPlan : GoodIn wsX8_init (wsV RX8 71 RX8 yX8_makesPlan wsX8_makesPlan) := goodIn_app (goodIn_of _ (by decide +kernel)) ggX8_init_X8_makesPlan
theorem dX8_init_0 : decode cX8_init 0 = .ok (.aload_n 0, 1) := by decide +kernel
theorem dX8_init_1 : decode cX8_init 1 = .ok (.invokespecial 1, 3) := by decide +kernel
theorem dX8_init_4 : decode cX8_init 4 = .ok (.aload_n 0, 1) := by decide +kernel
theorem dX8_init_5 : decode cX8_init 5 = .ok (.bipush 24, 2) := by decide +kernel
theorem dX8_init_7 : decode cX8_init 7 = .ok (.newarray .int, 2) := by decide +kernel
theorem dX8_init_9 : decode cX8_init 9 = .ok (.putfield 7, 3) := by decide +kernel
theorem dX8_init_12 : decode cX8_init 12 = .ok (.aload_n 0, 1) := by decide +kernel
theorem dX8_init_13 : decode cX8_init 13 = .ok (.bipush 24, 2) := by decide +kernel
theorem dX8_init_15 : decode cX8_init 15 = .ok (.newarray .int, 2) := by decide +kernel
theorem dX8_init_17 : decode cX8_init 17 = .ok (.putfield 13, 3) := by decide +kernel
theorem dX8_init_20 : decode cX8_init 20 = .ok (.aload_n 0, 1) := by decide +kernel
theorem dX8_init_21 : decode cX8_init 21 = .ok (.sipush 1000, 3) := by decide +kernel
theorem dX8_init_24 : decode cX8_init 24 = .ok (.putfield 16, 3) := by decide +kernel
theorem dX8_init_27 : decode cX8_init 27 = .ok (.aload_n 0, 1) := by decide +kernel
theorem dX8_init_28 : decode cX8_init 28 = .ok (.bipush 8, 2) := by decide +kernel
theorem dX8_init_30 : decode cX8_init 30 = .ok (.newarray .int, 2) := by decide +kernel
theorem dX8_init_32 : decode cX8_init 32 = .ok (.putfield 20, 3) := by decide +kernel
theorem dX8_init_35 : decode cX8_init 35 = .ok (.aload_n 0, 1) := by decide +kernel
theorem dX8_init_36 : decode cX8_init 36 = .ok (.bipush 8, 2) := by decide +kernel
theorem dX8_init_38 : decode cX8_init 38 = .ok (.newarray .int, 2) := by decide +kernel
theorem dX8_init_40 : decode cX8_init 40 = .ok (.putfield 23, 3) := by decide +kernel
theorem dX8_init_43 : decode cX8_init 43 = .ok (.aload_n 0, 1) := by decide +kernel
theorem dX8_init_44 : decode cX8_init 44 = .ok (.bipush 8, 2) := by decide +kernel
theorem dX8_init_46 : decode cX8_init 46 = .ok (.newarray .int, 2) := by decide +kernel
theorem dX8_init_48 : decode cX8_init 48 = .ok (.putfield 26, 3) := by decide +kernel
theorem dX8_init_51 : decode cX8_init 51 = .ok (.aload_n 0, 1) := by decide +kernel
theorem dX8_init_52 : decode cX8_init 52 = .ok (.bipush 8, 2) := by decide +kernel
theorem dX8_init_54 : decode cX8_init 54 = .ok (.newarray .int, 2) := by decide +kernel
theorem dX8_init_56 : decode cX8_init 56 = .ok (.putfield 29, 3) := by decide +kernel
theorem dX8_init_59 : decode cX8_init 59 = .ok (.aload_n 0, 1) := by decide +kernel
theorem dX8_init_60 : decode cX8_init 60 = .ok (.bipush 8, 2) := by decide +kernel
theorem dX8_init_62 : decode cX8_init 62 = .ok (.newarray .int, 2) := by decide +kernel
theorem dX8_init_64 : decode cX8_init 64 = .ok (.putfield 32, 3) := by decide +kernel
theorem dX8_init_67 : decode cX8_init 67 = .ok (.aload_n 0, 1) := by decide +kernel
theorem dX8_init_68 : decode cX8_init 68 = .ok (.bipush 80, 2) := by decide +kernel
theorem dX8_init_70 : decode cX8_init 70 = .ok (.newarray .int, 2) := by decide +kernel
theorem dX8_init_72 : decode cX8_init 72 = .ok (.putfield 35, 3) := by decide +kernel
theorem dX8_init_75 : decode cX8_init 75 = .ok (.aload_n 0, 1) := by decide +kernel
theorem dX8_init_76 : decode cX8_init 76 = .ok (.sipush 192, 3) := by decide +kernel
theorem dX8_init_79 : decode cX8_init 79 = .ok (.newarray .int, 2) := by decide +kernel
theorem dX8_init_81 : decode cX8_init 81 = .ok (.putfield 38, 3) := by decide +kernel
theorem dX8_init_84 : decode cX8_init 84 = .ok (.aload_n 0, 1) := by decide +kernel
theorem dX8_init_85 : decode cX8_init 85 = .ok (.bipush 10, 2) := by decide +kernel
theorem dX8_init_87 : decode cX8_init 87 = .ok (.newarray .int, 2) := by decide +kernel
theorem dX8_init_89 : decode cX8_init 89 = .ok (.putfield 41, 3) := by decide +kernel
theorem dX8_init_92 : decode cX8_init 92 = .ok (.aload_n 0, 1) := by decide +kernel
theorem dX8_init_93 : decode cX8_init 93 = .ok (.bipush 10, 2) := by decide +kernel
theorem dX8_init_95 : decode cX8_init 95 = .ok (.newarray .int, 2) := by decide +kernel
theorem dX8_init_97 : decode cX8_init 97 = .ok (.putfield 44, 3) := by decide +kernel
theorem dX8_init_100 : decode cX8_init 100 = .ok (.aload_n 0, 1) := by decide +kernel
theorem dX8_init_101 : decode cX8_init 101 = .ok (.bipush 10, 2) := by decide +kernel
theorem dX8_init_103 : decode cX8_init 103 = .ok (.newarray .int, 2) := by decide +kernel
theorem dX8_init_105 : decode cX8_init 105 = .ok (.putfield 47, 3) := by decide +kernel
theorem dX8_init_108 : decode cX8_init 108 = .ok (.aload_n 0, 1) := by decide +kernel
theorem dX8_init_109 : decode cX8_init 109 = .ok (.bipush 30, 2) := by decide +kernel
theorem dX8_init_111 : decode cX8_init 111 = .ok (.newarray .int, 2) := by decide +kernel
theorem dX8_init_113 : decode cX8_init 113 = .ok (.putfield 50, 3) := by decide +kernel
theorem dX8_init_116 : decode cX8_init 116 = .ok (.aload_n 0, 1) := by decide +kernel
theorem dX8_init_117 : decode cX8_init 117 = .ok (.bipush 31, 2) := by decide +kernel
theorem dX8_init_119 : decode cX8_init 119 = .ok (.newarray .int, 2) := by decide +kernel
theorem dX8_init_121 : decode cX8_init 121 = .ok (.putfield 53, 3) := by decide +kernel
theorem dX8_init_124 : decode cX8_init 124 = .ok (.aload_n 0, 1) := by decide +kernel
theorem dX8_init_125 : decode cX8_init 125 = .ok (.bipush 31, 2) := by decide +kernel
theorem dX8_init_127 : decode cX8_init 127 = .ok (.newarray .int, 2) := by decide +kernel
theorem dX8_init_129 : decode cX8_init 129 = .ok (.putfield 56, 3) := by decide +kernel
theorem dX8_init_132 : decode cX8_init 132 = .ok (.aload_n 0, 1) := by decide +kernel
theorem dX8_init_133 : decode cX8_init 133 = .ok (.bipush 31, 2) := by decide +kernel
theorem dX8_init_135 : decode cX8_init 135 = .ok (.newarray .int, 2) := by decide +kernel
theorem dX8_init_137 : decode cX8_init 137 = .ok (.putfield 59, 3) := by decide +kernel
theorem dX8_init_140 : decode cX8_init 140 = .ok (.aload_n 0, 1) := by decide +kernel
theorem dX8_init_141 : decode cX8_init 141 = .ok (.bipush 10, 2) := by decide +kernel
theorem dX8_init_143 : decode cX8_init 143 = .ok (.newarray .int, 2) := by decide +kernel
theorem dX8_init_145 : decode cX8_init 145 = .ok (.putfield 62, 3) := by decide +kernel
theorem dX8_init_148 : decode cX8_init 148 = .ok (.aload_n 0, 1) := by decide +kernel
theorem dX8_init_149 : decode cX8_init 149 = .ok (.bipush 10, 2) := by decide +kernel
theorem dX8_init_151 : decode cX8_init 151 = .ok (.newarray .int, 2) := by decide +kernel
theorem dX8_init_153 : decode cX8_init 153 = .ok (.putfield 65, 3) := by decide +kernel
theorem dX8_init_156 : decode cX8_init 156 = .ok (.aload_n 0, 1) := by decide +kernel
theorem dX8_init_157 : decode cX8_init 157 = .ok (.sipush 300, 3) := by decide +kernel
theorem dX8_init_160 : decode cX8_init 160 = .ok (.newarray .int, 2) := by decide +kernel
theorem dX8_init_162 : decode cX8_init 162 = .ok (.putfield 68, 3) := by decide +kernel
theorem dX8_init_165 : decode cX8_init 165 = .ok (.aload_n 0, 1) := by decide +kernel
theorem dX8_init_166 : decode cX8_init 166 = .ok (.invokevirtual 71, 3) := by decide +kernel
theorem dX8_init_169 : decode cX8_init 169 = .ok (.return_, 1) := by decide +kernel
theorem dX8_within_0 : decode cX8_within 0 = .ok (.iload_n 0, 1) := by decide +kernel
theorem dX8_within_1 : decode cX8_within 1 = .ok (.iload_n 1, 1) := by decide +kernel
theorem dX8_within_2 : decode cX8_within 2 = .ok (.if_icmp .lt 12, 3) := by decide +kernel
theorem dX8_within_5 : decode cX8_within 5 = .ok (.iload_n 0, 1) := by decide +kernel
theorem dX8_within_6 : decode cX8_within 6 = .ok (.iload_n 2, 1) := by decide +kernel
theorem dX8_within_7 : decode cX8_within 7 = .ok (.if_icmp .gt 7, 3) := by decide +kernel
theorem dX8_within_10 : decode cX8_within 10 = .ok (.iconst 1, 1) := by decide +kernel
theorem dX8_within_11 : decode cX8_within 11 = .ok (.goto 4, 3) := by decide +kernel
theorem dX8_within_14 : decode cX8_within 14 = .ok (.iconst 0, 1) := by decide +kernel
theorem dX8_within_15 : decode cX8_within 15 = .ok (.ireturn, 1) := by decide +kernel
theorem dX8_has_0 : decode cX8_has 0 = .ok (.iload_n 0, 1) := by decide +kernel
theorem dX8_has_1 : decode cX8_has 1 = .ok (.iload_n 1, 1) := by decide +kernel
theorem dX8_has_2 : decode cX8_has 2 = .ok (.ishr, 1) := by decide +kernel
theorem dX8_has_3 : decode cX8_has 3 = .ok (.iconst 1, 1) := by decide +kernel
theorem dX8_has_4 : decode cX8_has 4 = .ok (.iand, 1) := by decide +kernel
theorem dX8_has_5 : decode cX8_has 5 = .ok (.iconst 1, 1) := by decide +kernel
theorem dX8_has_6 : decode cX8_has 6 = .ok (.if_icmp .ne 7, 3) := by decide +kernel
theorem dX8_has_9 : decode cX8_has 9 = .ok (.iconst 1, 1) := by decide +kernel
theorem dX8_has_10 : decode cX8_has 10 = .ok (.goto 4, 3) := by decide +kernel
theorem dX8_has_13 : decode cX8_has 13 = .ok (.iconst 0, 1) := by decide +kernel
theorem dX8_has_14 : decode cX8_has 14 = .ok (.ireturn, 1) := by decide +kernel
set_option maxRecDepth 20000 in
theorem ggX8_isRoutine_X8_within : GoodIn wsX8_isRoutine wsX8_within := goodIn_r _ [4] (by decide +kernel) (by decide +kernel)
set_option maxRecDepth 20000 in
theorem gX8_isRoutine_X8_within : GoodIn wsX8_isRoutine (va_wsS RX8 74 yX8_within wsX8_within) := goodIn_app (goodIn_of _ (by decide +kernel)) ggX8_isRoutine_X8_within
theorem dX8_isRoutine_0 : decode cX8_isRoutine 0 = .ok (.iload_n 0, 1) := by decide +kernel
theorem dX8_isRoutine_1 : decode cX8_isRoutine 1 = .ok (.iconst 0, 1) := by decide +kernel
theorem dX8_isRoutine_2 : decode cX8_isRoutine 2 = .ok (.bipush 9, 2) := by decide +kernel
theorem dX8_isRoutine_4 : decode cX8_isRoutine 4 = .ok (.invokestatic 74, 3) := by decide +kernel
theorem dX8_isRoutine_7 : decode cX8_isRoutine 7 = .ok (.ireturn, 1) := by decide +kernel
set_option maxRecDepth 20000 in
theorem ggX8_isCall_X8_within : GoodIn wsX8_isCall wsX8_within := goodIn_r _ [5] (by decide +kernel) (by decide +kernel)
set_option maxRecDepth 20000 in
theorem gX8_isCall_X8_within : GoodIn wsX8_isCall (va_wsS RX8 74 yX8_within wsX8_within) := goodIn_app (goodIn_of _ (by decide +kernel)) ggX8_isCall_X8_within
theorem dX8_isCall_0 : decode cX8_isCall 0 = .ok (.iload_n 1, 1) := by decide +kernel
theorem dX8_isCall_1 : decode cX8_isCall 1 = .ok (.iconst 0, 1) := by decide +kernel
theorem dX8_isCall_2 : decode cX8_isCall 2 = .ok (.aload_n 0, 1) := by decide +kernel
theorem dX8_isCall_3 : decode cX8_isCall 3 = .ok (.getfield 78, 3) := by decide +kernel
theorem dX8_isCall_6 : decode cX8_isCall 6 = .ok (.iconst 1, 1) := by decide +kernel
theorem dX8_isCall_7 : decode cX8_isCall 7 = .ok (.isub, 1) := by decide +kernel
theorem dX8_isCall_8 : decode cX8_isCall 8 = .ok (.invokestatic 74, 3) := by decide +kernel
theorem dX8_isCall_11 : decode cX8_isCall 11 = .ok (.ireturn, 1) := by decide +kernel
set_option maxRecDepth 20000 in
theorem ggX8_add_X8_isRoutine : GoodIn wsX8_add wsX8_isRoutine := goodIn_r _ [7, 8, 9, 6, 10] (by decide +kernel) (by decide +kernel)
set_option maxRecDepth 20000 in
theorem gX8_add_X8_isRoutine : GoodIn wsX8_add (va_wsS RX8 81 yX8_isRoutine wsX8_isRoutine) := goodIn_app (goodIn_of _ (by decide +kernel)) ggX8_add_X8_isRoutine
theorem dX8_add_0 : decode cX8_add 0 = .ok (.iload_n 1, 1) := by decide +kernel
theorem dX8_add_1 : decode cX8_add 1 = .ok (.invokestatic 81, 3) := by decide +kernel
theorem dX8_add_4 : decode cX8_add 4 = .ok (.ifCond .eq 10, 3) := by decide +kernel
theorem dX8_add_7 : decode cX8_add 7 = .ok (.iload_n 2, 1) := by decide +kernel
theorem dX8_add_8 : decode cX8_add 8 = .ok (.invokestatic 81, 3) := by decide +kernel
theorem dX8_add_11 : decode cX8_add 11 = .ok (.ifCond .ne 5, 3) := by decide +kernel
theorem dX8_add_14 : decode cX8_add 14 = .ok (.iconst (-1), 1) := by decide +kernel
theorem dX8_add_15 : decode cX8_add 15 = .ok (.ireturn, 1) := by decide +kernel
theorem dX8_add_16 : decode cX8_add 16 = .ok (.aload_n 0, 1) := by decide +kernel
theorem dX8_add_17 : decode cX8_add 17 = .ok (.getfield 78, 3) := by decide +kernel
theorem dX8_add_20 : decode cX8_add 20 = .ok (.bipush 24, 2) := by decide +kernel
theorem dX8_add_22 : decode cX8_add 22 = .ok (.if_icmp .ne 6, 3) := by decide +kernel
theorem dX8_add_25 : decode cX8_add 25 = .ok (.bipush (-4), 2) := by decide +kernel
theorem dX8_add_27 : decode cX8_add 27 = .ok (.ireturn, 1) := by decide +kernel
theorem dX8_add_28 : decode cX8_add 28 = .ok (.aload_n 0, 1) := by decide +kernel
theorem dX8_add_29 : decode cX8_add 29 = .ok (.getfield 7, 3) := by decide +kernel
theorem dX8_add_32 : decode cX8_add 32 = .ok (.aload_n 0, 1) := by decide +kernel
theorem dX8_add_33 : decode cX8_add 33 = .ok (.getfield 78, 3) := by decide +kernel
theorem dX8_add_36 : decode cX8_add 36 = .ok (.iload_n 1, 1) := by decide +kernel
theorem dX8_add_37 : decode cX8_add 37 = .ok (.iastore, 1) := by decide +kernel
theorem dX8_add_38 : decode cX8_add 38 = .ok (.aload_n 0, 1) := by decide +kernel
theorem dX8_add_39 : decode cX8_add 39 = .ok (.getfield 13, 3) := by decide +kernel
theorem dX8_add_42 : decode cX8_add 42 = .ok (.aload_n 0, 1) := by decide +kernel
theorem dX8_add_43 : decode cX8_add 43 = .ok (.getfield 78, 3) := by decide +kernel
theorem dX8_add_46 : decode cX8_add 46 = .ok (.iload_n 2, 1) := by decide +kernel
theorem dX8_add_47 : decode cX8_add 47 = .ok (.iastore, 1) := by decide +kernel
theorem dX8_add_48 : decode cX8_add 48 = .ok (.aload_n 0, 1) := by decide +kernel
theorem dX8_add_49 : decode cX8_add 49 = .ok (.dup, 1) := by decide +kernel
theorem dX8_add_50 : decode cX8_add 50 = .ok (.getfield 78, 3) := by decide +kernel
theorem dX8_add_53 : decode cX8_add 53 = .ok (.iconst 1, 1) := by decide +kernel
theorem dX8_add_54 : decode cX8_add 54 = .ok (.iadd, 1) := by decide +kernel
theorem dX8_add_55 : decode cX8_add 55 = .ok (.putfield 78, 3) := by decide +kernel
theorem dX8_add_58 : decode cX8_add 58 = .ok (.aload_n 0, 1) := by decide +kernel
theorem dX8_add_59 : decode cX8_add 59 = .ok (.getfield 78, 3) := by decide +kernel
theorem dX8_add_62 : decode cX8_add 62 = .ok (.iconst 1, 1) := by decide +kernel
theorem dX8_add_63 : decode cX8_add 63 = .ok (.isub, 1) := by decide +kernel
theorem dX8_add_64 : decode cX8_add 64 = .ok (.ireturn, 1) := by decide +kernel
set_option maxRecDepth 20000 in
theorem ggX8_ofCall_X8_isCall : GoodIn wsX8_ofCall wsX8_isCall := goodIn_r _ [7, 8, 9, 10, 6, 11, 12, 13, 14, 15, 16, 17, 18, 19, 20, 21, 22, 23, 24, 25, 26, 27, 28, 29, 30, 31, 32, 33, 34, 35, 36, 37, 38, 39] (by decide +kernel) (by decide +kernel)
set_option maxRecDepth 20000 in
theorem gX8_ofCall_X8_isCall : GoodIn wsX8_ofCall (wsV RX8 85 RX8 yX8_isCall wsX8_isCall) := goodIn_app (goodIn_of _ (by decide +kernel)) ggX8_ofCall_X8_isCall
theorem dX8_ofCall_0 : decode cX8_ofCall 0 = .ok (.aload_n 0, 1) := by decide +kernel
theorem dX8_ofCall_1 : decode cX8_ofCall 1 = .ok (.iload_n 1, 1) := by decide +kernel
theorem dX8_ofCall_2 : decode cX8_ofCall 2 = .ok (.invokevirtual 85, 3) := by decide +kernel
theorem dX8_ofCall_5 : decode cX8_ofCall 5 = .ok (.ifCond .ne 5, 3) := by decide +kernel
theorem dX8_ofCall_8 : decode cX8_ofCall 8 = .ok (.iconst (-1), 1) := by decide +kernel
theorem dX8_ofCall_9 : decode cX8_ofCall 9 = .ok (.ireturn, 1) := by decide +kernel
theorem dX8_ofCall_10 : decode cX8_ofCall 10 = .ok (.iload_n 2, 1) := by decide +kernel
theorem dX8_ofCall_11 : decode cX8_ofCall 11 = .ok (.ifCond .ne 12, 3) := by decide +kernel
theorem dX8_ofCall_14 : decode cX8_ofCall 14 = .ok (.aload_n 0, 1) := by decide +kernel
theorem dX8_ofCall_15 : decode cX8_ofCall 15 = .ok (.getfield 7, 3) := by decide +kernel
theorem dX8_ofCall_18 : decode cX8_ofCall 18 = .ok (.iload_n 1, 1) := by decide +kernel
theorem dX8_ofCall_19 : decode cX8_ofCall 19 = .ok (.iaload, 1) := by decide +kernel
theorem dX8_ofCall_20 : decode cX8_ofCall 20 = .ok (.goto 19, 3) := by decide +kernel
theorem dX8_ofCall_23 : decode cX8_ofCall 23 = .ok (.iload_n 2, 1) := by decide +kernel
theorem dX8_ofCall_24 : decode cX8_ofCall 24 = .ok (.iconst 1, 1) := by decide +kernel
theorem dX8_ofCall_25 : decode cX8_ofCall 25 = .ok (.if_icmp .ne 12, 3) := by decide +kernel
theorem dX8_ofCall_28 : decode cX8_ofCall 28 = .ok (.aload_n 0, 1) := by decide +kernel
theorem dX8_ofCall_29 : decode cX8_ofCall 29 = .ok (.getfield 13, 3) := by decide +kernel
theorem dX8_ofCall_32 : decode cX8_ofCall 32 = .ok (.iload_n 1, 1) := by decide +kernel
theorem dX8_ofCall_33 : decode cX8_ofCall 33 = .ok (.iaload, 1) := by decide +kernel
theorem dX8_ofCall_34 : decode cX8_ofCall 34 = .ok (.goto 5, 3) := by decide +kernel
theorem dX8_ofCall_37 : decode cX8_ofCall 37 = .ok (.bipush (-2), 2) := by decide +kernel
theorem dX8_ofCall_39 : decode cX8_ofCall 39 = .ok (.ireturn, 1) := by decide +kernel
set_option maxRecDepth 20000 in
theorem ggX8_limit_X8_within : GoodIn wsX8_limit wsX8_within := goodIn_r _ [6] (by decide +kernel) (by decide +kernel)
set_option maxRecDepth 20000 in
theorem gX8_limit_X8_within : GoodIn wsX8_limit (va_wsS RX8 74 yX8_within wsX8_within) := goodIn_app (goodIn_of _ (by decide +kernel)) ggX8_limit_X8_within
theorem dX8_limit_0 : decode cX8_limit 0 = .ok (.iload_n 1, 1) := by decide +kernel
theorem dX8_limit_1 : decode cX8_limit 1 = .ok (.iconst 1, 1) := by decide +kernel
theorem dX8_limit_2 : decode cX8_limit 2 = .ok (.ldc 88, 2) := by decide +kernel
theorem dX8_limit_4 : decode cX8_limit 4 = .ok (.invokestatic 74, 3) := by decide +kernel
theorem dX8_limit_7 : decode cX8_limit 7 = .ok (.ifCond .ne 6, 3) := by decide +kernel
theorem dX8_limit_10 : decode cX8_limit 10 = .ok (.bipush (-2), 2) := by decide +kernel
theorem dX8_limit_12 : decode cX8_limit 12 = .ok (.ireturn, 1) := by decide +kernel
theorem dX8_limit_13 : decode cX8_limit 13 = .ok (.aload_n 0, 1) := by decide +kernel
theorem dX8_limit_14 : decode cX8_limit 14 = .ok (.getfield 16, 3) := by decide +kernel
theorem dX8_limit_17 : decode cX8_limit 17 = .ok (.istore_n 2, 1) := by decide +kernel
theorem dX8_limit_18 : decode cX8_limit 18 = .ok (.aload_n 0, 1) := by decide +kernel
theorem dX8_limit_19 : decode cX8_limit 19 = .ok (.iload_n 1, 1) := by decide +kernel
theorem dX8_limit_20 : decode cX8_limit 20 = .ok (.putfield 16, 3) := by decide +kernel
theorem dX8_limit_23 : decode cX8_limit 23 = .ok (.iload_n 2, 1) := by decide +kernel
theorem dX8_limit_24 : decode cX8_limit 24 = .ok (.ireturn, 1) := by decide +kernel
set_option maxRecDepth 20000 in
theorem ggX8_isPlan_X8_within : GoodIn wsX8_isPlan wsX8_within := goodIn_r _ [5] (by decide +kernel) (by decide +kernel)
set_option maxRecDepth 20000 in
theorem gX8_isPlan_X8_within : GoodIn wsX8_isPlan (va_wsS RX8 74 yX8_within wsX8_within) := goodIn_app (goodIn_of _ (by decide +kernel)) ggX8_isPlan_X8_within
theorem dX8_isPlan_0 : decode cX8_isPlan 0 = .ok (.iload_n 1, 1) := by decide +kernel
theorem dX8_isPlan_1 : decode cX8_isPlan 1 = .ok (.iconst 0, 1) := by decide +kernel
theorem dX8_isPlan_2 : decode cX8_isPlan 2 = .ok (.aload_n 0, 1) := by decide +kernel
theorem dX8_isPlan_3 : decode cX8_isPlan 3 = .ok (.getfield 89, 3) := by decide +kernel
theorem dX8_isPlan_6 : decode cX8_isPlan 6 = .ok (.iconst 1, 1) := by decide +kernel
theorem dX8_isPlan_7 : decode cX8_isPlan 7 = .ok (.isub, 1) := by decide +kernel
theorem dX8_isPlan_8 : decode cX8_isPlan 8 = .ok (.invokestatic 74, 3) := by decide +kernel
theorem dX8_isPlan_11 : decode cX8_isPlan 11 = .ok (.ireturn, 1) := by decide +kernel
theorem dX8_comesTo_0 : decode cX8_comesTo 0 = .ok (.aload_n 0, 1) := by decide +kernel
theorem dX8_comesTo_1 : decode cX8_comesTo 1 = .ok (.getfield 23, 3) := by decide +kernel
theorem dX8_comesTo_4 : decode cX8_comesTo 4 = .ok (.iload_n 1, 1) := by decide +kernel
theorem dX8_comesTo_5 : decode cX8_comesTo 5 = .ok (.dup2, 1) := by decide +kernel
theorem dX8_comesTo_6 : decode cX8_comesTo 6 = .ok (.iaload, 1) := by decide +kernel
theorem dX8_comesTo_7 : decode cX8_comesTo 7 = .ok (.iconst 1, 1) := by decide +kernel
theorem dX8_comesTo_8 : decode cX8_comesTo 8 = .ok (.iload_n 2, 1) := by decide +kernel
theorem dX8_comesTo_9 : decode cX8_comesTo 9 = .ok (.ishl, 1) := by decide +kernel
theorem dX8_comesTo_10 : decode cX8_comesTo 10 = .ok (.ior, 1) := by decide +kernel
theorem dX8_comesTo_11 : decode cX8_comesTo 11 = .ok (.iastore, 1) := by decide +kernel
theorem dX8_comesTo_12 : decode cX8_comesTo 12 = .ok (.aload_n 0, 1) := by decide +kernel
theorem dX8_comesTo_13 : decode cX8_comesTo 13 = .ok (.dup, 1) := by decide +kernel
theorem dX8_comesTo_14 : decode cX8_comesTo 14 = .ok (.getfield 92, 3) := by decide +kernel
theorem dX8_comesTo_17 : decode cX8_comesTo 17 = .ok (.iconst 1, 1) := by decide +kernel
theorem dX8_comesTo_18 : decode cX8_comesTo 18 = .ok (.iload_n 2, 1) := by decide +kernel
theorem dX8_comesTo_19 : decode cX8_comesTo 19 = .ok (.ishl, 1) := by decide +kernel
theorem dX8_comesTo_20 : decode cX8_comesTo 20 = .ok (.ior, 1) := by decide +kernel
theorem dX8_comesTo_21 : decode cX8_comesTo 21 = .ok (.putfield 92, 3) := by decide +kernel
theorem dX8_comesTo_24 : decode cX8_comesTo 24 = .ok (.aload_n 0, 1) := by decide +kernel
theorem dX8_comesTo_25 : decode cX8_comesTo 25 = .ok (.getfield 41, 3) := by decide +kernel
theorem dX8_comesTo_28 : decode cX8_comesTo 28 = .ok (.aload_n 0, 1) := by decide +kernel
theorem dX8_comesTo_29 : decode cX8_comesTo 29 = .ok (.getfield 95, 3) := by decide +kernel
theorem dX8_comesTo_32 : decode cX8_comesTo 32 = .ok (.iload_n 2, 1) := by decide +kernel
theorem dX8_comesTo_33 : decode cX8_comesTo 33 = .ok (.iastore, 1) := by decide +kernel
theorem dX8_comesTo_34 : decode cX8_comesTo 34 = .ok (.aload_n 0, 1) := by decide +kernel
theorem dX8_comesTo_35 : decode cX8_comesTo 35 = .ok (.getfield 44, 3) := by decide +kernel
theorem dX8_comesTo_38 : decode cX8_comesTo 38 = .ok (.aload_n 0, 1) := by decide +kernel
theorem dX8_comesTo_39 : decode cX8_comesTo 39 = .ok (.getfield 95, 3) := by decide +kernel
theorem dX8_comesTo_42 : decode cX8_comesTo 42 = .ok (.iconst 0, 1) := by decide +kernel
theorem dX8_comesTo_43 : decode cX8_comesTo 43 = .ok (.iastore, 1) := by decide +kernel
theorem dX8_comesTo_44 : decode cX8_comesTo 44 = .ok (.aload_n 0, 1) := by decide +kernel
theorem dX8_comesTo_45 : decode cX8_comesTo 45 = .ok (.dup, 1) := by decide +kernel
theorem dX8_comesTo_46 : decode cX8_comesTo 46 = .ok (.getfield 95, 3) := by decide +kernel
theorem dX8_comesTo_49 : decode cX8_comesTo 49 = .ok (.iconst 1, 1) := by decide +kernel
theorem dX8_comesTo_50 : decode cX8_comesTo 50 = .ok (.iadd, 1) := by decide +kernel
theorem dX8_comesTo_51 : decode cX8_comesTo 51 = .ok (.putfield 95, 3) := by decide +kernel
theorem dX8_comesTo_54 : decode cX8_comesTo 54 = .ok (.return_, 1) := by decide +kernel
set_option maxRecDepth 20000 in
theorem ggX8_goesThrough_X8_comesTo : GoodIn wsX8_goesThrough wsX8_comesTo := goodIn_r _ [11, 12, 2, 3, 1, 4, 22, 23, 24, 25, 26, 27, 28, 29, 30, 31, 32, 33, 34, 35, 36, 37, 38, 39, 40, 41, 42, 43, 44, 45, 46, 47, 48, 49] (by decide +kernel) (by decide +kernel)
set_option maxRecDepth 20000 in
theorem gX8_goesThrough_X8_comesTo : GoodIn wsX8_goesThrough (wsV RX8 98 RX8 yX8_comesTo wsX8_comesTo) := goodIn_app (goodIn_of _ (by decide +kernel)) ggX8_goesThrough_X8_comesTo
set_option maxRecDepth 20000 in
theorem ggX8_goesThrough_X8_goesAlong : GoodIn wsX8_goesThrough wsX8_goesAlong := goodIn_r _ [16, 2, 17, 18, 12, 19, 20, 10, 21, 7, 8, 9, 11, 3, 1, 4, 22, 23, 24, 25, 26, 27, 28, 29, 30, 31, 32, 33, 34, 35, 36, 37, 38, 39, 40, 41, 42, 43, 44, 45, 46, 47, 48, 49] (by decide +kernel) (by decide +kernel)
set_option maxRecDepth 20000 in
theorem gX8_goesThrough_X8_goesAlong : GoodIn wsX8_goesThrough (wsV RX8 102 RX8 yX8_goesAlong wsX8_goesAlong) := goodIn_app (goodIn_of _ (by decide +kernel)) ggX8_goesThrough_X8_goesAlong
theorem dX8_goesThrough_0 : decode cX8_goesThrough 0 = .ok (.aload_n 0, 1) := by decide +kernel
theorem dX8_goesThrough_1 : decode cX8_goesThrough 1 = .ok (.iconst 0, 1) := by decide +kernel
theorem dX8_goesThrough_2 : decode cX8_goesThrough 2 = .ok (.putfield 95, 3) := by decide +kernel
theorem dX8_goesThrough_5 : decode cX8_goesThrough 5 = .ok (.aload_n 0, 1) := by decide +kernel
theorem dX8_goesThrough_6 : decode cX8_goesThrough 6 = .ok (.iconst 0, 1) := by decide +kernel
theorem dX8_goesThrough_7 : decode cX8_goesThrough 7 = .ok (.putfield 92, 3) := by decide +kernel
theorem dX8_goesThrough_10 : decode cX8_goesThrough 10 = .ok (.aload_n 0, 1) := by decide +kernel
theorem dX8_goesThrough_11 : decode cX8_goesThrough 11 = .ok (.iload_n 1, 1) := by decide +kernel
theorem dX8_goesThrough_12 : decode cX8_goesThrough 12 = .ok (.iconst 0, 1) := by decide +kernel
theorem dX8_goesThrough_13 : decode cX8_goesThrough 13 = .ok (.invokevirtual 98, 3) := by decide +kernel
theorem dX8_goesThrough_16 : decode cX8_goesThrough 16 = .ok (.aload_n 0, 1) := by decide +kernel
theorem dX8_goesThrough_17 : decode cX8_goesThrough 17 = .ok (.getfield 95, 3) := by decide +kernel
theorem dX8_goesThrough_20 : decode cX8_goesThrough 20 = .ok (.ifCond .le 96, 3) := by decide +kernel
theorem dX8_goesThrough_23 : decode cX8_goesThrough 23 = .ok (.aload_n 0, 1) := by decide +kernel
theorem dX8_goesThrough_24 : decode cX8_goesThrough 24 = .ok (.getfield 41, 3) := by decide +kernel
theorem dX8_goesThrough_27 : decode cX8_goesThrough 27 = .ok (.aload_n 0, 1) := by decide +kernel
theorem dX8_goesThrough_28 : decode cX8_goesThrough 28 = .ok (.getfield 95, 3) := by decide +kernel
theorem dX8_goesThrough_31 : decode cX8_goesThrough 31 = .ok (.iconst 1, 1) := by decide +kernel
theorem dX8_goesThrough_32 : decode cX8_goesThrough 32 = .ok (.isub, 1) := by decide +kernel
theorem dX8_goesThrough_33 : decode cX8_goesThrough 33 = .ok (.iaload, 1) := by decide +kernel
theorem dX8_goesThrough_34 : decode cX8_goesThrough 34 = .ok (.istore_n 2, 1) := by decide +kernel
theorem dX8_goesThrough_35 : decode cX8_goesThrough 35 = .ok (.aload_n 0, 1) := by decide +kernel
theorem dX8_goesThrough_36 : decode cX8_goesThrough 36 = .ok (.getfield 44, 3) := by decide +kernel
theorem dX8_goesThrough_39 : decode cX8_goesThrough 39 = .ok (.aload_n 0, 1) := by decide +kernel
theorem dX8_goesThrough_40 : decode cX8_goesThrough 40 = .ok (.getfield 95, 3) := by decide +kernel
theorem dX8_goesThrough_43 : decode cX8_goesThrough 43 = .ok (.iconst 1, 1) := by decide +kernel
theorem dX8_goesThrough_44 : decode cX8_goesThrough 44 = .ok (.isub, 1) := by decide +kernel
theorem dX8_goesThrough_45 : decode cX8_goesThrough 45 = .ok (.iaload, 1) := by decide +kernel
theorem dX8_goesThrough_46 : decode cX8_goesThrough 46 = .ok (.istore_n 3, 1) := by decide +kernel
theorem dX8_goesThrough_47 : decode cX8_goesThrough 47 = .ok (.aload_n 0, 1) := by decide +kernel
theorem dX8_goesThrough_48 : decode cX8_goesThrough 48 = .ok (.getfield 44, 3) := by decide +kernel
theorem dX8_goesThrough_51 : decode cX8_goesThrough 51 = .ok (.aload_n 0, 1) := by decide +kernel
theorem dX8_goesThrough_52 : decode cX8_goesThrough 52 = .ok (.getfield 95, 3) := by decide +kernel
theorem dX8_goesThrough_55 : decode cX8_goesThrough 55 = .ok (.iconst 1, 1) := by decide +kernel
theorem dX8_goesThrough_56 : decode cX8_goesThrough 56 = .ok (.isub, 1) := by decide +kernel
theorem dX8_goesThrough_57 : decode cX8_goesThrough 57 = .ok (.dup2, 1) := by decide +kernel
theorem dX8_goesThrough_58 : decode cX8_goesThrough 58 = .ok (.iaload, 1) := by decide +kernel
theorem dX8_goesThrough_59 : decode cX8_goesThrough 59 = .ok (.iconst 1, 1) := by decide +kernel
theorem dX8_goesThrough_60 : decode cX8_goesThrough 60 = .ok (.iadd, 1) := by decide +kernel
theorem dX8_goesThrough_61 : decode cX8_goesThrough 61 = .ok (.iastore, 1) := by decide +kernel
theorem dX8_goesThrough_62 : decode cX8_goesThrough 62 = .ok (.iload_n 3, 1) := by decide +kernel
theorem dX8_goesThrough_63 : decode cX8_goesThrough 63 = .ok (.aload_n 0, 1) := by decide +kernel
theorem dX8_goesThrough_64 : decode cX8_goesThrough 64 = .ok (.getfield 78, 3) := by decide +kernel
theorem dX8_goesThrough_67 : decode cX8_goesThrough 67 = .ok (.if_icmp .ne 30, 3) := by decide +kernel
theorem dX8_goesThrough_70 : decode cX8_goesThrough 70 = .ok (.aload_n 0, 1) := by decide +kernel
theorem dX8_goesThrough_71 : decode cX8_goesThrough 71 = .ok (.dup, 1) := by decide +kernel
theorem dX8_goesThrough_72 : decode cX8_goesThrough 72 = .ok (.getfield 92, 3) := by decide +kernel
theorem dX8_goesThrough_75 : decode cX8_goesThrough 75 = .ok (.iconst 1, 1) := by decide +kernel
theorem dX8_goesThrough_76 : decode cX8_goesThrough 76 = .ok (.iload_n 2, 1) := by decide +kernel
theorem dX8_goesThrough_77 : decode cX8_goesThrough 77 = .ok (.ishl, 1) := by decide +kernel
theorem dX8_goesThrough_78 : decode cX8_goesThrough 78 = .ok (.iconst (-1), 1) := by decide +kernel
theorem dX8_goesThrough_79 : decode cX8_goesThrough 79 = .ok (.ixor, 1) := by decide +kernel
theorem dX8_goesThrough_80 : decode cX8_goesThrough 80 = .ok (.iand, 1) := by decide +kernel
theorem dX8_goesThrough_81 : decode cX8_goesThrough 81 = .ok (.putfield 92, 3) := by decide +kernel
theorem dX8_goesThrough_84 : decode cX8_goesThrough 84 = .ok (.aload_n 0, 1) := by decide +kernel
theorem dX8_goesThrough_85 : decode cX8_goesThrough 85 = .ok (.dup, 1) := by decide +kernel
theorem dX8_goesThrough_86 : decode cX8_goesThrough 86 = .ok (.getfield 95, 3) := by decide +kernel
theorem dX8_goesThrough_89 : decode cX8_goesThrough 89 = .ok (.iconst 1, 1) := by decide +kernel
theorem dX8_goesThrough_90 : decode cX8_goesThrough 90 = .ok (.isub, 1) := by decide +kernel
theorem dX8_goesThrough_91 : decode cX8_goesThrough 91 = .ok (.putfield 95, 3) := by decide +kernel
theorem dX8_goesThrough_94 : decode cX8_goesThrough 94 = .ok (.goto 19, 3) := by decide +kernel
theorem dX8_goesThrough_97 : decode cX8_goesThrough 97 = .ok (.aload_n 0, 1) := by decide +kernel
theorem dX8_goesThrough_98 : decode cX8_goesThrough 98 = .ok (.getfield 7, 3) := by decide +kernel
theorem dX8_goesThrough_101 : decode cX8_goesThrough 101 = .ok (.iload_n 3, 1) := by decide +kernel
theorem dX8_goesThrough_102 : decode cX8_goesThrough 102 = .ok (.iaload, 1) := by decide +kernel
theorem dX8_goesThrough_103 : decode cX8_goesThrough 103 = .ok (.iload_n 2, 1) := by decide +kernel
theorem dX8_goesThrough_104 : decode cX8_goesThrough 104 = .ok (.if_icmp .ne 9, 3) := by decide +kernel
theorem dX8_goesThrough_107 : decode cX8_goesThrough 107 = .ok (.aload_n 0, 1) := by decide +kernel
theorem dX8_goesThrough_108 : decode cX8_goesThrough 108 = .ok (.iload_n 1, 1) := by decide +kernel
theorem dX8_goesThrough_109 : decode cX8_goesThrough 109 = .ok (.iload_n 3, 1) := by decide +kernel
theorem dX8_goesThrough_110 : decode cX8_goesThrough 110 = .ok (.invokevirtual 102, 3) := by decide +kernel
theorem dX8_goesThrough_113 : decode cX8_goesThrough 113 = .ok (.goto (-97), 3) := by decide +kernel
theorem dX8_goesThrough_116 : decode cX8_goesThrough 116 = .ok (.return_, 1) := by decide +kernel
set_option maxRecDepth 20000 in
theorem ggX8_goesAlong_X8_has : GoodIn wsX8_goesAlong wsX8_has := goodIn_r _ [8] (by decide +kernel) (by decide +kernel)
set_option maxRecDepth 20000 in
theorem gX8_goesAlong_X8_has : GoodIn wsX8_goesAlong (va_wsS RX8 105 yX8_has wsX8_has) := goodIn_app (goodIn_of _ (by decide +kernel)) ggX8_goesAlong_X8_has
set_option maxRecDepth 20000 in
theorem ggX8_goesAlong_X8_comesTo : GoodIn wsX8_goesAlong wsX8_comesTo := goodIn_r _ [12, 4, 1, 13, 14, 15, 16, 17, 18, 19, 20, 21, 22, 23, 24, 25, 26, 27, 28, 29, 30, 31, 32, 33, 34, 35, 36, 37, 38, 39, 40, 41, 42, 43] (by decide +kernel) (by decide +kernel)
set_option maxRecDepth 20000 in
theorem gX8_goesAlong_X8_comesTo : GoodIn wsX8_goesAlong (wsV RX8 98 RX8 yX8_comesTo wsX8_comesTo) := goodIn_app (goodIn_of _ (by decide +kernel)) ggX8_goesAlong_X8_comesTo
theorem dX8_goesAlong_0 : decode cX8_goesAlong 0 = .ok (.aload_n 0, 1) := by decide +kernel
theorem dX8_goesAlong_1 : decode cX8_goesAlong 1 = .ok (.getfield 92, 3) := by decide +kernel
theorem dX8_goesAlong_4 : decode cX8_goesAlong 4 = .ok (.aload_n 0, 1) := by decide +kernel
theorem dX8_goesAlong_5 : decode cX8_goesAlong 5 = .ok (.getfield 13, 3) := by decide +kernel
theorem dX8_goesAlong_8 : decode cX8_goesAlong 8 = .ok (.iload_n 2, 1) := by decide +kernel
theorem dX8_goesAlong_9 : decode cX8_goesAlong 9 = .ok (.iaload, 1) := by decide +kernel
theorem dX8_goesAlong_10 : decode cX8_goesAlong 10 = .ok (.invokestatic 105, 3) := by decide +kernel
theorem dX8_goesAlong_13 : decode cX8_goesAlong 13 = .ok (.ifCond .eq 18, 3) := by decide +kernel
theorem dX8_goesAlong_16 : decode cX8_goesAlong 16 = .ok (.aload_n 0, 1) := by decide +kernel
theorem dX8_goesAlong_17 : decode cX8_goesAlong 17 = .ok (.getfield 29, 3) := by decide +kernel
theorem dX8_goesAlong_20 : decode cX8_goesAlong 20 = .ok (.iload_n 1, 1) := by decide +kernel
theorem dX8_goesAlong_21 : decode cX8_goesAlong 21 = .ok (.dup2, 1) := by decide +kernel
theorem dX8_goesAlong_22 : decode cX8_goesAlong 22 = .ok (.iaload, 1) := by decide +kernel
theorem dX8_goesAlong_23 : decode cX8_goesAlong 23 = .ok (.iconst 1, 1) := by decide +kernel
theorem dX8_goesAlong_24 : decode cX8_goesAlong 24 = .ok (.iload_n 2, 1) := by decide +kernel
theorem dX8_goesAlong_25 : decode cX8_goesAlong 25 = .ok (.ishl, 1) := by decide +kernel
theorem dX8_goesAlong_26 : decode cX8_goesAlong 26 = .ok (.ior, 1) := by decide +kernel
theorem dX8_goesAlong_27 : decode cX8_goesAlong 27 = .ok (.iastore, 1) := by decide +kernel
theorem dX8_goesAlong_28 : decode cX8_goesAlong 28 = .ok (.goto 32, 3) := by decide +kernel
theorem dX8_goesAlong_31 : decode cX8_goesAlong 31 = .ok (.aload_n 0, 1) := by decide +kernel
theorem dX8_goesAlong_32 : decode cX8_goesAlong 32 = .ok (.getfield 23, 3) := by decide +kernel
theorem dX8_goesAlong_35 : decode cX8_goesAlong 35 = .ok (.iload_n 1, 1) := by decide +kernel
theorem dX8_goesAlong_36 : decode cX8_goesAlong 36 = .ok (.iaload, 1) := by decide +kernel
theorem dX8_goesAlong_37 : decode cX8_goesAlong 37 = .ok (.aload_n 0, 1) := by decide +kernel
theorem dX8_goesAlong_38 : decode cX8_goesAlong 38 = .ok (.getfield 13, 3) := by decide +kernel
theorem dX8_goesAlong_41 : decode cX8_goesAlong 41 = .ok (.iload_n 2, 1) := by decide +kernel
theorem dX8_goesAlong_42 : decode cX8_goesAlong 42 = .ok (.iaload, 1) := by decide +kernel
theorem dX8_goesAlong_43 : decode cX8_goesAlong 43 = .ok (.invokestatic 105, 3) := by decide +kernel
theorem dX8_goesAlong_46 : decode cX8_goesAlong 46 = .ok (.ifCond .ne 14, 3) := by decide +kernel
theorem dX8_goesAlong_49 : decode cX8_goesAlong 49 = .ok (.aload_n 0, 1) := by decide +kernel
theorem dX8_goesAlong_50 : decode cX8_goesAlong 50 = .ok (.iload_n 1, 1) := by decide +kernel
theorem dX8_goesAlong_51 : decode cX8_goesAlong 51 = .ok (.aload_n 0, 1) := by decide +kernel
theorem dX8_goesAlong_52 : decode cX8_goesAlong 52 = .ok (.getfield 13, 3) := by decide +kernel
theorem dX8_goesAlong_55 : decode cX8_goesAlong 55 = .ok (.iload_n 2, 1) := by decide +kernel
theorem dX8_goesAlong_56 : decode cX8_goesAlong 56 = .ok (.iaload, 1) := by decide +kernel
theorem dX8_goesAlong_57 : decode cX8_goesAlong 57 = .ok (.invokevirtual 98, 3) := by decide +kernel
theorem dX8_goesAlong_60 : decode cX8_goesAlong 60 = .ok (.return_, 1) := by decide +kernel
set_option maxRecDepth 20000 in
theorem ggX8_counts_X8_has : GoodIn wsX8_counts wsX8_has := goodIn_r _ [8] (by decide +kernel) (by decide +kernel)
set_option maxRecDepth 20000 in
theorem gX8_counts_X8_has : GoodIn wsX8_counts (va_wsS RX8 105 yX8_has wsX8_has) := goodIn_app (goodIn_of _ (by decide +kernel)) ggX8_counts_X8_has
theorem dX8_counts_0 : decode cX8_counts 0 = .ok (.iload_n 2, 1) := by decide +kernel
theorem dX8_counts_1 : decode cX8_counts 1 = .ok (.aload_n 0, 1) := by decide +kernel
theorem dX8_counts_2 : decode cX8_counts 2 = .ok (.getfield 20, 3) := by decide +kernel
theorem dX8_counts_5 : decode cX8_counts 5 = .ok (.iload_n 1, 1) := by decide +kernel
theorem dX8_counts_6 : decode cX8_counts 6 = .ok (.iaload, 1) := by decide +kernel
theorem dX8_counts_7 : decode cX8_counts 7 = .ok (.if_icmp .ge 38, 3) := by decide +kernel
theorem dX8_counts_10 : decode cX8_counts 10 = .ok (.aload_n 0, 1) := by decide +kernel
theorem dX8_counts_11 : decode cX8_counts 11 = .ok (.getfield 23, 3) := by decide +kernel
theorem dX8_counts_14 : decode cX8_counts 14 = .ok (.iload_n 1, 1) := by decide +kernel
theorem dX8_counts_15 : decode cX8_counts 15 = .ok (.iaload, 1) := by decide +kernel
theorem dX8_counts_16 : decode cX8_counts 16 = .ok (.aload_n 0, 1) := by decide +kernel
theorem dX8_counts_17 : decode cX8_counts 17 = .ok (.getfield 7, 3) := by decide +kernel
theorem dX8_counts_20 : decode cX8_counts 20 = .ok (.iload_n 2, 1) := by decide +kernel
theorem dX8_counts_21 : decode cX8_counts 21 = .ok (.iaload, 1) := by decide +kernel
theorem dX8_counts_22 : decode cX8_counts 22 = .ok (.invokestatic 105, 3) := by decide +kernel
theorem dX8_counts_25 : decode cX8_counts 25 = .ok (.ifCond .eq 20, 3) := by decide +kernel
theorem dX8_counts_28 : decode cX8_counts 28 = .ok (.aload_n 0, 1) := by decide +kernel
theorem dX8_counts_29 : decode cX8_counts 29 = .ok (.getfield 29, 3) := by decide +kernel
theorem dX8_counts_32 : decode cX8_counts 32 = .ok (.iload_n 1, 1) := by decide +kernel
theorem dX8_counts_33 : decode cX8_counts 33 = .ok (.iaload, 1) := by decide +kernel
theorem dX8_counts_34 : decode cX8_counts 34 = .ok (.iload_n 2, 1) := by decide +kernel
theorem dX8_counts_35 : decode cX8_counts 35 = .ok (.invokestatic 105, 3) := by decide +kernel
theorem dX8_counts_38 : decode cX8_counts 38 = .ok (.ifCond .ne 7, 3) := by decide +kernel
theorem dX8_counts_41 : decode cX8_counts 41 = .ok (.iconst 1, 1) := by decide +kernel
theorem dX8_counts_42 : decode cX8_counts 42 = .ok (.goto 4, 3) := by decide +kernel
theorem dX8_counts_45 : decode cX8_counts 45 = .ok (.iconst 0, 1) := by decide +kernel
theorem dX8_counts_46 : decode cX8_counts 46 = .ok (.ireturn, 1) := by decide +kernel
set_option maxRecDepth 20000 in
theorem ggX8_getsWays_X8_counts : GoodIn wsX8_getsWays wsX8_counts := goodIn_r _ [11, 1, 12, 3, 13, 14, 15, 10, 16, 17, 18, 19, 20, 21, 22, 23, 24, 25, 26, 27, 28, 29, 30, 31, 32, 33, 34, 35, 36, 37, 38, 39, 40, 41, 42, 43, 44] (by decide +kernel) (by decide +kernel)
set_option maxRecDepth 20000 in
theorem gX8_getsWays_X8_counts : GoodIn wsX8_getsWays (wsV RX8 109 RX8 yX8_counts wsX8_counts) := goodIn_app (goodIn_of _ (by decide +kernel)) ggX8_getsWays_X8_counts
set_option maxRecDepth 20000 in
theorem ggX8_getsWays_X8_has : GoodIn wsX8_getsWays wsX8_has := goodIn_r _ [16] (by decide +kernel) (by decide +kernel)
set_option maxRecDepth 20000 in
theorem gX8_getsWays_X8_has : GoodIn wsX8_getsWays (va_wsS RX8 105 yX8_has wsX8_has) := goodIn_app (goodIn_of _ (by decide +kernel)) ggX8_getsWays_X8_has
theorem dX8_getsWays_0 : decode cX8_getsWays 0 = .ok (.iload_n 2, 1) := by decide +kernel
theorem dX8_getsWays_1 : decode cX8_getsWays 1 = .ok (.ifCond .ne 7, 3) := by decide +kernel
theorem dX8_getsWays_4 : decode cX8_getsWays 4 = .ok (.iconst 1, 1) := by decide +kernel
theorem dX8_getsWays_5 : decode cX8_getsWays 5 = .ok (.goto 4, 3) := by decide +kernel
theorem dX8_getsWays_8 : decode cX8_getsWays 8 = .ok (.iconst 0, 1) := by decide +kernel
theorem dX8_getsWays_9 : decode cX8_getsWays 9 = .ok (.istore 4, 2) := by decide +kernel
theorem dX8_getsWays_11 : decode cX8_getsWays 11 = .ok (.iconst 0, 1) := by decide +kernel
theorem dX8_getsWays_12 : decode cX8_getsWays 12 = .ok (.istore 5, 2) := by decide +kernel
theorem dX8_getsWays_14 : decode cX8_getsWays 14 = .ok (.iload 5, 2) := by decide +kernel
theorem dX8_getsWays_16 : decode cX8_getsWays 16 = .ok (.aload_n 0, 1) := by decide +kernel
theorem dX8_getsWays_17 : decode cX8_getsWays 17 = .ok (.getfield 20, 3) := by decide +kernel
theorem dX8_getsWays_20 : decode cX8_getsWays 20 = .ok (.iload_n 1, 1) := by decide +kernel
theorem dX8_getsWays_21 : decode cX8_getsWays 21 = .ok (.iaload, 1) := by decide +kernel
theorem dX8_getsWays_22 : decode cX8_getsWays 22 = .ok (.if_icmp .ge 68, 3) := by decide +kernel
theorem dX8_getsWays_25 : decode cX8_getsWays 25 = .ok (.aload_n 0, 1) := by decide +kernel
theorem dX8_getsWays_26 : decode cX8_getsWays 26 = .ok (.getfield 13, 3) := by decide +kernel
theorem dX8_getsWays_29 : decode cX8_getsWays 29 = .ok (.iload 5, 2) := by decide +kernel
theorem dX8_getsWays_31 : decode cX8_getsWays 31 = .ok (.iaload, 1) := by decide +kernel
theorem dX8_getsWays_32 : decode cX8_getsWays 32 = .ok (.iload_n 2, 1) := by decide +kernel
theorem dX8_getsWays_33 : decode cX8_getsWays 33 = .ok (.if_icmp .ne 51, 3) := by decide +kernel
theorem dX8_getsWays_36 : decode cX8_getsWays 36 = .ok (.aload_n 0, 1) := by decide +kernel
theorem dX8_getsWays_37 : decode cX8_getsWays 37 = .ok (.iload_n 1, 1) := by decide +kernel
theorem dX8_getsWays_38 : decode cX8_getsWays 38 = .ok (.iload 5, 2) := by decide +kernel
theorem dX8_getsWays_40 : decode cX8_getsWays 40 = .ok (.invokevirtual 109, 3) := by decide +kernel
theorem dX8_getsWays_43 : decode cX8_getsWays 43 = .ok (.ifCond .eq 41, 3) := by decide +kernel
theorem dX8_getsWays_46 : decode cX8_getsWays 46 = .ok (.iload_n 3, 1) := by decide +kernel
theorem dX8_getsWays_47 : decode cX8_getsWays 47 = .ok (.aload_n 0, 1) := by decide +kernel
theorem dX8_getsWays_48 : decode cX8_getsWays 48 = .ok (.getfield 7, 3) := by decide +kernel
theorem dX8_getsWays_51 : decode cX8_getsWays 51 = .ok (.iload 5, 2) := by decide +kernel
theorem dX8_getsWays_53 : decode cX8_getsWays 53 = .ok (.iaload, 1) := by decide +kernel
theorem dX8_getsWays_54 : decode cX8_getsWays 54 = .ok (.invokestatic 105, 3) := by decide +kernel
theorem dX8_getsWays_57 : decode cX8_getsWays 57 = .ok (.ifCond .ne 5, 3) := by decide +kernel
theorem dX8_getsWays_60 : decode cX8_getsWays 60 = .ok (.iconst 0, 1) := by decide +kernel
theorem dX8_getsWays_61 : decode cX8_getsWays 61 = .ok (.ireturn, 1) := by decide +kernel
theorem dX8_getsWays_62 : decode cX8_getsWays 62 = .ok (.iload 4, 2) := by decide +kernel
theorem dX8_getsWays_64 : decode cX8_getsWays 64 = .ok (.aload_n 0, 1) := by decide +kernel
theorem dX8_getsWays_65 : decode cX8_getsWays 65 = .ok (.getfield 35, 3) := by decide +kernel
theorem dX8_getsWays_68 : decode cX8_getsWays 68 = .ok (.bipush 10, 2) := by decide +kernel
theorem dX8_getsWays_70 : decode cX8_getsWays 70 = .ok (.iload_n 1, 1) := by decide +kernel
theorem dX8_getsWays_71 : decode cX8_getsWays 71 = .ok (.imul, 1) := by decide +kernel
theorem dX8_getsWays_72 : decode cX8_getsWays 72 = .ok (.aload_n 0, 1) := by decide +kernel
theorem dX8_getsWays_73 : decode cX8_getsWays 73 = .ok (.getfield 7, 3) := by decide +kernel
theorem dX8_getsWays_76 : decode cX8_getsWays 76 = .ok (.iload 5, 2) := by decide +kernel
theorem dX8_getsWays_78 : decode cX8_getsWays 78 = .ok (.iaload, 1) := by decide +kernel
theorem dX8_getsWays_79 : decode cX8_getsWays 79 = .ok (.iadd, 1) := by decide +kernel
theorem dX8_getsWays_80 : decode cX8_getsWays 80 = .ok (.iaload, 1) := by decide +kernel
theorem dX8_getsWays_81 : decode cX8_getsWays 81 = .ok (.iadd, 1) := by decide +kernel
theorem dX8_getsWays_82 : decode cX8_getsWays 82 = .ok (.istore 4, 2) := by decide +kernel
theorem dX8_getsWays_84 : decode cX8_getsWays 84 = .ok (.iinc 5 1, 3) := by decide +kernel
theorem dX8_getsWays_87 : decode cX8_getsWays 87 = .ok (.goto (-73), 3) := by decide +kernel
theorem dX8_getsWays_90 : decode cX8_getsWays 90 = .ok (.aload_n 0, 1) := by decide +kernel
theorem dX8_getsWays_91 : decode cX8_getsWays 91 = .ok (.getfield 26, 3) := by decide +kernel
theorem dX8_getsWays_94 : decode cX8_getsWays 94 = .ok (.iload_n 1, 1) := by decide +kernel
theorem dX8_getsWays_95 : decode cX8_getsWays 95 = .ok (.dup2, 1) := by decide +kernel
theorem dX8_getsWays_96 : decode cX8_getsWays 96 = .ok (.iaload, 1) := by decide +kernel
theorem dX8_getsWays_97 : decode cX8_getsWays 97 = .ok (.iload 4, 2) := by decide +kernel
theorem dX8_getsWays_99 : decode cX8_getsWays 99 = .ok (.aload_n 0, 1) := by decide +kernel
theorem dX8_getsWays_100 : decode cX8_getsWays 100 = .ok (.getfield 16, 3) := by decide +kernel
theorem dX8_getsWays_103 : decode cX8_getsWays 103 = .ok (.if_icmp .le 9, 3) := by decide +kernel
theorem dX8_getsWays_106 : decode cX8_getsWays 106 = .ok (.iconst 1, 1) := by decide +kernel
theorem dX8_getsWays_107 : decode cX8_getsWays 107 = .ok (.iload_n 2, 1) := by decide +kernel
theorem dX8_getsWays_108 : decode cX8_getsWays 108 = .ok (.ishl, 1) := by decide +kernel
theorem dX8_getsWays_109 : decode cX8_getsWays 109 = .ok (.goto 4, 3) := by decide +kernel
theorem dX8_getsWays_112 : decode cX8_getsWays 112 = .ok (.iconst 0, 1) := by decide +kernel
theorem dX8_getsWays_113 : decode cX8_getsWays 113 = .ok (.ior, 1) := by decide +kernel
theorem dX8_getsWays_114 : decode cX8_getsWays 114 = .ok (.iastore, 1) := by decide +kernel
theorem dX8_getsWays_115 : decode cX8_getsWays 115 = .ok (.aload_n 0, 1) := by decide +kernel
theorem dX8_getsWays_116 : decode cX8_getsWays 116 = .ok (.getfield 35, 3) := by decide +kernel
theorem dX8_getsWays_119 : decode cX8_getsWays 119 = .ok (.bipush 10, 2) := by decide +kernel
theorem dX8_getsWays_121 : decode cX8_getsWays 121 = .ok (.iload_n 1, 1) := by decide +kernel
theorem dX8_getsWays_122 : decode cX8_getsWays 122 = .ok (.imul, 1) := by decide +kernel
theorem dX8_getsWays_123 : decode cX8_getsWays 123 = .ok (.iload_n 2, 1) := by decide +kernel
theorem dX8_getsWays_124 : decode cX8_getsWays 124 = .ok (.iadd, 1) := by decide +kernel
theorem dX8_getsWays_125 : decode cX8_getsWays 125 = .ok (.iload 4, 2) := by decide +kernel
theorem dX8_getsWays_127 : decode cX8_getsWays 127 = .ok (.aload_n 0, 1) := by decide +kernel
theorem dX8_getsWays_128 : decode cX8_getsWays 128 = .ok (.getfield 16, 3) := by decide +kernel
theorem dX8_getsWays_131 : decode cX8_getsWays 131 = .ok (.if_icmp .le 7, 3) := by decide +kernel
theorem dX8_getsWays_134 : decode cX8_getsWays 134 = .ok (.iconst 1, 1) := by decide +kernel
theorem dX8_getsWays_135 : decode cX8_getsWays 135 = .ok (.goto 5, 3) := by decide +kernel
theorem dX8_getsWays_138 : decode cX8_getsWays 138 = .ok (.iload 4, 2) := by decide +kernel
theorem dX8_getsWays_140 : decode cX8_getsWays 140 = .ok (.iastore, 1) := by decide +kernel
theorem dX8_getsWays_141 : decode cX8_getsWays 141 = .ok (.iconst 1, 1) := by decide +kernel
theorem dX8_getsWays_142 : decode cX8_getsWays 142 = .ok (.ireturn, 1) := by decide +kernel
set_option maxRecDepth 20000 in
theorem ggX8_findWays_X8_has : GoodIn wsX8_findWays wsX8_has := goodIn_r _ [6] (by decide +kernel) (by decide +kernel)
set_option maxRecDepth 20000 in
theorem gX8_findWays_X8_has : GoodIn wsX8_findWays (va_wsS RX8 105 yX8_has wsX8_has) := goodIn_app (goodIn_of _ (by decide +kernel)) ggX8_findWays_X8_has
set_option maxRecDepth 20000 in
theorem ggX8_findWays_X8_getsWays : GoodIn wsX8_findWays wsX8_getsWays := goodIn_r _ [10, 11, 12, 13, 1, 14, 15, 16, 17, 18, 5, 19, 2, 20, 3, 4, 6, 21, 22, 23, 24, 25, 26, 27, 28, 29, 30, 31, 32, 33, 34, 35, 36, 37, 38, 39, 40, 41, 42, 43, 44, 45, 46, 47, 48] (by decide +kernel) (by decide +kernel)
set_option maxRecDepth 20000 in
theorem gX8_findWays_X8_getsWays : GoodIn wsX8_findWays (wsV RX8 112 RX8 yX8_getsWays wsX8_getsWays) := goodIn_app (goodIn_of _ (by decide +kernel)) ggX8_findWays_X8_getsWays
theorem dX8_findWays_0 : decode cX8_findWays 0 = .ok (.iconst 0, 1) := by decide +kernel
theorem dX8_findWays_1 : decode cX8_findWays 1 = .ok (.istore_n 2, 1) := by decide +kernel
theorem dX8_findWays_2 : decode cX8_findWays 2 = .ok (.iconst 0, 1) := by decide +kernel
theorem dX8_findWays_3 : decode cX8_findWays 3 = .ok (.istore_n 3, 1) := by decide +kernel
theorem dX8_findWays_4 : decode cX8_findWays 4 = .ok (.iload_n 3, 1) := by decide +kernel
theorem dX8_findWays_5 : decode cX8_findWays 5 = .ok (.bipush 10, 2) := by decide +kernel
theorem dX8_findWays_7 : decode cX8_findWays 7 = .ok (.if_icmp .ge 21, 3) := by decide +kernel
theorem dX8_findWays_10 : decode cX8_findWays 10 = .ok (.aload_n 0, 1) := by decide +kernel
theorem dX8_findWays_11 : decode cX8_findWays 11 = .ok (.getfield 35, 3) := by decide +kernel
theorem dX8_findWays_14 : decode cX8_findWays 14 = .ok (.bipush 10, 2) := by decide +kernel
theorem dX8_findWays_16 : decode cX8_findWays 16 = .ok (.iload_n 1, 1) := by decide +kernel
theorem dX8_findWays_17 : decode cX8_findWays 17 = .ok (.imul, 1) := by decide +kernel
theorem dX8_findWays_18 : decode cX8_findWays 18 = .ok (.iload_n 3, 1) := by decide +kernel
theorem dX8_findWays_19 : decode cX8_findWays 19 = .ok (.iadd, 1) := by decide +kernel
theorem dX8_findWays_20 : decode cX8_findWays 20 = .ok (.iconst 1, 1) := by decide +kernel
theorem dX8_findWays_21 : decode cX8_findWays 21 = .ok (.iastore, 1) := by decide +kernel
theorem dX8_findWays_22 : decode cX8_findWays 22 = .ok (.iinc 3 1, 3) := by decide +kernel
theorem dX8_findWays_25 : decode cX8_findWays 25 = .ok (.goto (-21), 3) := by decide +kernel
theorem dX8_findWays_28 : decode cX8_findWays 28 = .ok (.iload_n 2, 1) := by decide +kernel
theorem dX8_findWays_29 : decode cX8_findWays 29 = .ok (.aload_n 0, 1) := by decide +kernel
theorem dX8_findWays_30 : decode cX8_findWays 30 = .ok (.getfield 23, 3) := by decide +kernel
theorem dX8_findWays_33 : decode cX8_findWays 33 = .ok (.iload_n 1, 1) := by decide +kernel
theorem dX8_findWays_34 : decode cX8_findWays 34 = .ok (.iaload, 1) := by decide +kernel
theorem dX8_findWays_35 : decode cX8_findWays 35 = .ok (.if_icmp .eq 57, 3) := by decide +kernel
theorem dX8_findWays_38 : decode cX8_findWays 38 = .ok (.iconst 0, 1) := by decide +kernel
theorem dX8_findWays_39 : decode cX8_findWays 39 = .ok (.istore_n 3, 1) := by decide +kernel
theorem dX8_findWays_40 : decode cX8_findWays 40 = .ok (.iload_n 3, 1) := by decide +kernel
theorem dX8_findWays_41 : decode cX8_findWays 41 = .ok (.bipush 10, 2) := by decide +kernel
theorem dX8_findWays_43 : decode cX8_findWays 43 = .ok (.if_icmp .ge 46, 3) := by decide +kernel
theorem dX8_findWays_46 : decode cX8_findWays 46 = .ok (.aload_n 0, 1) := by decide +kernel
theorem dX8_findWays_47 : decode cX8_findWays 47 = .ok (.getfield 23, 3) := by decide +kernel
theorem dX8_findWays_50 : decode cX8_findWays 50 = .ok (.iload_n 1, 1) := by decide +kernel
theorem dX8_findWays_51 : decode cX8_findWays 51 = .ok (.iaload, 1) := by decide +kernel
theorem dX8_findWays_52 : decode cX8_findWays 52 = .ok (.iload_n 3, 1) := by decide +kernel
theorem dX8_findWays_53 : decode cX8_findWays 53 = .ok (.invokestatic 105, 3) := by decide +kernel
theorem dX8_findWays_56 : decode cX8_findWays 56 = .ok (.ifCond .eq 27, 3) := by decide +kernel
theorem dX8_findWays_59 : decode cX8_findWays 59 = .ok (.iload_n 2, 1) := by decide +kernel
theorem dX8_findWays_60 : decode cX8_findWays 60 = .ok (.iload_n 3, 1) := by decide +kernel
theorem dX8_findWays_61 : decode cX8_findWays 61 = .ok (.invokestatic 105, 3) := by decide +kernel
theorem dX8_findWays_64 : decode cX8_findWays 64 = .ok (.ifCond .ne 19, 3) := by decide +kernel
theorem dX8_findWays_67 : decode cX8_findWays 67 = .ok (.aload_n 0, 1) := by decide +kernel
theorem dX8_findWays_68 : decode cX8_findWays 68 = .ok (.iload_n 1, 1) := by decide +kernel
theorem dX8_findWays_69 : decode cX8_findWays 69 = .ok (.iload_n 3, 1) := by decide +kernel
theorem dX8_findWays_70 : decode cX8_findWays 70 = .ok (.iload_n 2, 1) := by decide +kernel
theorem dX8_findWays_71 : decode cX8_findWays 71 = .ok (.invokevirtual 112, 3) := by decide +kernel
theorem dX8_findWays_74 : decode cX8_findWays 74 = .ok (.ifCond .eq 9, 3) := by decide +kernel
theorem dX8_findWays_77 : decode cX8_findWays 77 = .ok (.iload_n 2, 1) := by decide +kernel
theorem dX8_findWays_78 : decode cX8_findWays 78 = .ok (.iconst 1, 1) := by decide +kernel
theorem dX8_findWays_79 : decode cX8_findWays 79 = .ok (.iload_n 3, 1) := by decide +kernel
theorem dX8_findWays_80 : decode cX8_findWays 80 = .ok (.ishl, 1) := by decide +kernel
theorem dX8_findWays_81 : decode cX8_findWays 81 = .ok (.ior, 1) := by decide +kernel
theorem dX8_findWays_82 : decode cX8_findWays 82 = .ok (.istore_n 2, 1) := by decide +kernel
theorem dX8_findWays_83 : decode cX8_findWays 83 = .ok (.iinc 3 1, 3) := by decide +kernel
theorem dX8_findWays_86 : decode cX8_findWays 86 = .ok (.goto (-46), 3) := by decide +kernel
theorem dX8_findWays_89 : decode cX8_findWays 89 = .ok (.goto (-61), 3) := by decide +kernel
theorem dX8_findWays_92 : decode cX8_findWays 92 = .ok (.return_, 1) := by decide +kernel
set_option maxRecDepth 20000 in
theorem ggX8_findAdds_X8_counts : GoodIn wsX8_findAdds wsX8_counts := goodIn_r _ [12, 1, 13, 6, 14, 15, 16, 11, 17, 18, 19, 20, 21, 22, 23, 24, 25, 26, 27, 28, 29, 30, 31, 32, 33, 34, 35, 36, 37, 38, 39, 40, 41, 42, 43, 44, 45] (by decide +kernel) (by decide +kernel)
set_option maxRecDepth 20000 in
theorem gX8_findAdds_X8_counts : GoodIn wsX8_findAdds (wsV RX8 109 RX8 yX8_counts wsX8_counts) := goodIn_app (goodIn_of _ (by decide +kernel)) ggX8_findAdds_X8_counts
set_option maxRecDepth 20000 in
theorem ggX8_findAdds_X8_has : GoodIn wsX8_findAdds wsX8_has := goodIn_r _ [17] (by decide +kernel) (by decide +kernel)
set_option maxRecDepth 20000 in
theorem gX8_findAdds_X8_has : GoodIn wsX8_findAdds (va_wsS RX8 105 yX8_has wsX8_has) := goodIn_app (goodIn_of _ (by decide +kernel)) ggX8_findAdds_X8_has
theorem dX8_findAdds_0 : decode cX8_findAdds 0 = .ok (.iconst 0, 1) := by decide +kernel
theorem dX8_findAdds_1 : decode cX8_findAdds 1 = .ok (.istore_n 2, 1) := by decide +kernel
theorem dX8_findAdds_2 : decode cX8_findAdds 2 = .ok (.iload_n 2, 1) := by decide +kernel
theorem dX8_findAdds_3 : decode cX8_findAdds 3 = .ok (.aload_n 0, 1) := by decide +kernel
theorem dX8_findAdds_4 : decode cX8_findAdds 4 = .ok (.getfield 20, 3) := by decide +kernel
theorem dX8_findAdds_7 : decode cX8_findAdds 7 = .ok (.iload_n 1, 1) := by decide +kernel
theorem dX8_findAdds_8 : decode cX8_findAdds 8 = .ok (.iaload, 1) := by decide +kernel
theorem dX8_findAdds_9 : decode cX8_findAdds 9 = .ok (.if_icmp .ge 149, 3) := by decide +kernel
theorem dX8_findAdds_12 : decode cX8_findAdds 12 = .ok (.aload_n 0, 1) := by decide +kernel
theorem dX8_findAdds_13 : decode cX8_findAdds 13 = .ok (.iload_n 1, 1) := by decide +kernel
theorem dX8_findAdds_14 : decode cX8_findAdds 14 = .ok (.iload_n 2, 1) := by decide +kernel
theorem dX8_findAdds_15 : decode cX8_findAdds 15 = .ok (.invokevirtual 109, 3) := by decide +kernel
theorem dX8_findAdds_18 : decode cX8_findAdds 18 = .ok (.ifCond .eq 25, 3) := by decide +kernel
theorem dX8_findAdds_21 : decode cX8_findAdds 21 = .ok (.aload_n 0, 1) := by decide +kernel
theorem dX8_findAdds_22 : decode cX8_findAdds 22 = .ok (.getfield 26, 3) := by decide +kernel
theorem dX8_findAdds_25 : decode cX8_findAdds 25 = .ok (.iload_n 1, 1) := by decide +kernel
theorem dX8_findAdds_26 : decode cX8_findAdds 26 = .ok (.iaload, 1) := by decide +kernel
theorem dX8_findAdds_27 : decode cX8_findAdds 27 = .ok (.aload_n 0, 1) := by decide +kernel
theorem dX8_findAdds_28 : decode cX8_findAdds 28 = .ok (.getfield 13, 3) := by decide +kernel
theorem dX8_findAdds_31 : decode cX8_findAdds 31 = .ok (.iload_n 2, 1) := by decide +kernel
theorem dX8_findAdds_32 : decode cX8_findAdds 32 = .ok (.iaload, 1) := by decide +kernel
theorem dX8_findAdds_33 : decode cX8_findAdds 33 = .ok (.invokestatic 105, 3) := by decide +kernel
theorem dX8_findAdds_36 : decode cX8_findAdds 36 = .ok (.ifCond .ne 7, 3) := by decide +kernel
theorem dX8_findAdds_39 : decode cX8_findAdds 39 = .ok (.iconst 1, 1) := by decide +kernel
theorem dX8_findAdds_40 : decode cX8_findAdds 40 = .ok (.goto 4, 3) := by decide +kernel
theorem dX8_findAdds_43 : decode cX8_findAdds 43 = .ok (.iconst 0, 1) := by decide +kernel
theorem dX8_findAdds_44 : decode cX8_findAdds 44 = .ok (.istore_n 3, 1) := by decide +kernel
theorem dX8_findAdds_45 : decode cX8_findAdds 45 = .ok (.iconst 0, 1) := by decide +kernel
theorem dX8_findAdds_46 : decode cX8_findAdds 46 = .ok (.istore 4, 2) := by decide +kernel
theorem dX8_findAdds_48 : decode cX8_findAdds 48 = .ok (.iconst 0, 1) := by decide +kernel
theorem dX8_findAdds_49 : decode cX8_findAdds 49 = .ok (.istore 5, 2) := by decide +kernel
theorem dX8_findAdds_51 : decode cX8_findAdds 51 = .ok (.iload 5, 2) := by decide +kernel
theorem dX8_findAdds_53 : decode cX8_findAdds 53 = .ok (.iload_n 2, 1) := by decide +kernel
theorem dX8_findAdds_54 : decode cX8_findAdds 54 = .ok (.if_icmp .ge 65, 3) := by decide +kernel
theorem dX8_findAdds_57 : decode cX8_findAdds 57 = .ok (.iload 4, 2) := by decide +kernel
theorem dX8_findAdds_59 : decode cX8_findAdds 59 = .ok (.aload_n 0, 1) := by decide +kernel
theorem dX8_findAdds_60 : decode cX8_findAdds 60 = .ok (.getfield 32, 3) := by decide +kernel
theorem dX8_findAdds_63 : decode cX8_findAdds 63 = .ok (.iload_n 1, 1) := by decide +kernel
theorem dX8_findAdds_64 : decode cX8_findAdds 64 = .ok (.iaload, 1) := by decide +kernel
theorem dX8_findAdds_65 : decode cX8_findAdds 65 = .ok (.iload 5, 2) := by decide +kernel
theorem dX8_findAdds_67 : decode cX8_findAdds 67 = .ok (.invokestatic 105, 3) := by decide +kernel
theorem dX8_findAdds_70 : decode cX8_findAdds 70 = .ok (.ifCond .eq 39, 3) := by decide +kernel
theorem dX8_findAdds_73 : decode cX8_findAdds 73 = .ok (.aload_n 0, 1) := by decide +kernel
theorem dX8_findAdds_74 : decode cX8_findAdds 74 = .ok (.getfield 13, 3) := by decide +kernel
theorem dX8_findAdds_77 : decode cX8_findAdds 77 = .ok (.iload 5, 2) := by decide +kernel
theorem dX8_findAdds_79 : decode cX8_findAdds 79 = .ok (.iaload, 1) := by decide +kernel
theorem dX8_findAdds_80 : decode cX8_findAdds 80 = .ok (.aload_n 0, 1) := by decide +kernel
theorem dX8_findAdds_81 : decode cX8_findAdds 81 = .ok (.getfield 13, 3) := by decide +kernel
theorem dX8_findAdds_84 : decode cX8_findAdds 84 = .ok (.iload_n 2, 1) := by decide +kernel
theorem dX8_findAdds_85 : decode cX8_findAdds 85 = .ok (.iaload, 1) := by decide +kernel
theorem dX8_findAdds_86 : decode cX8_findAdds 86 = .ok (.if_icmp .ne 23, 3) := by decide +kernel
theorem dX8_findAdds_89 : decode cX8_findAdds 89 = .ok (.aload_n 0, 1) := by decide +kernel
theorem dX8_findAdds_90 : decode cX8_findAdds 90 = .ok (.getfield 35, 3) := by decide +kernel
theorem dX8_findAdds_93 : decode cX8_findAdds 93 = .ok (.bipush 10, 2) := by decide +kernel
theorem dX8_findAdds_95 : decode cX8_findAdds 95 = .ok (.iload_n 1, 1) := by decide +kernel
theorem dX8_findAdds_96 : decode cX8_findAdds 96 = .ok (.imul, 1) := by decide +kernel
theorem dX8_findAdds_97 : decode cX8_findAdds 97 = .ok (.aload_n 0, 1) := by decide +kernel
theorem dX8_findAdds_98 : decode cX8_findAdds 98 = .ok (.getfield 7, 3) := by decide +kernel
theorem dX8_findAdds_101 : decode cX8_findAdds 101 = .ok (.iload 5, 2) := by decide +kernel
theorem dX8_findAdds_103 : decode cX8_findAdds 103 = .ok (.iaload, 1) := by decide +kernel
theorem dX8_findAdds_104 : decode cX8_findAdds 104 = .ok (.iadd, 1) := by decide +kernel
theorem dX8_findAdds_105 : decode cX8_findAdds 105 = .ok (.iaload, 1) := by decide +kernel
theorem dX8_findAdds_106 : decode cX8_findAdds 106 = .ok (.goto 4, 3) := by decide +kernel
theorem dX8_findAdds_109 : decode cX8_findAdds 109 = .ok (.iconst 0, 1) := by decide +kernel
theorem dX8_findAdds_110 : decode cX8_findAdds 110 = .ok (.iadd, 1) := by decide +kernel
theorem dX8_findAdds_111 : decode cX8_findAdds 111 = .ok (.istore 4, 2) := by decide +kernel
theorem dX8_findAdds_113 : decode cX8_findAdds 113 = .ok (.iinc 5 1, 3) := by decide +kernel
theorem dX8_findAdds_116 : decode cX8_findAdds 116 = .ok (.goto (-65), 3) := by decide +kernel
theorem dX8_findAdds_119 : decode cX8_findAdds 119 = .ok (.aload_n 0, 1) := by decide +kernel
theorem dX8_findAdds_120 : decode cX8_findAdds 120 = .ok (.getfield 32, 3) := by decide +kernel
theorem dX8_findAdds_123 : decode cX8_findAdds 123 = .ok (.iload_n 1, 1) := by decide +kernel
theorem dX8_findAdds_124 : decode cX8_findAdds 124 = .ok (.dup2, 1) := by decide +kernel
theorem dX8_findAdds_125 : decode cX8_findAdds 125 = .ok (.iaload, 1) := by decide +kernel
theorem dX8_findAdds_126 : decode cX8_findAdds 126 = .ok (.iload_n 3, 1) := by decide +kernel
theorem dX8_findAdds_127 : decode cX8_findAdds 127 = .ok (.ifCond .eq 9, 3) := by decide +kernel
theorem dX8_findAdds_130 : decode cX8_findAdds 130 = .ok (.iconst 1, 1) := by decide +kernel
theorem dX8_findAdds_131 : decode cX8_findAdds 131 = .ok (.iload_n 2, 1) := by decide +kernel
theorem dX8_findAdds_132 : decode cX8_findAdds 132 = .ok (.ishl, 1) := by decide +kernel
theorem dX8_findAdds_133 : decode cX8_findAdds 133 = .ok (.goto 4, 3) := by decide +kernel
theorem dX8_findAdds_136 : decode cX8_findAdds 136 = .ok (.iconst 0, 1) := by decide +kernel
theorem dX8_findAdds_137 : decode cX8_findAdds 137 = .ok (.ior, 1) := by decide +kernel
theorem dX8_findAdds_138 : decode cX8_findAdds 138 = .ok (.iastore, 1) := by decide +kernel
theorem dX8_findAdds_139 : decode cX8_findAdds 139 = .ok (.aload_n 0, 1) := by decide +kernel
theorem dX8_findAdds_140 : decode cX8_findAdds 140 = .ok (.getfield 38, 3) := by decide +kernel
theorem dX8_findAdds_143 : decode cX8_findAdds 143 = .ok (.bipush 24, 2) := by decide +kernel
theorem dX8_findAdds_145 : decode cX8_findAdds 145 = .ok (.iload_n 1, 1) := by decide +kernel
theorem dX8_findAdds_146 : decode cX8_findAdds 146 = .ok (.imul, 1) := by decide +kernel
theorem dX8_findAdds_147 : decode cX8_findAdds 147 = .ok (.iload_n 2, 1) := by decide +kernel
theorem dX8_findAdds_148 : decode cX8_findAdds 148 = .ok (.iadd, 1) := by decide +kernel
theorem dX8_findAdds_149 : decode cX8_findAdds 149 = .ok (.iload 4, 2) := by decide +kernel
theorem dX8_findAdds_151 : decode cX8_findAdds 151 = .ok (.iastore, 1) := by decide +kernel
theorem dX8_findAdds_152 : decode cX8_findAdds 152 = .ok (.iinc 2 1, 3) := by decide +kernel
theorem dX8_findAdds_155 : decode cX8_findAdds 155 = .ok (.goto (-153), 3) := by decide +kernel
theorem dX8_findAdds_158 : decode cX8_findAdds 158 = .ok (.return_, 1) := by decide +kernel
set_option maxRecDepth 20000 in
theorem ggX8_makesPlan_X8_goesThrough : GoodIn wsX8_makesPlan wsX8_goesThrough := goodIn_r _ [8, 9, 10, 11, 12, 3, 13, 14, 15, 16, 7, 17, 18, 19, 20, 21, 22, 23, 24, 25, 26, 27, 49, 50, 51, 52, 53, 54, 55, 56, 57, 58, 59, 60, 61, 62, 63, 64, 65, 66, 67, 68, 69, 70, 71, 72, 73, 74, 75, 76] (by decide +kernel) (by decide +kernel)
set_option maxRecDepth 20000 in
theorem gX8_makesPlan_X8_goesThrough : GoodIn wsX8_makesPlan (wsV RX8 115 RX8 yX8_goesThrough wsX8_goesThrough) := goodIn_app (goodIn_of _ (by decide +kernel)) ggX8_makesPlan_X8_goesThrough
set_option maxRecDepth 20000 in
theorem ggX8_makesPlan_X8_findWays : GoodIn wsX8_makesPlan wsX8_findWays := goodIn_r _ [31, 32, 18, 25, 26, 7, 27, 33, 34, 35, 36, 1, 23, 13, 37, 38, 39, 40, 41, 42, 24, 49, 50, 51, 52, 53, 54, 55, 56, 57, 58, 59, 60, 61, 62, 63, 64, 65, 66, 67, 68, 69, 70, 71, 72, 73, 74, 75, 76] (by decide +kernel) (by decide +kernel)
set_option maxRecDepth 20000 in
theorem gX8_makesPlan_X8_findWays : GoodIn wsX8_makesPlan (wsV RX8 119 RX8 yX8_findWays wsX8_findWays) := goodIn_app (goodIn_of _ (by decide +kernel)) ggX8_makesPlan_X8_findWays
set_option maxRecDepth 20000 in
theorem ggX8_makesPlan_X8_findAdds : GoodIn wsX8_makesPlan wsX8_findAdds := goodIn_r _ [46, 1, 37, 23, 47, 32, 13, 48, 39, 40, 41, 7, 42, 18, 24, 25, 26, 27, 49, 50, 51, 52, 53, 54, 55, 56, 57, 58, 59, 60, 61, 62, 63, 64, 65, 66, 67, 68, 69, 70, 71, 72, 73, 74, 75, 76] (by decide +kernel) (by decide +kernel)
set_option maxRecDepth 20000 in
theorem gX8_makesPlan_X8_findAdds : GoodIn wsX8_makesPlan (wsV RX8 122 RX8 yX8_findAdds wsX8_findAdds) := goodIn_app (goodIn_of _ (by decide +kernel)) ggX8_makesPlan_X8_findAdds
theorem dX8_makesPlan_0 : decode cX8_makesPlan 0 = .ok (.aload_n 0, 1) := by decide +kernel
theorem dX8_makesPlan_1 : decode cX8_makesPlan 1 = .ok (.getfield 20, 3) := by decide +kernel
theorem dX8_makesPlan_4 : decode cX8_makesPlan 4 = .ok (.aload_n 0, 1) := by decide +kernel
theorem dX8_makesPlan_5 : decode cX8_makesPlan 5 = .ok (.getfield 89, 3) := by decide +kernel
theorem dX8_makesPlan_8 : decode cX8_makesPlan 8 = .ok (.aload_n 0, 1) := by decide +kernel
theorem dX8_makesPlan_9 : decode cX8_makesPlan 9 = .ok (.getfield 78, 3) := by decide +kernel
theorem dX8_makesPlan_12 : decode cX8_makesPlan 12 = .ok (.iastore, 1) := by decide +kernel
theorem dX8_makesPlan_13 : decode cX8_makesPlan 13 = .ok (.aload_n 0, 1) := by decide +kernel
theorem dX8_makesPlan_14 : decode cX8_makesPlan 14 = .ok (.aload_n 0, 1) := by decide +kernel
theorem dX8_makesPlan_15 : decode cX8_makesPlan 15 = .ok (.getfield 89, 3) := by decide +kernel
theorem dX8_makesPlan_18 : decode cX8_makesPlan 18 = .ok (.invokevirtual 115, 3) := by decide +kernel
theorem dX8_makesPlan_21 : decode cX8_makesPlan 21 = .ok (.aload_n 0, 1) := by decide +kernel
theorem dX8_makesPlan_22 : decode cX8_makesPlan 22 = .ok (.aload_n 0, 1) := by decide +kernel
theorem dX8_makesPlan_23 : decode cX8_makesPlan 23 = .ok (.getfield 89, 3) := by decide +kernel
theorem dX8_makesPlan_26 : decode cX8_makesPlan 26 = .ok (.invokevirtual 119, 3) := by decide +kernel
theorem dX8_makesPlan_29 : decode cX8_makesPlan 29 = .ok (.aload_n 0, 1) := by decide +kernel
theorem dX8_makesPlan_30 : decode cX8_makesPlan 30 = .ok (.aload_n 0, 1) := by decide +kernel
theorem dX8_makesPlan_31 : decode cX8_makesPlan 31 = .ok (.getfield 89, 3) := by decide +kernel
theorem dX8_makesPlan_34 : decode cX8_makesPlan 34 = .ok (.invokevirtual 122, 3) := by decide +kernel
theorem dX8_makesPlan_37 : decode cX8_makesPlan 37 = .ok (.aload_n 0, 1) := by decide +kernel
theorem dX8_makesPlan_38 : decode cX8_makesPlan 38 = .ok (.dup, 1) := by decide +kernel
theorem dX8_makesPlan_39 : decode cX8_makesPlan 39 = .ok (.getfield 89, 3) := by decide +kernel
theorem dX8_makesPlan_42 : decode cX8_makesPlan 42 = .ok (.iconst 1, 1) := by decide +kernel
theorem dX8_makesPlan_43 : decode cX8_makesPlan 43 = .ok (.iadd, 1) := by decide +kernel
theorem dX8_makesPlan_44 : decode cX8_makesPlan 44 = .ok (.putfield 89, 3) := by decide +kernel
theorem dX8_makesPlan_47 : decode cX8_makesPlan 47 = .ok (.return_, 1) := by decide +kernel
end
section
set_option maxRecDepth 20000 in
theorem ggX8_plan_X8_makesPlan : GoodIn wsX8_plan wsX8_makesPlan := goodIn_r _ [6, 7, 1, 8, 9, 10, 11, 5, 12, 13, 14, 15, 16, 17, 18, 19, 20, 21, 22, 23, 24, 25, 26, 27, 28, 29, 30, 31, 32, 33, 34, 35, 36, 37, 38, 39, 40, 41, 42, 43, 44, 45, 46, 47, 48, 49, 50, 51, 52, 53, 54, 55, 56, 57, 58, 59, 60, 61, 62, 63, 64, 65, 66, 67, 68, 69, 70, 71, 72, 73, 74, 75, 76, 77, 78, 79, 80] (by decide +kernel) (by decide +kernel)
set_option maxRecDepth 20000 in
theorem gX8_plan_X8_makesPlan : GoodIn wsX8_plan (wsV RX8 71 RX8 yX8_makesPlan wsX8_makesPlan) := goodIn_app (goodIn_of _ (by decide +kernel)) ggX8_plan_X8_makesPlan
theorem dX8_plan_0 : decode cX8_plan 0 = .ok (.aload_n 0, 1) := by decide +kernel
theorem dX8_plan_1 : decode cX8_plan 1 = .ok (.getfield 89, 3) := by decide +kernel
theorem dX8_plan_4 : decode cX8_plan 4 = .ok (.bipush 8, 2) := by decide +kernel
theorem dX8_plan_6 : decode cX8_plan 6 = .ok (.if_icmp .ne 6, 3) := by decide +kernel
theorem dX8_plan_9 : decode cX8_plan 9 = .ok (.bipush (-4), 2) := by decide +kernel
theorem dX8_plan_11 : decode cX8_plan 11 = .ok (.ireturn, 1) := by decide +kernel
theorem dX8_plan_12 : decode cX8_plan 12 = .ok (.aload_n 0, 1) := by decide +kernel
theorem dX8_plan_13 : decode cX8_plan 13 = .ok (.invokevirtual 71, 3) := by decide +kernel
theorem dX8_plan_16 : decode cX8_plan 16 = .ok (.aload_n 0, 1) := by decide +kernel
theorem dX8_plan_17 : decode cX8_plan 17 = .ok (.getfield 89, 3) := by decide +kernel
theorem dX8_plan_20 : decode cX8_plan 20 = .ok (.iconst 1, 1) := by decide +kernel
theorem dX8_plan_21 : decode cX8_plan 21 = .ok (.isub, 1) := by decide +kernel
theorem dX8_plan_22 : decode cX8_plan 22 = .ok (.ireturn, 1) := by decide +kernel
set_option maxRecDepth 20000 in
theorem ggX8_isPlain_X8_has : GoodIn wsX8_isPlain wsX8_has := goodIn_r _ [5] (by decide +kernel) (by decide +kernel)
set_option maxRecDepth 20000 in
theorem gX8_isPlain_X8_has : GoodIn wsX8_isPlain (va_wsS RX8 105 yX8_has wsX8_has) := goodIn_app (goodIn_of _ (by decide +kernel)) ggX8_isPlain_X8_has
theorem dX8_isPlain_0 : decode cX8_isPlain 0 = .ok (.aload_n 0, 1) := by decide +kernel
theorem dX8_isPlain_1 : decode cX8_isPlain 1 = .ok (.getfield 32, 3) := by decide +kernel
theorem dX8_isPlain_4 : decode cX8_isPlain 4 = .ok (.iload_n 1, 1) := by decide +kernel
theorem dX8_isPlain_5 : decode cX8_isPlain 5 = .ok (.iaload, 1) := by decide +kernel
theorem dX8_isPlain_6 : decode cX8_isPlain 6 = .ok (.iload_n 2, 1) := by decide +kernel
theorem dX8_isPlain_7 : decode cX8_isPlain 7 = .ok (.invokestatic 105, 3) := by decide +kernel
theorem dX8_isPlain_10 : decode cX8_isPlain 10 = .ok (.ireturn, 1) := by decide +kernel
set_option maxRecDepth 20000 in
theorem ggX8_kind_X8_isPlan : GoodIn wsX8_kind wsX8_isPlan := goodIn_r _ [11, 12, 13, 14, 10, 15, 24, 25, 26, 27, 28, 29, 30, 31, 32, 33, 34, 35, 36, 37, 38, 39, 40, 41, 42, 43, 44, 45, 46, 47, 48, 49, 50, 51] (by decide +kernel) (by decide +kernel)
set_option maxRecDepth 20000 in
theorem gX8_kind_X8_isPlan : GoodIn wsX8_kind (wsV RX8 125 RX8 yX8_isPlan wsX8_isPlan) := goodIn_app (goodIn_of _ (by decide +kernel)) ggX8_kind_X8_isPlan
set_option maxRecDepth 20000 in
theorem ggX8_kind_X8_isCall : GoodIn wsX8_kind wsX8_isCall := goodIn_r _ [19, 20, 13, 14, 10, 15, 24, 25, 26, 27, 28, 29, 30, 31, 32, 33, 34, 35, 36, 37, 38, 39, 40, 41, 42, 43, 44, 45, 46, 47, 48, 49, 50, 51] (by decide +kernel) (by decide +kernel)
set_option maxRecDepth 20000 in
theorem gX8_kind_X8_isCall : GoodIn wsX8_kind (wsV RX8 85 RX8 yX8_isCall wsX8_isCall) := goodIn_app (goodIn_of _ (by decide +kernel)) ggX8_kind_X8_isCall
set_option maxRecDepth 20000 in
theorem ggX8_kind_X8_has : GoodIn wsX8_kind wsX8_has := goodIn_r _ [23] (by decide +kernel) (by decide +kernel)
set_option maxRecDepth 20000 in
theorem gX8_kind_X8_has : GoodIn wsX8_kind (va_wsS RX8 105 yX8_has wsX8_has) := goodIn_app (goodIn_of _ (by decide +kernel)) ggX8_kind_X8_has
theorem dX8_kind_0 : decode cX8_kind 0 = .ok (.aload_n 0, 1) := by decide +kernel
theorem dX8_kind_1 : decode cX8_kind 1 = .ok (.iload_n 1, 1) := by decide +kernel
theorem dX8_kind_2 : decode cX8_kind 2 = .ok (.invokevirtual 125, 3) := by decide +kernel
theorem dX8_kind_5 : decode cX8_kind 5 = .ok (.ifCond .eq 11, 3) := by decide +kernel
theorem dX8_kind_8 : decode cX8_kind 8 = .ok (.aload_n 0, 1) := by decide +kernel
theorem dX8_kind_9 : decode cX8_kind 9 = .ok (.iload_n 2, 1) := by decide +kernel
theorem dX8_kind_10 : decode cX8_kind 10 = .ok (.invokevirtual 85, 3) := by decide +kernel
theorem dX8_kind_13 : decode cX8_kind 13 = .ok (.ifCond .ne 5, 3) := by decide +kernel
theorem dX8_kind_16 : decode cX8_kind 16 = .ok (.iconst (-1), 1) := by decide +kernel
theorem dX8_kind_17 : decode cX8_kind 17 = .ok (.ireturn, 1) := by decide +kernel
theorem dX8_kind_18 : decode cX8_kind 18 = .ok (.aload_n 0, 1) := by decide +kernel
theorem dX8_kind_19 : decode cX8_kind 19 = .ok (.getfield 29, 3) := by decide +kernel
theorem dX8_kind_22 : decode cX8_kind 22 = .ok (.iload_n 1, 1) := by decide +kernel
theorem dX8_kind_23 : decode cX8_kind 23 = .ok (.iaload, 1) := by decide +kernel
theorem dX8_kind_24 : decode cX8_kind 24 = .ok (.iload_n 2, 1) := by decide +kernel
theorem dX8_kind_25 : decode cX8_kind 25 = .ok (.invokestatic 105, 3) := by decide +kernel
theorem dX8_kind_28 : decode cX8_kind 28 = .ok (.ifCond .eq 5, 3) := by decide +kernel
theorem dX8_kind_31 : decode cX8_kind 31 = .ok (.iconst 1, 1) := by decide +kernel
theorem dX8_kind_32 : decode cX8_kind 32 = .ok (.ireturn, 1) := by decide +kernel
theorem dX8_kind_33 : decode cX8_kind 33 = .ok (.iload_n 2, 1) := by decide +kernel
theorem dX8_kind_34 : decode cX8_kind 34 = .ok (.aload_n 0, 1) := by decide +kernel
theorem dX8_kind_35 : decode cX8_kind 35 = .ok (.getfield 20, 3) := by decide +kernel
theorem dX8_kind_38 : decode cX8_kind 38 = .ok (.iload_n 1, 1) := by decide +kernel
theorem dX8_kind_39 : decode cX8_kind 39 = .ok (.iaload, 1) := by decide +kernel
theorem dX8_kind_40 : decode cX8_kind 40 = .ok (.if_icmp .lt 5, 3) := by decide +kernel
theorem dX8_kind_43 : decode cX8_kind 43 = .ok (.iconst 2, 1) := by decide +kernel
theorem dX8_kind_44 : decode cX8_kind 44 = .ok (.ireturn, 1) := by decide +kernel
theorem dX8_kind_45 : decode cX8_kind 45 = .ok (.aload_n 0, 1) := by decide +kernel
theorem dX8_kind_46 : decode cX8_kind 46 = .ok (.getfield 23, 3) := by decide +kernel
theorem dX8_kind_49 : decode cX8_kind 49 = .ok (.iload_n 1, 1) := by decide +kernel
theorem dX8_kind_50 : decode cX8_kind 50 = .ok (.iaload, 1) := by decide +kernel
theorem dX8_kind_51 : decode cX8_kind 51 = .ok (.aload_n 0, 1) := by decide +kernel
theorem dX8_kind_52 : decode cX8_kind 52 = .ok (.getfield 7, 3) := by decide +kernel
theorem dX8_kind_55 : decode cX8_kind 55 = .ok (.iload_n 2, 1) := by decide +kernel
theorem dX8_kind_56 : decode cX8_kind 56 = .ok (.iaload, 1) := by decide +kernel
theorem dX8_kind_57 : decode cX8_kind 57 = .ok (.invokestatic 105, 3) := by decide +kernel
theorem dX8_kind_60 : decode cX8_kind 60 = .ok (.ifCond .ne 7, 3) := by decide +kernel
theorem dX8_kind_63 : decode cX8_kind 63 = .ok (.iconst 3, 1) := by decide +kernel
theorem dX8_kind_64 : decode cX8_kind 64 = .ok (.goto 26, 3) := by decide +kernel
theorem dX8_kind_67 : decode cX8_kind 67 = .ok (.aload_n 0, 1) := by decide +kernel
theorem dX8_kind_68 : decode cX8_kind 68 = .ok (.getfield 26, 3) := by decide +kernel
theorem dX8_kind_71 : decode cX8_kind 71 = .ok (.iload_n 1, 1) := by decide +kernel
theorem dX8_kind_72 : decode cX8_kind 72 = .ok (.iaload, 1) := by decide +kernel
theorem dX8_kind_73 : decode cX8_kind 73 = .ok (.aload_n 0, 1) := by decide +kernel
theorem dX8_kind_74 : decode cX8_kind 74 = .ok (.getfield 13, 3) := by decide +kernel
theorem dX8_kind_77 : decode cX8_kind 77 = .ok (.iload_n 2, 1) := by decide +kernel
theorem dX8_kind_78 : decode cX8_kind 78 = .ok (.iaload, 1) := by decide +kernel
theorem dX8_kind_79 : decode cX8_kind 79 = .ok (.invokestatic 105, 3) := by decide +kernel
theorem dX8_kind_82 : decode cX8_kind 82 = .ok (.ifCond .eq 7, 3) := by decide +kernel
theorem dX8_kind_85 : decode cX8_kind 85 = .ok (.iconst 4, 1) := by decide +kernel
theorem dX8_kind_86 : decode cX8_kind 86 = .ok (.goto 4, 3) := by decide +kernel
theorem dX8_kind_89 : decode cX8_kind 89 = .ok (.iconst 0, 1) := by decide +kernel
theorem dX8_kind_90 : decode cX8_kind 90 = .ok (.ireturn, 1) := by decide +kernel
set_option maxRecDepth 20000 in
theorem ggX8_adds_X8_isPlan : GoodIn wsX8_adds wsX8_isPlan := goodIn_r _ [6, 7, 8, 9, 5, 10, 24, 25, 26, 27, 28, 29, 30, 31, 32, 33, 34, 35, 36, 37, 38, 39, 40, 41, 42, 43, 44, 45, 46, 47, 48, 49, 50, 51] (by decide +kernel) (by decide +kernel)
set_option maxRecDepth 20000 in
theorem gX8_adds_X8_isPlan : GoodIn wsX8_adds (wsV RX8 125 RX8 yX8_isPlan wsX8_isPlan) := goodIn_app (goodIn_of _ (by decide +kernel)) ggX8_adds_X8_isPlan
set_option maxRecDepth 20000 in
theorem ggX8_adds_X8_isCall : GoodIn wsX8_adds wsX8_isCall := goodIn_r _ [14, 15, 8, 9, 5, 10, 24, 25, 26, 27, 28, 29, 30, 31, 32, 33, 34, 35, 36, 37, 38, 39, 40, 41, 42, 43, 44, 45, 46, 47, 48, 49, 50, 51] (by decide +kernel) (by decide +kernel)
set_option maxRecDepth 20000 in
theorem gX8_adds_X8_isCall : GoodIn wsX8_adds (wsV RX8 85 RX8 yX8_isCall wsX8_isCall) := goodIn_app (goodIn_of _ (by decide +kernel)) ggX8_adds_X8_isCall
set_option maxRecDepth 20000 in
theorem ggX8_adds_X8_isPlain : GoodIn wsX8_adds wsX8_isPlain := goodIn_r _ [19, 20, 21, 22, 5, 23, 24, 25, 26, 27, 28, 29, 30, 31, 32, 33, 34, 35, 36, 37, 38, 39, 40, 41, 42, 43, 44, 45, 46, 47, 48, 49, 50, 51] (by decide +kernel) (by decide +kernel)
set_option maxRecDepth 20000 in
theorem gX8_adds_X8_isPlain : GoodIn wsX8_adds (wsV RX8 128 RX8 yX8_isPlain wsX8_isPlain) := goodIn_app (goodIn_of _ (by decide +kernel)) ggX8_adds_X8_isPlain
theorem dX8_adds_0 : decode cX8_adds 0 = .ok (.aload_n 0, 1) := by decide +kernel
theorem dX8_adds_1 : decode cX8_adds 1 = .ok (.iload_n 1, 1) := by decide +kernel
theorem dX8_adds_2 : decode cX8_adds 2 = .ok (.invokevirtual 125, 3) := by decide +kernel
theorem dX8_adds_5 : decode cX8_adds 5 = .ok (.ifCond .eq 11, 3) := by decide +kernel
theorem dX8_adds_8 : decode cX8_adds 8 = .ok (.aload_n 0, 1) := by decide +kernel
theorem dX8_adds_9 : decode cX8_adds 9 = .ok (.iload_n 2, 1) := by decide +kernel
theorem dX8_adds_10 : decode cX8_adds 10 = .ok (.invokevirtual 85, 3) := by decide +kernel
theorem dX8_adds_13 : decode cX8_adds 13 = .ok (.ifCond .ne 5, 3) := by decide +kernel
theorem dX8_adds_16 : decode cX8_adds 16 = .ok (.iconst (-1), 1) := by decide +kernel
theorem dX8_adds_17 : decode cX8_adds 17 = .ok (.ireturn, 1) := by decide +kernel
theorem dX8_adds_18 : decode cX8_adds 18 = .ok (.aload_n 0, 1) := by decide +kernel
theorem dX8_adds_19 : decode cX8_adds 19 = .ok (.iload_n 1, 1) := by decide +kernel
theorem dX8_adds_20 : decode cX8_adds 20 = .ok (.iload_n 2, 1) := by decide +kernel
theorem dX8_adds_21 : decode cX8_adds 21 = .ok (.invokevirtual 128, 3) := by decide +kernel
theorem dX8_adds_24 : decode cX8_adds 24 = .ok (.ifCond .eq 17, 3) := by decide +kernel
theorem dX8_adds_27 : decode cX8_adds 27 = .ok (.aload_n 0, 1) := by decide +kernel
theorem dX8_adds_28 : decode cX8_adds 28 = .ok (.getfield 38, 3) := by decide +kernel
theorem dX8_adds_31 : decode cX8_adds 31 = .ok (.bipush 24, 2) := by decide +kernel
theorem dX8_adds_33 : decode cX8_adds 33 = .ok (.iload_n 1, 1) := by decide +kernel
theorem dX8_adds_34 : decode cX8_adds 34 = .ok (.imul, 1) := by decide +kernel
theorem dX8_adds_35 : decode cX8_adds 35 = .ok (.iload_n 2, 1) := by decide +kernel
theorem dX8_adds_36 : decode cX8_adds 36 = .ok (.iadd, 1) := by decide +kernel
theorem dX8_adds_37 : decode cX8_adds 37 = .ok (.iaload, 1) := by decide +kernel
theorem dX8_adds_38 : decode cX8_adds 38 = .ok (.goto 5, 3) := by decide +kernel
theorem dX8_adds_41 : decode cX8_adds 41 = .ok (.bipush (-9), 2) := by decide +kernel
theorem dX8_adds_43 : decode cX8_adds 43 = .ok (.ireturn, 1) := by decide +kernel
set_option maxRecDepth 20000 in
theorem ggX8_ways_X8_isPlan : GoodIn wsX8_ways wsX8_isPlan := goodIn_r _ [6, 7, 8, 9, 5, 10, 14, 15, 16, 17, 18, 19, 20, 21, 22, 23, 24, 25, 26, 27, 28, 29, 30, 31, 32, 33, 34, 35, 36, 37, 38, 39, 40, 41] (by decide +kernel) (by decide +kernel)
set_option maxRecDepth 20000 in
theorem gX8_ways_X8_isPlan : GoodIn wsX8_ways (wsV RX8 125 RX8 yX8_isPlan wsX8_isPlan) := goodIn_app (goodIn_of _ (by decide +kernel)) ggX8_ways_X8_isPlan
set_option maxRecDepth 20000 in
theorem ggX8_ways_X8_isRoutine : GoodIn wsX8_ways wsX8_isRoutine := goodIn_r _ [13, 8, 9, 5, 10] (by decide +kernel) (by decide +kernel)
set_option maxRecDepth 20000 in
theorem gX8_ways_X8_isRoutine : GoodIn wsX8_ways (va_wsS RX8 81 yX8_isRoutine wsX8_isRoutine) := goodIn_app (goodIn_of _ (by decide +kernel)) ggX8_ways_X8_isRoutine
theorem dX8_ways_0 : decode cX8_ways 0 = .ok (.aload_n 0, 1) := by decide +kernel
theorem dX8_ways_1 : decode cX8_ways 1 = .ok (.iload_n 1, 1) := by decide +kernel
theorem dX8_ways_2 : decode cX8_ways 2 = .ok (.invokevirtual 125, 3) := by decide +kernel
theorem dX8_ways_5 : decode cX8_ways 5 = .ok (.ifCond .eq 24, 3) := by decide +kernel
theorem dX8_ways_8 : decode cX8_ways 8 = .ok (.iload_n 2, 1) := by decide +kernel
theorem dX8_ways_9 : decode cX8_ways 9 = .ok (.invokestatic 81, 3) := by decide +kernel
theorem dX8_ways_12 : decode cX8_ways 12 = .ok (.ifCond .eq 17, 3) := by decide +kernel
theorem dX8_ways_15 : decode cX8_ways 15 = .ok (.aload_n 0, 1) := by decide +kernel
theorem dX8_ways_16 : decode cX8_ways 16 = .ok (.getfield 35, 3) := by decide +kernel
theorem dX8_ways_19 : decode cX8_ways 19 = .ok (.bipush 10, 2) := by decide +kernel
theorem dX8_ways_21 : decode cX8_ways 21 = .ok (.iload_n 1, 1) := by decide +kernel
theorem dX8_ways_22 : decode cX8_ways 22 = .ok (.imul, 1) := by decide +kernel
theorem dX8_ways_23 : decode cX8_ways 23 = .ok (.iload_n 2, 1) := by decide +kernel
theorem dX8_ways_24 : decode cX8_ways 24 = .ok (.iadd, 1) := by decide +kernel
theorem dX8_ways_25 : decode cX8_ways 25 = .ok (.iaload, 1) := by decide +kernel
theorem dX8_ways_26 : decode cX8_ways 26 = .ok (.goto 4, 3) := by decide +kernel
theorem dX8_ways_29 : decode cX8_ways 29 = .ok (.iconst (-1), 1) := by decide +kernel
theorem dX8_ways_30 : decode cX8_ways 30 = .ok (.ireturn, 1) := by decide +kernel
set_option maxRecDepth 20000 in
theorem ggX8_ofPlan_X8_isPlan : GoodIn wsX8_ofPlan wsX8_isPlan := goodIn_r _ [9, 10, 11, 12, 8, 13, 14, 15, 16, 17, 18, 19, 20, 21, 22, 23, 24, 25, 26, 27, 28, 29, 30, 31, 32, 33, 34, 35, 36, 37, 38, 39, 40, 41] (by decide +kernel) (by decide +kernel)
set_option maxRecDepth 20000 in
theorem gX8_ofPlan_X8_isPlan : GoodIn wsX8_ofPlan (wsV RX8 125 RX8 yX8_isPlan wsX8_isPlan) := goodIn_app (goodIn_of _ (by decide +kernel)) ggX8_ofPlan_X8_isPlan
theorem dX8_ofPlan_0 : decode cX8_ofPlan 0 = .ok (.aload_n 0, 1) := by decide +kernel
theorem dX8_ofPlan_1 : decode cX8_ofPlan 1 = .ok (.iload_n 1, 1) := by decide +kernel
theorem dX8_ofPlan_2 : decode cX8_ofPlan 2 = .ok (.invokevirtual 125, 3) := by decide +kernel
theorem dX8_ofPlan_5 : decode cX8_ofPlan 5 = .ok (.ifCond .ne 5, 3) := by decide +kernel
theorem dX8_ofPlan_8 : decode cX8_ofPlan 8 = .ok (.iconst (-1), 1) := by decide +kernel
theorem dX8_ofPlan_9 : decode cX8_ofPlan 9 = .ok (.ireturn, 1) := by decide +kernel
theorem dX8_ofPlan_10 : decode cX8_ofPlan 10 = .ok (.iload_n 2, 1) := by decide +kernel
theorem dX8_ofPlan_11 : decode cX8_ofPlan 11 = .ok (.tableswitch 57 0 3 #[29, 36, 43, 50], 29) := by decide +kernel
theorem dX8_ofPlan_40 : decode cX8_ofPlan 40 = .ok (.aload_n 0, 1) := by decide +kernel
theorem dX8_ofPlan_41 : decode cX8_ofPlan 41 = .ok (.getfield 23, 3) := by decide +kernel
theorem dX8_ofPlan_44 : decode cX8_ofPlan 44 = .ok (.iload_n 1, 1) := by decide +kernel
theorem dX8_ofPlan_45 : decode cX8_ofPlan 45 = .ok (.iaload, 1) := by decide +kernel
theorem dX8_ofPlan_46 : decode cX8_ofPlan 46 = .ok (.ireturn, 1) := by decide +kernel
theorem dX8_ofPlan_47 : decode cX8_ofPlan 47 = .ok (.aload_n 0, 1) := by decide +kernel
theorem dX8_ofPlan_48 : decode cX8_ofPlan 48 = .ok (.getfield 26, 3) := by decide +kernel
theorem dX8_ofPlan_51 : decode cX8_ofPlan 51 = .ok (.iload_n 1, 1) := by decide +kernel
theorem dX8_ofPlan_52 : decode cX8_ofPlan 52 = .ok (.iaload, 1) := by decide +kernel
theorem dX8_ofPlan_53 : decode cX8_ofPlan 53 = .ok (.ireturn, 1) := by decide +kernel
theorem dX8_ofPlan_54 : decode cX8_ofPlan 54 = .ok (.aload_n 0, 1) := by decide +kernel
theorem dX8_ofPlan_55 : decode cX8_ofPlan 55 = .ok (.getfield 29, 3) := by decide +kernel
theorem dX8_ofPlan_58 : decode cX8_ofPlan 58 = .ok (.iload_n 1, 1) := by decide +kernel
theorem dX8_ofPlan_59 : decode cX8_ofPlan 59 = .ok (.iaload, 1) := by decide +kernel
theorem dX8_ofPlan_60 : decode cX8_ofPlan 60 = .ok (.ireturn, 1) := by decide +kernel
theorem dX8_ofPlan_61 : decode cX8_ofPlan 61 = .ok (.aload_n 0, 1) := by decide +kernel
theorem dX8_ofPlan_62 : decode cX8_ofPlan 62 = .ok (.getfield 32, 3) := by decide +kernel
theorem dX8_ofPlan_65 : decode cX8_ofPlan 65 = .ok (.iload_n 1, 1) := by decide +kernel
theorem dX8_ofPlan_66 : decode cX8_ofPlan 66 = .ok (.iaload, 1) := by decide +kernel
theorem dX8_ofPlan_67 : decode cX8_ofPlan 67 = .ok (.ireturn, 1) := by decide +kernel
theorem dX8_ofPlan_68 : decode cX8_ofPlan 68 = .ok (.bipush (-2), 2) := by decide +kernel
theorem dX8_ofPlan_70 : decode cX8_ofPlan 70 = .ok (.ireturn, 1) := by decide +kernel
set_option maxRecDepth 20000 in
theorem ggX8_lastTo_X8_isPlain : GoodIn wsX8_lastTo wsX8_isPlain := goodIn_r _ [10, 11, 12, 13, 9, 14, 18, 19, 20, 21, 22, 23, 24, 25, 26, 27, 28, 29, 30, 31, 32, 33, 34, 35, 36, 37, 38, 39, 40, 41, 42, 43, 44, 45] (by decide +kernel) (by decide +kernel)
set_option maxRecDepth 20000 in
theorem gX8_lastTo_X8_isPlain : GoodIn wsX8_lastTo (wsV RX8 128 RX8 yX8_isPlain wsX8_isPlain) := goodIn_app (goodIn_of _ (by decide +kernel)) ggX8_lastTo_X8_isPlain
set_option maxRecDepth 20000 in
theorem ggX8_lastTo_X8_within : GoodIn wsX8_lastTo wsX8_within := goodIn_r _ [17] (by decide +kernel) (by decide +kernel)
set_option maxRecDepth 20000 in
theorem gX8_lastTo_X8_within : GoodIn wsX8_lastTo (va_wsS RX8 74 yX8_within wsX8_within) := goodIn_app (goodIn_of _ (by decide +kernel)) ggX8_lastTo_X8_within
theorem dX8_lastTo_0 : decode cX8_lastTo 0 = .ok (.iconst 0, 1) := by decide +kernel
theorem dX8_lastTo_1 : decode cX8_lastTo 1 = .ok (.istore 4, 2) := by decide +kernel
theorem dX8_lastTo_3 : decode cX8_lastTo 3 = .ok (.iload 4, 2) := by decide +kernel
theorem dX8_lastTo_5 : decode cX8_lastTo 5 = .ok (.aload_n 0, 1) := by decide +kernel
theorem dX8_lastTo_6 : decode cX8_lastTo 6 = .ok (.getfield 20, 3) := by decide +kernel
theorem dX8_lastTo_9 : decode cX8_lastTo 9 = .ok (.iload_n 1, 1) := by decide +kernel
theorem dX8_lastTo_10 : decode cX8_lastTo 10 = .ok (.iaload, 1) := by decide +kernel
theorem dX8_lastTo_11 : decode cX8_lastTo 11 = .ok (.if_icmp .ge 77, 3) := by decide +kernel
theorem dX8_lastTo_14 : decode cX8_lastTo 14 = .ok (.iload_n 3, 1) := by decide +kernel
theorem dX8_lastTo_15 : decode cX8_lastTo 15 = .ok (.aload_n 0, 1) := by decide +kernel
theorem dX8_lastTo_16 : decode cX8_lastTo 16 = .ok (.getfield 38, 3) := by decide +kernel
theorem dX8_lastTo_19 : decode cX8_lastTo 19 = .ok (.bipush 24, 2) := by decide +kernel
theorem dX8_lastTo_21 : decode cX8_lastTo 21 = .ok (.iload_n 1, 1) := by decide +kernel
theorem dX8_lastTo_22 : decode cX8_lastTo 22 = .ok (.imul, 1) := by decide +kernel
theorem dX8_lastTo_23 : decode cX8_lastTo 23 = .ok (.iload 4, 2) := by decide +kernel
theorem dX8_lastTo_25 : decode cX8_lastTo 25 = .ok (.iadd, 1) := by decide +kernel
theorem dX8_lastTo_26 : decode cX8_lastTo 26 = .ok (.iaload, 1) := by decide +kernel
theorem dX8_lastTo_27 : decode cX8_lastTo 27 = .ok (.isub, 1) := by decide +kernel
theorem dX8_lastTo_28 : decode cX8_lastTo 28 = .ok (.istore 5, 2) := by decide +kernel
theorem dX8_lastTo_30 : decode cX8_lastTo 30 = .ok (.aload_n 0, 1) := by decide +kernel
theorem dX8_lastTo_31 : decode cX8_lastTo 31 = .ok (.iload_n 1, 1) := by decide +kernel
theorem dX8_lastTo_32 : decode cX8_lastTo 32 = .ok (.iload 4, 2) := by decide +kernel
theorem dX8_lastTo_34 : decode cX8_lastTo 34 = .ok (.invokevirtual 128, 3) := by decide +kernel
theorem dX8_lastTo_37 : decode cX8_lastTo 37 = .ok (.ifCond .eq 45, 3) := by decide +kernel
theorem dX8_lastTo_40 : decode cX8_lastTo 40 = .ok (.aload_n 0, 1) := by decide +kernel
theorem dX8_lastTo_41 : decode cX8_lastTo 41 = .ok (.getfield 13, 3) := by decide +kernel
theorem dX8_lastTo_44 : decode cX8_lastTo 44 = .ok (.iload 4, 2) := by decide +kernel
theorem dX8_lastTo_46 : decode cX8_lastTo 46 = .ok (.iaload, 1) := by decide +kernel
theorem dX8_lastTo_47 : decode cX8_lastTo 47 = .ok (.iload_n 2, 1) := by decide +kernel
theorem dX8_lastTo_48 : decode cX8_lastTo 48 = .ok (.if_icmp .ne 34, 3) := by decide +kernel
theorem dX8_lastTo_51 : decode cX8_lastTo 51 = .ok (.iload 5, 2) := by decide +kernel
theorem dX8_lastTo_53 : decode cX8_lastTo 53 = .ok (.iconst 0, 1) := by decide +kernel
theorem dX8_lastTo_54 : decode cX8_lastTo 54 = .ok (.aload_n 0, 1) := by decide +kernel
theorem dX8_lastTo_55 : decode cX8_lastTo 55 = .ok (.getfield 35, 3) := by decide +kernel
theorem dX8_lastTo_58 : decode cX8_lastTo 58 = .ok (.bipush 10, 2) := by decide +kernel
theorem dX8_lastTo_60 : decode cX8_lastTo 60 = .ok (.iload_n 1, 1) := by decide +kernel
theorem dX8_lastTo_61 : decode cX8_lastTo 61 = .ok (.imul, 1) := by decide +kernel
theorem dX8_lastTo_62 : decode cX8_lastTo 62 = .ok (.aload_n 0, 1) := by decide +kernel
theorem dX8_lastTo_63 : decode cX8_lastTo 63 = .ok (.getfield 7, 3) := by decide +kernel
theorem dX8_lastTo_66 : decode cX8_lastTo 66 = .ok (.iload 4, 2) := by decide +kernel
theorem dX8_lastTo_68 : decode cX8_lastTo 68 = .ok (.iaload, 1) := by decide +kernel
theorem dX8_lastTo_69 : decode cX8_lastTo 69 = .ok (.iadd, 1) := by decide +kernel
theorem dX8_lastTo_70 : decode cX8_lastTo 70 = .ok (.iaload, 1) := by decide +kernel
theorem dX8_lastTo_71 : decode cX8_lastTo 71 = .ok (.iconst 1, 1) := by decide +kernel
theorem dX8_lastTo_72 : decode cX8_lastTo 72 = .ok (.isub, 1) := by decide +kernel
theorem dX8_lastTo_73 : decode cX8_lastTo 73 = .ok (.invokestatic 74, 3) := by decide +kernel
theorem dX8_lastTo_76 : decode cX8_lastTo 76 = .ok (.ifCond .eq 6, 3) := by decide +kernel
theorem dX8_lastTo_79 : decode cX8_lastTo 79 = .ok (.iload 4, 2) := by decide +kernel
theorem dX8_lastTo_81 : decode cX8_lastTo 81 = .ok (.ireturn, 1) := by decide +kernel
theorem dX8_lastTo_82 : decode cX8_lastTo 82 = .ok (.iinc 4 1, 3) := by decide +kernel
theorem dX8_lastTo_85 : decode cX8_lastTo 85 = .ok (.goto (-82), 3) := by decide +kernel
theorem dX8_lastTo_88 : decode cX8_lastTo 88 = .ok (.bipush (-9), 2) := by decide +kernel
theorem dX8_lastTo_90 : decode cX8_lastTo 90 = .ok (.ireturn, 1) := by decide +kernel
set_option maxRecDepth 20000 in
theorem ggX8_decodes_X8_lastTo : GoodIn wsX8_decodes wsX8_lastTo := goodIn_r _ [9, 10, 3, 11, 12, 4, 13, 14, 15, 8, 16, 17, 18, 19, 20, 21, 22, 23, 24, 25, 26, 27, 28, 29, 30, 31, 32, 33, 34, 35, 36, 37, 38, 39, 40, 41, 42, 43, 44, 45, 46, 47, 48, 49, 50, 51] (by decide +kernel) (by decide +kernel)
set_option maxRecDepth 20000 in
theorem gX8_decodes_X8_lastTo : GoodIn wsX8_decodes (wsV RX8 134 RX8 yX8_lastTo wsX8_lastTo) := goodIn_app (goodIn_of _ (by decide +kernel)) ggX8_decodes_X8_lastTo
theorem dX8_decodes_0 : decode cX8_decodes 0 = .ok (.aload_n 0, 1) := by decide +kernel
theorem dX8_decodes_1 : decode cX8_decodes 1 = .ok (.iconst 0, 1) := by decide +kernel
theorem dX8_decodes_2 : decode cX8_decodes 2 = .ok (.putfield 131, 3) := by decide +kernel
theorem dX8_decodes_5 : decode cX8_decodes 5 = .ok (.iload_n 3, 1) := by decide +kernel
theorem dX8_decodes_6 : decode cX8_decodes 6 = .ok (.istore 5, 2) := by decide +kernel
theorem dX8_decodes_8 : decode cX8_decodes 8 = .ok (.iload 4, 2) := by decide +kernel
theorem dX8_decodes_10 : decode cX8_decodes 10 = .ok (.istore 6, 2) := by decide +kernel
theorem dX8_decodes_12 : decode cX8_decodes 12 = .ok (.iload 5, 2) := by decide +kernel
theorem dX8_decodes_14 : decode cX8_decodes 14 = .ok (.iload_n 2, 1) := by decide +kernel
theorem dX8_decodes_15 : decode cX8_decodes 15 = .ok (.if_icmp .eq 73, 3) := by decide +kernel
theorem dX8_decodes_18 : decode cX8_decodes 18 = .ok (.aload_n 0, 1) := by decide +kernel
theorem dX8_decodes_19 : decode cX8_decodes 19 = .ok (.iload_n 1, 1) := by decide +kernel
theorem dX8_decodes_20 : decode cX8_decodes 20 = .ok (.iload 5, 2) := by decide +kernel
theorem dX8_decodes_22 : decode cX8_decodes 22 = .ok (.iload 6, 2) := by decide +kernel
theorem dX8_decodes_24 : decode cX8_decodes 24 = .ok (.invokevirtual 134, 3) := by decide +kernel
theorem dX8_decodes_27 : decode cX8_decodes 27 = .ok (.istore 7, 2) := by decide +kernel
theorem dX8_decodes_29 : decode cX8_decodes 29 = .ok (.iload 7, 2) := by decide +kernel
theorem dX8_decodes_31 : decode cX8_decodes 31 = .ok (.bipush (-9), 2) := by decide +kernel
theorem dX8_decodes_33 : decode cX8_decodes 33 = .ok (.if_icmp .ne 5, 3) := by decide +kernel
theorem dX8_decodes_36 : decode cX8_decodes 36 = .ok (.iconst 0, 1) := by decide +kernel
theorem dX8_decodes_37 : decode cX8_decodes 37 = .ok (.ireturn, 1) := by decide +kernel
theorem dX8_decodes_38 : decode cX8_decodes 38 = .ok (.aload_n 0, 1) := by decide +kernel
theorem dX8_decodes_39 : decode cX8_decodes 39 = .ok (.getfield 47, 3) := by decide +kernel
theorem dX8_decodes_42 : decode cX8_decodes 42 = .ok (.aload_n 0, 1) := by decide +kernel
theorem dX8_decodes_43 : decode cX8_decodes 43 = .ok (.getfield 131, 3) := by decide +kernel
theorem dX8_decodes_46 : decode cX8_decodes 46 = .ok (.iload 7, 2) := by decide +kernel
theorem dX8_decodes_48 : decode cX8_decodes 48 = .ok (.iastore, 1) := by decide +kernel
theorem dX8_decodes_49 : decode cX8_decodes 49 = .ok (.aload_n 0, 1) := by decide +kernel
theorem dX8_decodes_50 : decode cX8_decodes 50 = .ok (.dup, 1) := by decide +kernel
theorem dX8_decodes_51 : decode cX8_decodes 51 = .ok (.getfield 131, 3) := by decide +kernel
theorem dX8_decodes_54 : decode cX8_decodes 54 = .ok (.iconst 1, 1) := by decide +kernel
theorem dX8_decodes_55 : decode cX8_decodes 55 = .ok (.iadd, 1) := by decide +kernel
theorem dX8_decodes_56 : decode cX8_decodes 56 = .ok (.putfield 131, 3) := by decide +kernel
theorem dX8_decodes_59 : decode cX8_decodes 59 = .ok (.iload 6, 2) := by decide +kernel
theorem dX8_decodes_61 : decode cX8_decodes 61 = .ok (.aload_n 0, 1) := by decide +kernel
theorem dX8_decodes_62 : decode cX8_decodes 62 = .ok (.getfield 38, 3) := by decide +kernel
theorem dX8_decodes_65 : decode cX8_decodes 65 = .ok (.bipush 24, 2) := by decide +kernel
theorem dX8_decodes_67 : decode cX8_decodes 67 = .ok (.iload_n 1, 1) := by decide +kernel
theorem dX8_decodes_68 : decode cX8_decodes 68 = .ok (.imul, 1) := by decide +kernel
theorem dX8_decodes_69 : decode cX8_decodes 69 = .ok (.iload 7, 2) := by decide +kernel
theorem dX8_decodes_71 : decode cX8_decodes 71 = .ok (.iadd, 1) := by decide +kernel
theorem dX8_decodes_72 : decode cX8_decodes 72 = .ok (.iaload, 1) := by decide +kernel
theorem dX8_decodes_73 : decode cX8_decodes 73 = .ok (.isub, 1) := by decide +kernel
theorem dX8_decodes_74 : decode cX8_decodes 74 = .ok (.istore 6, 2) := by decide +kernel
theorem dX8_decodes_76 : decode cX8_decodes 76 = .ok (.aload_n 0, 1) := by decide +kernel
theorem dX8_decodes_77 : decode cX8_decodes 77 = .ok (.getfield 7, 3) := by decide +kernel
theorem dX8_decodes_80 : decode cX8_decodes 80 = .ok (.iload 7, 2) := by decide +kernel
theorem dX8_decodes_82 : decode cX8_decodes 82 = .ok (.iaload, 1) := by decide +kernel
theorem dX8_decodes_83 : decode cX8_decodes 83 = .ok (.istore 5, 2) := by decide +kernel
theorem dX8_decodes_85 : decode cX8_decodes 85 = .ok (.goto (-73), 3) := by decide +kernel
theorem dX8_decodes_88 : decode cX8_decodes 88 = .ok (.iload 6, 2) := by decide +kernel
theorem dX8_decodes_90 : decode cX8_decodes 90 = .ok (.ifCond .ne 7, 3) := by decide +kernel
theorem dX8_decodes_93 : decode cX8_decodes 93 = .ok (.iconst 1, 1) := by decide +kernel
theorem dX8_decodes_94 : decode cX8_decodes 94 = .ok (.goto 4, 3) := by decide +kernel
theorem dX8_decodes_97 : decode cX8_decodes 97 = .ok (.iconst 0, 1) := by decide +kernel
theorem dX8_decodes_98 : decode cX8_decodes 98 = .ok (.ireturn, 1) := by decide +kernel
set_option maxRecDepth 20000 in
theorem ggX8_decoded_X8_isPlan : GoodIn wsX8_decoded wsX8_isPlan := goodIn_r _ [8, 9, 10, 11, 7, 12, 37, 38, 39, 40, 41, 42, 43, 44, 45, 46, 47, 48, 49, 50, 51, 52, 53, 54, 55, 56, 57, 58, 59, 60, 61, 62, 63, 64] (by decide +kernel) (by decide +kernel)
set_option maxRecDepth 20000 in
theorem gX8_decoded_X8_isPlan : GoodIn wsX8_decoded (wsV RX8 125 RX8 yX8_isPlan wsX8_isPlan) := goodIn_app (goodIn_of _ (by decide +kernel)) ggX8_decoded_X8_isPlan
set_option maxRecDepth 20000 in
theorem ggX8_decoded_X8_isRoutine : GoodIn wsX8_decoded wsX8_isRoutine := goodIn_r _ [15, 10, 11, 7, 12] (by decide +kernel) (by decide +kernel)
set_option maxRecDepth 20000 in
theorem gX8_decoded_X8_isRoutine : GoodIn wsX8_decoded (va_wsS RX8 81 yX8_isRoutine wsX8_isRoutine) := goodIn_app (goodIn_of _ (by decide +kernel)) ggX8_decoded_X8_isRoutine
set_option maxRecDepth 20000 in
theorem ggX8_decoded_X8_within : GoodIn wsX8_decoded wsX8_within := goodIn_r _ [12] (by decide +kernel) (by decide +kernel)
set_option maxRecDepth 20000 in
theorem gX8_decoded_X8_within : GoodIn wsX8_decoded (va_wsS RX8 74 yX8_within wsX8_within) := goodIn_app (goodIn_of _ (by decide +kernel)) ggX8_decoded_X8_within
set_option maxRecDepth 20000 in
theorem ggX8_decoded_X8_decodes : GoodIn wsX8_decoded wsX8_decodes := goodIn_r _ [19, 2, 3, 20, 21, 22, 23, 24, 7, 25, 26, 27, 28, 29, 30, 31, 32, 33, 34, 35, 36, 10, 11, 12, 37, 38, 39, 40, 41, 42, 43, 44, 45, 46, 47, 48, 49, 50, 51, 52, 53, 54, 55, 56, 57, 58, 59, 60, 61, 62, 63, 64] (by decide +kernel) (by decide +kernel)
set_option maxRecDepth 20000 in
theorem gX8_decoded_X8_decodes : GoodIn wsX8_decoded (wsV RX8 139 RX8 yX8_decodes wsX8_decodes) := goodIn_app (goodIn_of _ (by decide +kernel)) ggX8_decoded_X8_decodes
theorem dX8_decoded_0 : decode cX8_decoded 0 = .ok (.aload_n 0, 1) := by decide +kernel
theorem dX8_decoded_1 : decode cX8_decoded 1 = .ok (.iload_n 1, 1) := by decide +kernel
theorem dX8_decoded_2 : decode cX8_decoded 2 = .ok (.invokevirtual 125, 3) := by decide +kernel
theorem dX8_decoded_5 : decode cX8_decoded 5 = .ok (.ifCond .eq 17, 3) := by decide +kernel
theorem dX8_decoded_8 : decode cX8_decoded 8 = .ok (.iload_n 2, 1) := by decide +kernel
theorem dX8_decoded_9 : decode cX8_decoded 9 = .ok (.invokestatic 81, 3) := by decide +kernel
theorem dX8_decoded_12 : decode cX8_decoded 12 = .ok (.ifCond .eq 10, 3) := by decide +kernel
theorem dX8_decoded_15 : decode cX8_decoded 15 = .ok (.iload_n 3, 1) := by decide +kernel
theorem dX8_decoded_16 : decode cX8_decoded 16 = .ok (.invokestatic 81, 3) := by decide +kernel
theorem dX8_decoded_19 : decode cX8_decoded 19 = .ok (.ifCond .ne 5, 3) := by decide +kernel
theorem dX8_decoded_22 : decode cX8_decoded 22 = .ok (.iconst (-1), 1) := by decide +kernel
theorem dX8_decoded_23 : decode cX8_decoded 23 = .ok (.ireturn, 1) := by decide +kernel
theorem dX8_decoded_24 : decode cX8_decoded 24 = .ok (.iload 4, 2) := by decide +kernel
theorem dX8_decoded_26 : decode cX8_decoded 26 = .ok (.iconst 0, 1) := by decide +kernel
theorem dX8_decoded_27 : decode cX8_decoded 27 = .ok (.ldc 138, 2) := by decide +kernel
theorem dX8_decoded_29 : decode cX8_decoded 29 = .ok (.invokestatic 74, 3) := by decide +kernel
theorem dX8_decoded_32 : decode cX8_decoded 32 = .ok (.ifCond .eq 9, 3) := by decide +kernel
theorem dX8_decoded_35 : decode cX8_decoded 35 = .ok (.iload 5, 2) := by decide +kernel
theorem dX8_decoded_37 : decode cX8_decoded 37 = .ok (.iconst (-1), 1) := by decide +kernel
theorem dX8_decoded_38 : decode cX8_decoded 38 = .ok (.if_icmp .ge 6, 3) := by decide +kernel
theorem dX8_decoded_41 : decode cX8_decoded 41 = .ok (.bipush (-2), 2) := by decide +kernel
theorem dX8_decoded_43 : decode cX8_decoded 43 = .ok (.ireturn, 1) := by decide +kernel
theorem dX8_decoded_44 : decode cX8_decoded 44 = .ok (.aload_n 0, 1) := by decide +kernel
theorem dX8_decoded_45 : decode cX8_decoded 45 = .ok (.iload_n 1, 1) := by decide +kernel
theorem dX8_decoded_46 : decode cX8_decoded 46 = .ok (.iload_n 2, 1) := by decide +kernel
theorem dX8_decoded_47 : decode cX8_decoded 47 = .ok (.iload_n 3, 1) := by decide +kernel
theorem dX8_decoded_48 : decode cX8_decoded 48 = .ok (.iload 4, 2) := by decide +kernel
theorem dX8_decoded_50 : decode cX8_decoded 50 = .ok (.invokevirtual 139, 3) := by decide +kernel
theorem dX8_decoded_53 : decode cX8_decoded 53 = .ok (.ifCond .ne 6, 3) := by decide +kernel
theorem dX8_decoded_56 : decode cX8_decoded 56 = .ok (.bipush (-9), 2) := by decide +kernel
theorem dX8_decoded_58 : decode cX8_decoded 58 = .ok (.ireturn, 1) := by decide +kernel
theorem dX8_decoded_59 : decode cX8_decoded 59 = .ok (.iload 5, 2) := by decide +kernel
theorem dX8_decoded_61 : decode cX8_decoded 61 = .ok (.iconst (-1), 1) := by decide +kernel
theorem dX8_decoded_62 : decode cX8_decoded 62 = .ok (.if_icmp .ne 10, 3) := by decide +kernel
theorem dX8_decoded_65 : decode cX8_decoded 65 = .ok (.aload_n 0, 1) := by decide +kernel
theorem dX8_decoded_66 : decode cX8_decoded 66 = .ok (.getfield 131, 3) := by decide +kernel
theorem dX8_decoded_69 : decode cX8_decoded 69 = .ok (.goto 31, 3) := by decide +kernel
theorem dX8_decoded_72 : decode cX8_decoded 72 = .ok (.iload 5, 2) := by decide +kernel
theorem dX8_decoded_74 : decode cX8_decoded 74 = .ok (.aload_n 0, 1) := by decide +kernel
theorem dX8_decoded_75 : decode cX8_decoded 75 = .ok (.getfield 131, 3) := by decide +kernel
theorem dX8_decoded_78 : decode cX8_decoded 78 = .ok (.if_icmp .ge 20, 3) := by decide +kernel
theorem dX8_decoded_81 : decode cX8_decoded 81 = .ok (.aload_n 0, 1) := by decide +kernel
theorem dX8_decoded_82 : decode cX8_decoded 82 = .ok (.getfield 47, 3) := by decide +kernel
theorem dX8_decoded_85 : decode cX8_decoded 85 = .ok (.aload_n 0, 1) := by decide +kernel
theorem dX8_decoded_86 : decode cX8_decoded 86 = .ok (.getfield 131, 3) := by decide +kernel
theorem dX8_decoded_89 : decode cX8_decoded 89 = .ok (.iconst 1, 1) := by decide +kernel
theorem dX8_decoded_90 : decode cX8_decoded 90 = .ok (.isub, 1) := by decide +kernel
theorem dX8_decoded_91 : decode cX8_decoded 91 = .ok (.iload 5, 2) := by decide +kernel
theorem dX8_decoded_93 : decode cX8_decoded 93 = .ok (.isub, 1) := by decide +kernel
theorem dX8_decoded_94 : decode cX8_decoded 94 = .ok (.iaload, 1) := by decide +kernel
theorem dX8_decoded_95 : decode cX8_decoded 95 = .ok (.goto 5, 3) := by decide +kernel
theorem dX8_decoded_98 : decode cX8_decoded 98 = .ok (.bipush (-9), 2) := by decide +kernel
theorem dX8_decoded_100 : decode cX8_decoded 100 = .ok (.ireturn, 1) := by decide +kernel
theorem dX8_here_0 : decode cX8_here 0 = .ok (.aload_n 0, 1) := by decide +kernel
theorem dX8_here_1 : decode cX8_here 1 = .ok (.getfield 143, 3) := by decide +kernel
theorem dX8_here_4 : decode cX8_here 4 = .ok (.ifCond .ne 7, 3) := by decide +kernel
theorem dX8_here_7 : decode cX8_here 7 = .ok (.iconst 0, 1) := by decide +kernel
theorem dX8_here_8 : decode cX8_here 8 = .ok (.goto 19, 3) := by decide +kernel
theorem dX8_here_11 : decode cX8_here 11 = .ok (.aload_n 0, 1) := by decide +kernel
theorem dX8_here_12 : decode cX8_here 12 = .ok (.getfield 13, 3) := by decide +kernel
theorem dX8_here_15 : decode cX8_here 15 = .ok (.aload_n 0, 1) := by decide +kernel
theorem dX8_here_16 : decode cX8_here 16 = .ok (.getfield 50, 3) := by decide +kernel
theorem dX8_here_19 : decode cX8_here 19 = .ok (.aload_n 0, 1) := by decide +kernel
theorem dX8_here_20 : decode cX8_here 20 = .ok (.getfield 143, 3) := by decide +kernel
theorem dX8_here_23 : decode cX8_here 23 = .ok (.iconst 1, 1) := by decide +kernel
theorem dX8_here_24 : decode cX8_here 24 = .ok (.isub, 1) := by decide +kernel
theorem dX8_here_25 : decode cX8_here 25 = .ok (.iaload, 1) := by decide +kernel
theorem dX8_here_26 : decode cX8_here 26 = .ok (.iaload, 1) := by decide +kernel
theorem dX8_here_27 : decode cX8_here 27 = .ok (.ireturn, 1) := by decide +kernel
set_option maxRecDepth 20000 in
theorem ggX8_call_X8_isCall : GoodIn wsX8_call wsX8_isCall := goodIn_r _ [8, 9, 10, 11, 7, 12, 18, 19, 20, 21, 22, 23, 24, 25, 26, 27, 28, 29, 30, 31, 32, 33, 34, 35, 36, 37, 38, 39, 40, 41, 42, 43, 44, 45] (by decide +kernel) (by decide +kernel)
set_option maxRecDepth 20000 in
theorem gX8_call_X8_isCall : GoodIn wsX8_call (wsV RX8 85 RX8 yX8_isCall wsX8_isCall) := goodIn_app (goodIn_of _ (by decide +kernel)) ggX8_call_X8_isCall
set_option maxRecDepth 20000 in
theorem ggX8_call_X8_here : GoodIn wsX8_call wsX8_here := goodIn_r _ [16, 2, 17, 3, 18, 19, 20, 21, 22, 23, 24, 25, 26, 27, 28, 29, 30, 31, 32, 33, 34, 35, 36, 37, 38, 39, 40, 41, 42, 43, 44, 45] (by decide +kernel) (by decide +kernel)
set_option maxRecDepth 20000 in
theorem gX8_call_X8_here : GoodIn wsX8_call (wsV RX8 146 RX8 yX8_here wsX8_here) := goodIn_app (goodIn_of _ (by decide +kernel)) ggX8_call_X8_here
theorem dX8_call_0 : decode cX8_call 0 = .ok (.aload_n 0, 1) := by decide +kernel
theorem dX8_call_1 : decode cX8_call 1 = .ok (.iload_n 1, 1) := by decide +kernel
theorem dX8_call_2 : decode cX8_call 2 = .ok (.invokevirtual 85, 3) := by decide +kernel
theorem dX8_call_5 : decode cX8_call 5 = .ok (.ifCond .ne 5, 3) := by decide +kernel
theorem dX8_call_8 : decode cX8_call 8 = .ok (.iconst (-1), 1) := by decide +kernel
theorem dX8_call_9 : decode cX8_call 9 = .ok (.ireturn, 1) := by decide +kernel
theorem dX8_call_10 : decode cX8_call 10 = .ok (.aload_n 0, 1) := by decide +kernel
theorem dX8_call_11 : decode cX8_call 11 = .ok (.getfield 7, 3) := by decide +kernel
theorem dX8_call_14 : decode cX8_call 14 = .ok (.iload_n 1, 1) := by decide +kernel
theorem dX8_call_15 : decode cX8_call 15 = .ok (.iaload, 1) := by decide +kernel
theorem dX8_call_16 : decode cX8_call 16 = .ok (.aload_n 0, 1) := by decide +kernel
theorem dX8_call_17 : decode cX8_call 17 = .ok (.invokevirtual 146, 3) := by decide +kernel
theorem dX8_call_20 : decode cX8_call 20 = .ok (.if_icmp .eq 6, 3) := by decide +kernel
theorem dX8_call_23 : decode cX8_call 23 = .ok (.bipush (-3), 2) := by decide +kernel
theorem dX8_call_25 : decode cX8_call 25 = .ok (.ireturn, 1) := by decide +kernel
theorem dX8_call_26 : decode cX8_call 26 = .ok (.aload_n 0, 1) := by decide +kernel
theorem dX8_call_27 : decode cX8_call 27 = .ok (.getfield 143, 3) := by decide +kernel
theorem dX8_call_30 : decode cX8_call 30 = .ok (.bipush 30, 2) := by decide +kernel
theorem dX8_call_32 : decode cX8_call 32 = .ok (.if_icmp .ne 6, 3) := by decide +kernel
theorem dX8_call_35 : decode cX8_call 35 = .ok (.bipush (-4), 2) := by decide +kernel
theorem dX8_call_37 : decode cX8_call 37 = .ok (.ireturn, 1) := by decide +kernel
theorem dX8_call_38 : decode cX8_call 38 = .ok (.aload_n 0, 1) := by decide +kernel
theorem dX8_call_39 : decode cX8_call 39 = .ok (.getfield 50, 3) := by decide +kernel
theorem dX8_call_42 : decode cX8_call 42 = .ok (.aload_n 0, 1) := by decide +kernel
theorem dX8_call_43 : decode cX8_call 43 = .ok (.getfield 143, 3) := by decide +kernel
theorem dX8_call_46 : decode cX8_call 46 = .ok (.iload_n 1, 1) := by decide +kernel
theorem dX8_call_47 : decode cX8_call 47 = .ok (.iastore, 1) := by decide +kernel
theorem dX8_call_48 : decode cX8_call 48 = .ok (.aload_n 0, 1) := by decide +kernel
theorem dX8_call_49 : decode cX8_call 49 = .ok (.dup, 1) := by decide +kernel
theorem dX8_call_50 : decode cX8_call 50 = .ok (.getfield 143, 3) := by decide +kernel
theorem dX8_call_53 : decode cX8_call 53 = .ok (.iconst 1, 1) := by decide +kernel
theorem dX8_call_54 : decode cX8_call 54 = .ok (.iadd, 1) := by decide +kernel
theorem dX8_call_55 : decode cX8_call 55 = .ok (.putfield 143, 3) := by decide +kernel
theorem dX8_call_58 : decode cX8_call 58 = .ok (.aload_n 0, 1) := by decide +kernel
theorem dX8_call_59 : decode cX8_call 59 = .ok (.invokevirtual 146, 3) := by decide +kernel
theorem dX8_call_62 : decode cX8_call 62 = .ok (.ireturn, 1) := by decide +kernel
set_option maxRecDepth 20000 in
theorem ggX8_back_X8_here : GoodIn wsX8_back wsX8_here := goodIn_r _ [6, 1, 7, 8, 9, 10, 11, 12, 13, 14, 15, 16, 17, 18, 19, 20, 21, 22, 23, 24, 25, 26, 27, 28, 29, 30, 31, 32, 33, 34, 35, 36] (by decide +kernel) (by decide +kernel)
set_option maxRecDepth 20000 in
theorem gX8_back_X8_here : GoodIn wsX8_back (wsV RX8 146 RX8 yX8_here wsX8_here) := goodIn_app (goodIn_of _ (by decide +kernel)) ggX8_back_X8_here
theorem dX8_back_0 : decode cX8_back 0 = .ok (.aload_n 0, 1) := by decide +kernel
theorem dX8_back_1 : decode cX8_back 1 = .ok (.getfield 143, 3) := by decide +kernel
theorem dX8_back_4 : decode cX8_back 4 = .ok (.ifCond .ne 6, 3) := by decide +kernel
theorem dX8_back_7 : decode cX8_back 7 = .ok (.bipush (-3), 2) := by decide +kernel
theorem dX8_back_9 : decode cX8_back 9 = .ok (.ireturn, 1) := by decide +kernel
theorem dX8_back_10 : decode cX8_back 10 = .ok (.aload_n 0, 1) := by decide +kernel
theorem dX8_back_11 : decode cX8_back 11 = .ok (.dup, 1) := by decide +kernel
theorem dX8_back_12 : decode cX8_back 12 = .ok (.getfield 143, 3) := by decide +kernel
theorem dX8_back_15 : decode cX8_back 15 = .ok (.iconst 1, 1) := by decide +kernel
theorem dX8_back_16 : decode cX8_back 16 = .ok (.isub, 1) := by decide +kernel
theorem dX8_back_17 : decode cX8_back 17 = .ok (.putfield 143, 3) := by decide +kernel
theorem dX8_back_20 : decode cX8_back 20 = .ok (.aload_n 0, 1) := by decide +kernel
theorem dX8_back_21 : decode cX8_back 21 = .ok (.invokevirtual 146, 3) := by decide +kernel
theorem dX8_back_24 : decode cX8_back 24 = .ok (.ireturn, 1) := by decide +kernel
theorem dX8_running_0 : decode cX8_running 0 = .ok (.iload_n 1, 1) := by decide +kernel
theorem dX8_running_1 : decode cX8_running 1 = .ok (.ifCond .ge 8, 3) := by decide +kernel
theorem dX8_running_4 : decode cX8_running 4 = .ok (.bipush (-2), 2) := by decide +kernel
theorem dX8_running_6 : decode cX8_running 6 = .ok (.goto 22, 3) := by decide +kernel
theorem dX8_running_9 : decode cX8_running 9 = .ok (.iload_n 1, 1) := by decide +kernel
theorem dX8_running_10 : decode cX8_running 10 = .ok (.aload_n 0, 1) := by decide +kernel
theorem dX8_running_11 : decode cX8_running 11 = .ok (.getfield 143, 3) := by decide +kernel
theorem dX8_running_14 : decode cX8_running 14 = .ok (.if_icmp .ge 12, 3) := by decide +kernel
theorem dX8_running_17 : decode cX8_running 17 = .ok (.aload_n 0, 1) := by decide +kernel
theorem dX8_running_18 : decode cX8_running 18 = .ok (.getfield 50, 3) := by decide +kernel
theorem dX8_running_21 : decode cX8_running 21 = .ok (.iload_n 1, 1) := by decide +kernel
theorem dX8_running_22 : decode cX8_running 22 = .ok (.iaload, 1) := by decide +kernel
theorem dX8_running_23 : decode cX8_running 23 = .ok (.goto 5, 3) := by decide +kernel
theorem dX8_running_26 : decode cX8_running 26 = .ok (.bipush (-9), 2) := by decide +kernel
theorem dX8_running_28 : decode cX8_running 28 = .ok (.ireturn, 1) := by decide +kernel
theorem dX8_begins_0 : decode cX8_begins 0 = .ok (.aload_n 0, 1) := by decide +kernel
theorem dX8_begins_1 : decode cX8_begins 1 = .ok (.getfield 53, 3) := by decide +kernel
theorem dX8_begins_4 : decode cX8_begins 4 = .ok (.aload_n 0, 1) := by decide +kernel
theorem dX8_begins_5 : decode cX8_begins 5 = .ok (.getfield 150, 3) := by decide +kernel
theorem dX8_begins_8 : decode cX8_begins 8 = .ok (.iload_n 1, 1) := by decide +kernel
theorem dX8_begins_9 : decode cX8_begins 9 = .ok (.iastore, 1) := by decide +kernel
theorem dX8_begins_10 : decode cX8_begins 10 = .ok (.aload_n 0, 1) := by decide +kernel
theorem dX8_begins_11 : decode cX8_begins 11 = .ok (.getfield 56, 3) := by decide +kernel
theorem dX8_begins_14 : decode cX8_begins 14 = .ok (.aload_n 0, 1) := by decide +kernel
theorem dX8_begins_15 : decode cX8_begins 15 = .ok (.getfield 150, 3) := by decide +kernel
theorem dX8_begins_18 : decode cX8_begins 18 = .ok (.iconst 0, 1) := by decide +kernel
theorem dX8_begins_19 : decode cX8_begins 19 = .ok (.iastore, 1) := by decide +kernel
theorem dX8_begins_20 : decode cX8_begins 20 = .ok (.aload_n 0, 1) := by decide +kernel
theorem dX8_begins_21 : decode cX8_begins 21 = .ok (.getfield 59, 3) := by decide +kernel
theorem dX8_begins_24 : decode cX8_begins 24 = .ok (.aload_n 0, 1) := by decide +kernel
theorem dX8_begins_25 : decode cX8_begins 25 = .ok (.getfield 150, 3) := by decide +kernel
theorem dX8_begins_28 : decode cX8_begins 28 = .ok (.bipush (-9), 2) := by decide +kernel
theorem dX8_begins_30 : decode cX8_begins 30 = .ok (.iastore, 1) := by decide +kernel
theorem dX8_begins_31 : decode cX8_begins 31 = .ok (.aload_n 0, 1) := by decide +kernel
theorem dX8_begins_32 : decode cX8_begins 32 = .ok (.dup, 1) := by decide +kernel
theorem dX8_begins_33 : decode cX8_begins 33 = .ok (.getfield 150, 3) := by decide +kernel
theorem dX8_begins_36 : decode cX8_begins 36 = .ok (.iconst 1, 1) := by decide +kernel
theorem dX8_begins_37 : decode cX8_begins 37 = .ok (.iadd, 1) := by decide +kernel
theorem dX8_begins_38 : decode cX8_begins 38 = .ok (.putfield 150, 3) := by decide +kernel
theorem dX8_begins_41 : decode cX8_begins 41 = .ok (.return_, 1) := by decide +kernel
set_option maxRecDepth 20000 in
theorem ggX8_codes_X8_begins : GoodIn wsX8_codes wsX8_begins := goodIn_r _ [10, 11, 1, 2, 4, 20, 21, 22, 23, 24, 25, 26, 27, 28, 29, 30, 31, 32, 33, 34, 35, 36, 37, 38, 39, 40, 41, 42, 43, 44, 45, 46, 47] (by decide +kernel) (by decide +kernel)
set_option maxRecDepth 20000 in
theorem gX8_codes_X8_begins : GoodIn wsX8_codes (wsV RX8 153 RX8 yX8_begins wsX8_begins) := goodIn_app (goodIn_of _ (by decide +kernel)) ggX8_codes_X8_begins
set_option maxRecDepth 20000 in
theorem ggX8_codes_X8_isPlain : GoodIn wsX8_codes wsX8_isPlain := goodIn_r _ [15, 16, 17, 18, 9, 19, 20, 21, 22, 23, 24, 25, 26, 27, 28, 29, 30, 31, 32, 33, 34, 35, 36, 37, 38, 39, 40, 41, 42, 43, 44, 45, 46, 47] (by decide +kernel) (by decide +kernel)
set_option maxRecDepth 20000 in
theorem gX8_codes_X8_isPlain : GoodIn wsX8_codes (wsV RX8 128 RX8 yX8_isPlain wsX8_isPlain) := goodIn_app (goodIn_of _ (by decide +kernel)) ggX8_codes_X8_isPlain
theorem dX8_codes_0 : decode cX8_codes 0 = .ok (.aload_n 0, 1) := by decide +kernel
theorem dX8_codes_1 : decode cX8_codes 1 = .ok (.iconst 0, 1) := by decide +kernel
theorem dX8_codes_2 : decode cX8_codes 2 = .ok (.putfield 150, 3) := by decide +kernel
theorem dX8_codes_5 : decode cX8_codes 5 = .ok (.aload_n 0, 1) := by decide +kernel
theorem dX8_codes_6 : decode cX8_codes 6 = .ok (.iconst 0, 1) := by decide +kernel
theorem dX8_codes_7 : decode cX8_codes 7 = .ok (.invokevirtual 153, 3) := by decide +kernel
theorem dX8_codes_10 : decode cX8_codes 10 = .ok (.iconst 0, 1) := by decide +kernel
theorem dX8_codes_11 : decode cX8_codes 11 = .ok (.istore 5, 2) := by decide +kernel
theorem dX8_codes_13 : decode cX8_codes 13 = .ok (.iload 5, 2) := by decide +kernel
theorem dX8_codes_15 : decode cX8_codes 15 = .ok (.iload 4, 2) := by decide +kernel
theorem dX8_codes_17 : decode cX8_codes 17 = .ok (.if_icmp .ge 80, 3) := by decide +kernel
theorem dX8_codes_20 : decode cX8_codes 20 = .ok (.aload_n 2, 1) := by decide +kernel
theorem dX8_codes_21 : decode cX8_codes 21 = .ok (.iload_n 3, 1) := by decide +kernel
theorem dX8_codes_22 : decode cX8_codes 22 = .ok (.iload 5, 2) := by decide +kernel
theorem dX8_codes_24 : decode cX8_codes 24 = .ok (.iadd, 1) := by decide +kernel
theorem dX8_codes_25 : decode cX8_codes 25 = .ok (.iaload, 1) := by decide +kernel
theorem dX8_codes_26 : decode cX8_codes 26 = .ok (.istore 6, 2) := by decide +kernel
theorem dX8_codes_28 : decode cX8_codes 28 = .ok (.aload_n 0, 1) := by decide +kernel
theorem dX8_codes_29 : decode cX8_codes 29 = .ok (.iload_n 1, 1) := by decide +kernel
theorem dX8_codes_30 : decode cX8_codes 30 = .ok (.iload 6, 2) := by decide +kernel
theorem dX8_codes_32 : decode cX8_codes 32 = .ok (.invokevirtual 128, 3) := by decide +kernel
theorem dX8_codes_35 : decode cX8_codes 35 = .ok (.ifCond .eq 32, 3) := by decide +kernel
theorem dX8_codes_38 : decode cX8_codes 38 = .ok (.aload_n 0, 1) := by decide +kernel
theorem dX8_codes_39 : decode cX8_codes 39 = .ok (.getfield 56, 3) := by decide +kernel
theorem dX8_codes_42 : decode cX8_codes 42 = .ok (.aload_n 0, 1) := by decide +kernel
theorem dX8_codes_43 : decode cX8_codes 43 = .ok (.getfield 150, 3) := by decide +kernel
theorem dX8_codes_46 : decode cX8_codes 46 = .ok (.iconst 1, 1) := by decide +kernel
theorem dX8_codes_47 : decode cX8_codes 47 = .ok (.isub, 1) := by decide +kernel
theorem dX8_codes_48 : decode cX8_codes 48 = .ok (.dup2, 1) := by decide +kernel
theorem dX8_codes_49 : decode cX8_codes 49 = .ok (.iaload, 1) := by decide +kernel
theorem dX8_codes_50 : decode cX8_codes 50 = .ok (.aload_n 0, 1) := by decide +kernel
theorem dX8_codes_51 : decode cX8_codes 51 = .ok (.getfield 38, 3) := by decide +kernel
theorem dX8_codes_54 : decode cX8_codes 54 = .ok (.bipush 24, 2) := by decide +kernel
theorem dX8_codes_56 : decode cX8_codes 56 = .ok (.iload_n 1, 1) := by decide +kernel
theorem dX8_codes_57 : decode cX8_codes 57 = .ok (.imul, 1) := by decide +kernel
theorem dX8_codes_58 : decode cX8_codes 58 = .ok (.iload 6, 2) := by decide +kernel
theorem dX8_codes_60 : decode cX8_codes 60 = .ok (.iadd, 1) := by decide +kernel
theorem dX8_codes_61 : decode cX8_codes 61 = .ok (.iaload, 1) := by decide +kernel
theorem dX8_codes_62 : decode cX8_codes 62 = .ok (.iadd, 1) := by decide +kernel
theorem dX8_codes_63 : decode cX8_codes 63 = .ok (.iastore, 1) := by decide +kernel
theorem dX8_codes_64 : decode cX8_codes 64 = .ok (.goto 27, 3) := by decide +kernel
theorem dX8_codes_67 : decode cX8_codes 67 = .ok (.aload_n 0, 1) := by decide +kernel
theorem dX8_codes_68 : decode cX8_codes 68 = .ok (.getfield 59, 3) := by decide +kernel
theorem dX8_codes_71 : decode cX8_codes 71 = .ok (.aload_n 0, 1) := by decide +kernel
theorem dX8_codes_72 : decode cX8_codes 72 = .ok (.getfield 150, 3) := by decide +kernel
theorem dX8_codes_75 : decode cX8_codes 75 = .ok (.iconst 1, 1) := by decide +kernel
theorem dX8_codes_76 : decode cX8_codes 76 = .ok (.isub, 1) := by decide +kernel
theorem dX8_codes_77 : decode cX8_codes 77 = .ok (.iload 6, 2) := by decide +kernel
theorem dX8_codes_79 : decode cX8_codes 79 = .ok (.iastore, 1) := by decide +kernel
theorem dX8_codes_80 : decode cX8_codes 80 = .ok (.aload_n 0, 1) := by decide +kernel
theorem dX8_codes_81 : decode cX8_codes 81 = .ok (.aload_n 0, 1) := by decide +kernel
theorem dX8_codes_82 : decode cX8_codes 82 = .ok (.getfield 13, 3) := by decide +kernel
theorem dX8_codes_85 : decode cX8_codes 85 = .ok (.iload 6, 2) := by decide +kernel
theorem dX8_codes_87 : decode cX8_codes 87 = .ok (.iaload, 1) := by decide +kernel
theorem dX8_codes_88 : decode cX8_codes 88 = .ok (.invokevirtual 153, 3) := by decide +kernel
theorem dX8_codes_91 : decode cX8_codes 91 = .ok (.iinc 5 1, 3) := by decide +kernel
theorem dX8_codes_94 : decode cX8_codes 94 = .ok (.goto (-81), 3) := by decide +kernel
theorem dX8_codes_97 : decode cX8_codes 97 = .ok (.return_, 1) := by decide +kernel
set_option maxRecDepth 20000 in
theorem ggX8_piece_X8_isPlan : GoodIn wsX8_piece wsX8_isPlan := goodIn_r _ [11, 12, 13, 14, 10, 15, 34, 35, 36, 37, 38, 39, 40, 41, 42, 43, 44, 45, 46, 47, 48, 49, 50, 51, 52, 53, 54, 55, 56, 57, 58, 59, 60, 61] (by decide +kernel) (by decide +kernel)
set_option maxRecDepth 20000 in
theorem gX8_piece_X8_isPlan : GoodIn wsX8_piece (wsV RX8 125 RX8 yX8_isPlan wsX8_isPlan) := goodIn_app (goodIn_of _ (by decide +kernel)) ggX8_piece_X8_isPlan
set_option maxRecDepth 20000 in
theorem ggX8_piece_X8_within : GoodIn wsX8_piece wsX8_within := goodIn_r _ [15] (by decide +kernel) (by decide +kernel)
set_option maxRecDepth 20000 in
theorem gX8_piece_X8_within : GoodIn wsX8_piece (va_wsS RX8 74 yX8_within wsX8_within) := goodIn_app (goodIn_of _ (by decide +kernel)) ggX8_piece_X8_within
set_option maxRecDepth 20000 in
theorem ggX8_piece_X8_codes : GoodIn wsX8_piece wsX8_codes := goodIn_r _ [19, 3, 5, 20, 6, 21, 22, 23, 24, 10, 25, 4, 26, 27, 28, 29, 30, 31, 32, 33, 34, 35, 36, 37, 38, 39, 40, 41, 42, 43, 44, 45, 46, 47, 48, 49, 50, 51, 52, 53, 54, 55, 56, 57, 58, 59, 60, 61] (by decide +kernel) (by decide +kernel)
set_option maxRecDepth 20000 in
theorem gX8_piece_X8_codes : GoodIn wsX8_piece (wsV RX8 156 RX8 yX8_codes wsX8_codes) := goodIn_app (goodIn_of _ (by decide +kernel)) ggX8_piece_X8_codes
theorem dX8_piece_0 : decode cX8_piece 0 = .ok (.aload_n 0, 1) := by decide +kernel
theorem dX8_piece_1 : decode cX8_piece 1 = .ok (.iload_n 1, 1) := by decide +kernel
theorem dX8_piece_2 : decode cX8_piece 2 = .ok (.invokevirtual 125, 3) := by decide +kernel
theorem dX8_piece_5 : decode cX8_piece 5 = .ok (.ifCond .ne 5, 3) := by decide +kernel
theorem dX8_piece_8 : decode cX8_piece 8 = .ok (.iconst (-1), 1) := by decide +kernel
theorem dX8_piece_9 : decode cX8_piece 9 = .ok (.ireturn, 1) := by decide +kernel
theorem dX8_piece_10 : decode cX8_piece 10 = .ok (.iload_n 2, 1) := by decide +kernel
theorem dX8_piece_11 : decode cX8_piece 11 = .ok (.ifCond .lt 12, 3) := by decide +kernel
theorem dX8_piece_14 : decode cX8_piece 14 = .ok (.iload_n 3, 1) := by decide +kernel
theorem dX8_piece_15 : decode cX8_piece 15 = .ok (.iconst 0, 1) := by decide +kernel
theorem dX8_piece_16 : decode cX8_piece 16 = .ok (.iconst 2, 1) := by decide +kernel
theorem dX8_piece_17 : decode cX8_piece 17 = .ok (.invokestatic 74, 3) := by decide +kernel
theorem dX8_piece_20 : decode cX8_piece 20 = .ok (.ifCond .ne 6, 3) := by decide +kernel
theorem dX8_piece_23 : decode cX8_piece 23 = .ok (.bipush (-2), 2) := by decide +kernel
theorem dX8_piece_25 : decode cX8_piece 25 = .ok (.ireturn, 1) := by decide +kernel
theorem dX8_piece_26 : decode cX8_piece 26 = .ok (.aload_n 0, 1) := by decide +kernel
theorem dX8_piece_27 : decode cX8_piece 27 = .ok (.iload_n 1, 1) := by decide +kernel
theorem dX8_piece_28 : decode cX8_piece 28 = .ok (.aload_n 0, 1) := by decide +kernel
theorem dX8_piece_29 : decode cX8_piece 29 = .ok (.getfield 50, 3) := by decide +kernel
theorem dX8_piece_32 : decode cX8_piece 32 = .ok (.iconst 0, 1) := by decide +kernel
theorem dX8_piece_33 : decode cX8_piece 33 = .ok (.aload_n 0, 1) := by decide +kernel
theorem dX8_piece_34 : decode cX8_piece 34 = .ok (.getfield 143, 3) := by decide +kernel
theorem dX8_piece_37 : decode cX8_piece 37 = .ok (.invokevirtual 156, 3) := by decide +kernel
theorem dX8_piece_40 : decode cX8_piece 40 = .ok (.iload_n 2, 1) := by decide +kernel
theorem dX8_piece_41 : decode cX8_piece 41 = .ok (.aload_n 0, 1) := by decide +kernel
theorem dX8_piece_42 : decode cX8_piece 42 = .ok (.getfield 150, 3) := by decide +kernel
theorem dX8_piece_45 : decode cX8_piece 45 = .ok (.if_icmp .lt 6, 3) := by decide +kernel
theorem dX8_piece_48 : decode cX8_piece 48 = .ok (.bipush (-9), 2) := by decide +kernel
theorem dX8_piece_50 : decode cX8_piece 50 = .ok (.ireturn, 1) := by decide +kernel
theorem dX8_piece_51 : decode cX8_piece 51 = .ok (.iload_n 3, 1) := by decide +kernel
theorem dX8_piece_52 : decode cX8_piece 52 = .ok (.ifCond .ne 12, 3) := by decide +kernel
theorem dX8_piece_55 : decode cX8_piece 55 = .ok (.aload_n 0, 1) := by decide +kernel
theorem dX8_piece_56 : decode cX8_piece 56 = .ok (.getfield 53, 3) := by decide +kernel
theorem dX8_piece_59 : decode cX8_piece 59 = .ok (.iload_n 2, 1) := by decide +kernel
theorem dX8_piece_60 : decode cX8_piece 60 = .ok (.iaload, 1) := by decide +kernel
theorem dX8_piece_61 : decode cX8_piece 61 = .ok (.goto 23, 3) := by decide +kernel
theorem dX8_piece_64 : decode cX8_piece 64 = .ok (.iload_n 3, 1) := by decide +kernel
theorem dX8_piece_65 : decode cX8_piece 65 = .ok (.iconst 1, 1) := by decide +kernel
theorem dX8_piece_66 : decode cX8_piece 66 = .ok (.if_icmp .ne 12, 3) := by decide +kernel
theorem dX8_piece_69 : decode cX8_piece 69 = .ok (.aload_n 0, 1) := by decide +kernel
theorem dX8_piece_70 : decode cX8_piece 70 = .ok (.getfield 56, 3) := by decide +kernel
theorem dX8_piece_73 : decode cX8_piece 73 = .ok (.iload_n 2, 1) := by decide +kernel
theorem dX8_piece_74 : decode cX8_piece 74 = .ok (.iaload, 1) := by decide +kernel
theorem dX8_piece_75 : decode cX8_piece 75 = .ok (.goto 9, 3) := by decide +kernel
theorem dX8_piece_78 : decode cX8_piece 78 = .ok (.aload_n 0, 1) := by decide +kernel
theorem dX8_piece_79 : decode cX8_piece 79 = .ok (.getfield 59, 3) := by decide +kernel
theorem dX8_piece_82 : decode cX8_piece 82 = .ok (.iload_n 2, 1) := by decide +kernel
theorem dX8_piece_83 : decode cX8_piece 83 = .ok (.iaload, 1) := by decide +kernel
theorem dX8_piece_84 : decode cX8_piece 84 = .ok (.ireturn, 1) := by decide +kernel
set_option maxRecDepth 20000 in
theorem ggX8_pieces_X8_isPlan : GoodIn wsX8_pieces wsX8_isPlan := goodIn_r _ [8, 9, 10, 11, 7, 12, 34, 35, 36, 37, 38, 39, 40, 41, 42, 43, 44, 45, 46, 47, 48, 49, 50, 51, 52, 53, 54, 55, 56, 57, 58, 59, 60, 61] (by decide +kernel) (by decide +kernel)
set_option maxRecDepth 20000 in
theorem gX8_pieces_X8_isPlan : GoodIn wsX8_pieces (wsV RX8 125 RX8 yX8_isPlan wsX8_isPlan) := goodIn_app (goodIn_of _ (by decide +kernel)) ggX8_pieces_X8_isPlan
set_option maxRecDepth 20000 in
theorem ggX8_pieces_X8_codes : GoodIn wsX8_pieces wsX8_codes := goodIn_r _ [16, 3, 17, 18, 19, 20, 21, 22, 23, 7, 24, 25, 26, 27, 28, 29, 30, 31, 32, 33, 34, 35, 36, 37, 38, 39, 40, 41, 42, 43, 44, 45, 46, 47, 48, 49, 50, 51, 52, 53, 54, 55, 56, 57, 58, 59, 60, 61] (by decide +kernel) (by decide +kernel)
set_option maxRecDepth 20000 in
theorem gX8_pieces_X8_codes : GoodIn wsX8_pieces (wsV RX8 156 RX8 yX8_codes wsX8_codes) := goodIn_app (goodIn_of _ (by decide +kernel)) ggX8_pieces_X8_codes
theorem dX8_pieces_0 : decode cX8_pieces 0 = .ok (.aload_n 0, 1) := by decide +kernel
theorem dX8_pieces_1 : decode cX8_pieces 1 = .ok (.iload_n 1, 1) := by decide +kernel
theorem dX8_pieces_2 : decode cX8_pieces 2 = .ok (.invokevirtual 125, 3) := by decide +kernel
theorem dX8_pieces_5 : decode cX8_pieces 5 = .ok (.ifCond .ne 5, 3) := by decide +kernel
theorem dX8_pieces_8 : decode cX8_pieces 8 = .ok (.iconst (-1), 1) := by decide +kernel
theorem dX8_pieces_9 : decode cX8_pieces 9 = .ok (.ireturn, 1) := by decide +kernel
theorem dX8_pieces_10 : decode cX8_pieces 10 = .ok (.aload_n 0, 1) := by decide +kernel
theorem dX8_pieces_11 : decode cX8_pieces 11 = .ok (.iload_n 1, 1) := by decide +kernel
theorem dX8_pieces_12 : decode cX8_pieces 12 = .ok (.aload_n 0, 1) := by decide +kernel
theorem dX8_pieces_13 : decode cX8_pieces 13 = .ok (.getfield 50, 3) := by decide +kernel
theorem dX8_pieces_16 : decode cX8_pieces 16 = .ok (.iconst 0, 1) := by decide +kernel
theorem dX8_pieces_17 : decode cX8_pieces 17 = .ok (.aload_n 0, 1) := by decide +kernel
theorem dX8_pieces_18 : decode cX8_pieces 18 = .ok (.getfield 143, 3) := by decide +kernel
theorem dX8_pieces_21 : decode cX8_pieces 21 = .ok (.invokevirtual 156, 3) := by decide +kernel
theorem dX8_pieces_24 : decode cX8_pieces 24 = .ok (.aload_n 0, 1) := by decide +kernel
theorem dX8_pieces_25 : decode cX8_pieces 25 = .ok (.getfield 150, 3) := by decide +kernel
theorem dX8_pieces_28 : decode cX8_pieces 28 = .ok (.ireturn, 1) := by decide +kernel
set_option maxRecDepth 20000 in
theorem ggX8_isSnap_X8_within : GoodIn wsX8_isSnap wsX8_within := goodIn_r _ [5] (by decide +kernel) (by decide +kernel)
set_option maxRecDepth 20000 in
theorem gX8_isSnap_X8_within : GoodIn wsX8_isSnap (va_wsS RX8 74 yX8_within wsX8_within) := goodIn_app (goodIn_of _ (by decide +kernel)) ggX8_isSnap_X8_within
theorem dX8_isSnap_0 : decode cX8_isSnap 0 = .ok (.iload_n 1, 1) := by decide +kernel
theorem dX8_isSnap_1 : decode cX8_isSnap 1 = .ok (.iconst 0, 1) := by decide +kernel
theorem dX8_isSnap_2 : decode cX8_isSnap 2 = .ok (.aload_n 0, 1) := by decide +kernel
theorem dX8_isSnap_3 : decode cX8_isSnap 3 = .ok (.getfield 160, 3) := by decide +kernel
theorem dX8_isSnap_6 : decode cX8_isSnap 6 = .ok (.iconst 1, 1) := by decide +kernel
theorem dX8_isSnap_7 : decode cX8_isSnap 7 = .ok (.isub, 1) := by decide +kernel
theorem dX8_isSnap_8 : decode cX8_isSnap 8 = .ok (.invokestatic 74, 3) := by decide +kernel
theorem dX8_isSnap_11 : decode cX8_isSnap 11 = .ok (.ireturn, 1) := by decide +kernel
theorem dX8_snap_0 : decode cX8_snap 0 = .ok (.aload_n 0, 1) := by decide +kernel
theorem dX8_snap_1 : decode cX8_snap 1 = .ok (.getfield 160, 3) := by decide +kernel
theorem dX8_snap_4 : decode cX8_snap 4 = .ok (.bipush 10, 2) := by decide +kernel
theorem dX8_snap_6 : decode cX8_snap 6 = .ok (.if_icmp .ne 6, 3) := by decide +kernel
theorem dX8_snap_9 : decode cX8_snap 9 = .ok (.bipush (-4), 2) := by decide +kernel
theorem dX8_snap_11 : decode cX8_snap 11 = .ok (.ireturn, 1) := by decide +kernel
theorem dX8_snap_12 : decode cX8_snap 12 = .ok (.aload_n 0, 1) := by decide +kernel
theorem dX8_snap_13 : decode cX8_snap 13 = .ok (.getfield 62, 3) := by decide +kernel
theorem dX8_snap_16 : decode cX8_snap 16 = .ok (.aload_n 0, 1) := by decide +kernel
theorem dX8_snap_17 : decode cX8_snap 17 = .ok (.getfield 160, 3) := by decide +kernel
theorem dX8_snap_20 : decode cX8_snap 20 = .ok (.aload_n 0, 1) := by decide +kernel
theorem dX8_snap_21 : decode cX8_snap 21 = .ok (.getfield 89, 3) := by decide +kernel
theorem dX8_snap_24 : decode cX8_snap 24 = .ok (.iconst 1, 1) := by decide +kernel
theorem dX8_snap_25 : decode cX8_snap 25 = .ok (.isub, 1) := by decide +kernel
theorem dX8_snap_26 : decode cX8_snap 26 = .ok (.iastore, 1) := by decide +kernel
theorem dX8_snap_27 : decode cX8_snap 27 = .ok (.aload_n 0, 1) := by decide +kernel
theorem dX8_snap_28 : decode cX8_snap 28 = .ok (.getfield 65, 3) := by decide +kernel
theorem dX8_snap_31 : decode cX8_snap 31 = .ok (.aload_n 0, 1) := by decide +kernel
theorem dX8_snap_32 : decode cX8_snap 32 = .ok (.getfield 160, 3) := by decide +kernel
theorem dX8_snap_35 : decode cX8_snap 35 = .ok (.aload_n 0, 1) := by decide +kernel
theorem dX8_snap_36 : decode cX8_snap 36 = .ok (.getfield 143, 3) := by decide +kernel
theorem dX8_snap_39 : decode cX8_snap 39 = .ok (.iastore, 1) := by decide +kernel
theorem dX8_snap_40 : decode cX8_snap 40 = .ok (.iconst 0, 1) := by decide +kernel
theorem dX8_snap_41 : decode cX8_snap 41 = .ok (.istore_n 1, 1) := by decide +kernel
theorem dX8_snap_42 : decode cX8_snap 42 = .ok (.iload_n 1, 1) := by decide +kernel
theorem dX8_snap_43 : decode cX8_snap 43 = .ok (.aload_n 0, 1) := by decide +kernel
theorem dX8_snap_44 : decode cX8_snap 44 = .ok (.getfield 143, 3) := by decide +kernel
theorem dX8_snap_47 : decode cX8_snap 47 = .ok (.if_icmp .ge 29, 3) := by decide +kernel
theorem dX8_snap_50 : decode cX8_snap 50 = .ok (.aload_n 0, 1) := by decide +kernel
theorem dX8_snap_51 : decode cX8_snap 51 = .ok (.getfield 68, 3) := by decide +kernel
theorem dX8_snap_54 : decode cX8_snap 54 = .ok (.bipush 30, 2) := by decide +kernel
theorem dX8_snap_56 : decode cX8_snap 56 = .ok (.aload_n 0, 1) := by decide +kernel
theorem dX8_snap_57 : decode cX8_snap 57 = .ok (.getfield 160, 3) := by decide +kernel
theorem dX8_snap_60 : decode cX8_snap 60 = .ok (.imul, 1) := by decide +kernel
theorem dX8_snap_61 : decode cX8_snap 61 = .ok (.iload_n 1, 1) := by decide +kernel
theorem dX8_snap_62 : decode cX8_snap 62 = .ok (.iadd, 1) := by decide +kernel
theorem dX8_snap_63 : decode cX8_snap 63 = .ok (.aload_n 0, 1) := by decide +kernel
theorem dX8_snap_64 : decode cX8_snap 64 = .ok (.getfield 50, 3) := by decide +kernel
theorem dX8_snap_67 : decode cX8_snap 67 = .ok (.iload_n 1, 1) := by decide +kernel
theorem dX8_snap_68 : decode cX8_snap 68 = .ok (.iaload, 1) := by decide +kernel
theorem dX8_snap_69 : decode cX8_snap 69 = .ok (.iastore, 1) := by decide +kernel
theorem dX8_snap_70 : decode cX8_snap 70 = .ok (.iinc 1 1, 3) := by decide +kernel
theorem dX8_snap_73 : decode cX8_snap 73 = .ok (.goto (-31), 3) := by decide +kernel
theorem dX8_snap_76 : decode cX8_snap 76 = .ok (.aload_n 0, 1) := by decide +kernel
theorem dX8_snap_77 : decode cX8_snap 77 = .ok (.dup, 1) := by decide +kernel
theorem dX8_snap_78 : decode cX8_snap 78 = .ok (.getfield 160, 3) := by decide +kernel
theorem dX8_snap_81 : decode cX8_snap 81 = .ok (.iconst 1, 1) := by decide +kernel
theorem dX8_snap_82 : decode cX8_snap 82 = .ok (.iadd, 1) := by decide +kernel
theorem dX8_snap_83 : decode cX8_snap 83 = .ok (.putfield 160, 3) := by decide +kernel
theorem dX8_snap_86 : decode cX8_snap 86 = .ok (.aload_n 0, 1) := by decide +kernel
theorem dX8_snap_87 : decode cX8_snap 87 = .ok (.getfield 160, 3) := by decide +kernel
theorem dX8_snap_90 : decode cX8_snap 90 = .ok (.iconst 1, 1) := by decide +kernel
theorem dX8_snap_91 : decode cX8_snap 91 = .ok (.isub, 1) := by decide +kernel
theorem dX8_snap_92 : decode cX8_snap 92 = .ok (.ireturn, 1) := by decide +kernel
set_option maxRecDepth 20000 in
theorem ggX8_ofSnap_X8_isSnap : GoodIn wsX8_ofSnap wsX8_isSnap := goodIn_r _ [11, 12, 13, 14, 10, 15, 35, 36, 37, 38, 39, 40, 41, 42, 43, 44, 45, 46, 47, 48, 49, 50, 51, 52, 53, 54, 55, 56, 57, 58, 59, 60, 61, 62] (by decide +kernel) (by decide +kernel)
set_option maxRecDepth 20000 in
theorem gX8_ofSnap_X8_isSnap : GoodIn wsX8_ofSnap (wsV RX8 163 RX8 yX8_isSnap wsX8_isSnap) := goodIn_app (goodIn_of _ (by decide +kernel)) ggX8_ofSnap_X8_isSnap
set_option maxRecDepth 20000 in
theorem ggX8_ofSnap_X8_codes : GoodIn wsX8_ofSnap wsX8_codes := goodIn_r _ [19, 5, 6, 20, 21, 4, 22, 23, 24, 10, 25, 26, 27, 28, 29, 30, 31, 32, 33, 34, 35, 36, 37, 38, 39, 40, 41, 42, 43, 44, 45, 46, 47, 48, 49, 50, 51, 52, 53, 54, 55, 56, 57, 58, 59, 60, 61, 62] (by decide +kernel) (by decide +kernel)
set_option maxRecDepth 20000 in
theorem gX8_ofSnap_X8_codes : GoodIn wsX8_ofSnap (wsV RX8 156 RX8 yX8_codes wsX8_codes) := goodIn_app (goodIn_of _ (by decide +kernel)) ggX8_ofSnap_X8_codes
theorem dX8_ofSnap_0 : decode cX8_ofSnap 0 = .ok (.aload_n 0, 1) := by decide +kernel
theorem dX8_ofSnap_1 : decode cX8_ofSnap 1 = .ok (.iload_n 1, 1) := by decide +kernel
theorem dX8_ofSnap_2 : decode cX8_ofSnap 2 = .ok (.invokevirtual 163, 3) := by decide +kernel
theorem dX8_ofSnap_5 : decode cX8_ofSnap 5 = .ok (.ifCond .ne 5, 3) := by decide +kernel
theorem dX8_ofSnap_8 : decode cX8_ofSnap 8 = .ok (.iconst (-1), 1) := by decide +kernel
theorem dX8_ofSnap_9 : decode cX8_ofSnap 9 = .ok (.ireturn, 1) := by decide +kernel
theorem dX8_ofSnap_10 : decode cX8_ofSnap 10 = .ok (.aload_n 0, 1) := by decide +kernel
theorem dX8_ofSnap_11 : decode cX8_ofSnap 11 = .ok (.getfield 65, 3) := by decide +kernel
theorem dX8_ofSnap_14 : decode cX8_ofSnap 14 = .ok (.iload_n 1, 1) := by decide +kernel
theorem dX8_ofSnap_15 : decode cX8_ofSnap 15 = .ok (.iaload, 1) := by decide +kernel
theorem dX8_ofSnap_16 : decode cX8_ofSnap 16 = .ok (.istore_n 3, 1) := by decide +kernel
theorem dX8_ofSnap_17 : decode cX8_ofSnap 17 = .ok (.aload_n 0, 1) := by decide +kernel
theorem dX8_ofSnap_18 : decode cX8_ofSnap 18 = .ok (.aload_n 0, 1) := by decide +kernel
theorem dX8_ofSnap_19 : decode cX8_ofSnap 19 = .ok (.getfield 62, 3) := by decide +kernel
theorem dX8_ofSnap_22 : decode cX8_ofSnap 22 = .ok (.iload_n 1, 1) := by decide +kernel
theorem dX8_ofSnap_23 : decode cX8_ofSnap 23 = .ok (.iaload, 1) := by decide +kernel
theorem dX8_ofSnap_24 : decode cX8_ofSnap 24 = .ok (.aload_n 0, 1) := by decide +kernel
theorem dX8_ofSnap_25 : decode cX8_ofSnap 25 = .ok (.getfield 68, 3) := by decide +kernel
theorem dX8_ofSnap_28 : decode cX8_ofSnap 28 = .ok (.bipush 30, 2) := by decide +kernel
theorem dX8_ofSnap_30 : decode cX8_ofSnap 30 = .ok (.iload_n 1, 1) := by decide +kernel
theorem dX8_ofSnap_31 : decode cX8_ofSnap 31 = .ok (.imul, 1) := by decide +kernel
theorem dX8_ofSnap_32 : decode cX8_ofSnap 32 = .ok (.iload_n 3, 1) := by decide +kernel
theorem dX8_ofSnap_33 : decode cX8_ofSnap 33 = .ok (.invokevirtual 156, 3) := by decide +kernel
theorem dX8_ofSnap_36 : decode cX8_ofSnap 36 = .ok (.iload_n 2, 1) := by decide +kernel
theorem dX8_ofSnap_37 : decode cX8_ofSnap 37 = .ok (.tableswitch 88 0 4 #[35, 42, 69, 74, 86], 35) := by decide +kernel
theorem dX8_ofSnap_72 : decode cX8_ofSnap 72 = .ok (.aload_n 0, 1) := by decide +kernel
theorem dX8_ofSnap_73 : decode cX8_ofSnap 73 = .ok (.getfield 62, 3) := by decide +kernel
theorem dX8_ofSnap_76 : decode cX8_ofSnap 76 = .ok (.iload_n 1, 1) := by decide +kernel
theorem dX8_ofSnap_77 : decode cX8_ofSnap 77 = .ok (.iaload, 1) := by decide +kernel
theorem dX8_ofSnap_78 : decode cX8_ofSnap 78 = .ok (.ireturn, 1) := by decide +kernel
theorem dX8_ofSnap_79 : decode cX8_ofSnap 79 = .ok (.iload_n 3, 1) := by decide +kernel
theorem dX8_ofSnap_80 : decode cX8_ofSnap 80 = .ok (.ifCond .ne 7, 3) := by decide +kernel
theorem dX8_ofSnap_83 : decode cX8_ofSnap 83 = .ok (.iconst 0, 1) := by decide +kernel
theorem dX8_ofSnap_84 : decode cX8_ofSnap 84 = .ok (.goto 21, 3) := by decide +kernel
theorem dX8_ofSnap_87 : decode cX8_ofSnap 87 = .ok (.aload_n 0, 1) := by decide +kernel
theorem dX8_ofSnap_88 : decode cX8_ofSnap 88 = .ok (.getfield 13, 3) := by decide +kernel
theorem dX8_ofSnap_91 : decode cX8_ofSnap 91 = .ok (.aload_n 0, 1) := by decide +kernel
theorem dX8_ofSnap_92 : decode cX8_ofSnap 92 = .ok (.getfield 68, 3) := by decide +kernel
theorem dX8_ofSnap_95 : decode cX8_ofSnap 95 = .ok (.bipush 30, 2) := by decide +kernel
theorem dX8_ofSnap_97 : decode cX8_ofSnap 97 = .ok (.iload_n 1, 1) := by decide +kernel
theorem dX8_ofSnap_98 : decode cX8_ofSnap 98 = .ok (.imul, 1) := by decide +kernel
theorem dX8_ofSnap_99 : decode cX8_ofSnap 99 = .ok (.iload_n 3, 1) := by decide +kernel
theorem dX8_ofSnap_100 : decode cX8_ofSnap 100 = .ok (.iadd, 1) := by decide +kernel
theorem dX8_ofSnap_101 : decode cX8_ofSnap 101 = .ok (.iconst 1, 1) := by decide +kernel
theorem dX8_ofSnap_102 : decode cX8_ofSnap 102 = .ok (.isub, 1) := by decide +kernel
theorem dX8_ofSnap_103 : decode cX8_ofSnap 103 = .ok (.iaload, 1) := by decide +kernel
theorem dX8_ofSnap_104 : decode cX8_ofSnap 104 = .ok (.iaload, 1) := by decide +kernel
theorem dX8_ofSnap_105 : decode cX8_ofSnap 105 = .ok (.ireturn, 1) := by decide +kernel
theorem dX8_ofSnap_106 : decode cX8_ofSnap 106 = .ok (.aload_n 0, 1) := by decide +kernel
theorem dX8_ofSnap_107 : decode cX8_ofSnap 107 = .ok (.getfield 150, 3) := by decide +kernel
theorem dX8_ofSnap_110 : decode cX8_ofSnap 110 = .ok (.ireturn, 1) := by decide +kernel
theorem dX8_ofSnap_111 : decode cX8_ofSnap 111 = .ok (.aload_n 0, 1) := by decide +kernel
theorem dX8_ofSnap_112 : decode cX8_ofSnap 112 = .ok (.getfield 56, 3) := by decide +kernel
theorem dX8_ofSnap_115 : decode cX8_ofSnap 115 = .ok (.aload_n 0, 1) := by decide +kernel
theorem dX8_ofSnap_116 : decode cX8_ofSnap 116 = .ok (.getfield 150, 3) := by decide +kernel
theorem dX8_ofSnap_119 : decode cX8_ofSnap 119 = .ok (.iconst 1, 1) := by decide +kernel
theorem dX8_ofSnap_120 : decode cX8_ofSnap 120 = .ok (.isub, 1) := by decide +kernel
theorem dX8_ofSnap_121 : decode cX8_ofSnap 121 = .ok (.iaload, 1) := by decide +kernel
theorem dX8_ofSnap_122 : decode cX8_ofSnap 122 = .ok (.ireturn, 1) := by decide +kernel
theorem dX8_ofSnap_123 : decode cX8_ofSnap 123 = .ok (.iload_n 3, 1) := by decide +kernel
theorem dX8_ofSnap_124 : decode cX8_ofSnap 124 = .ok (.ireturn, 1) := by decide +kernel
theorem dX8_ofSnap_125 : decode cX8_ofSnap 125 = .ok (.bipush (-2), 2) := by decide +kernel
theorem dX8_ofSnap_127 : decode cX8_ofSnap 127 = .ok (.ireturn, 1) := by decide +kernel
set_option maxRecDepth 20000 in
theorem ggX8_snapped_X8_isSnap : GoodIn wsX8_snapped wsX8_isSnap := goodIn_r _ [7, 8, 9, 10, 6, 11, 12, 13, 14, 15, 16, 17, 18, 19, 20, 21, 22, 23, 24, 25, 26, 27, 28, 29, 30, 31, 32, 33, 34, 35, 36, 37, 38, 39] (by decide +kernel) (by decide +kernel)
set_option maxRecDepth 20000 in
theorem gX8_snapped_X8_isSnap : GoodIn wsX8_snapped (wsV RX8 163 RX8 yX8_isSnap wsX8_isSnap) := goodIn_app (goodIn_of _ (by decide +kernel)) ggX8_snapped_X8_isSnap
theorem dX8_snapped_0 : decode cX8_snapped 0 = .ok (.aload_n 0, 1) := by decide +kernel
theorem dX8_snapped_1 : decode cX8_snapped 1 = .ok (.iload_n 1, 1) := by decide +kernel
theorem dX8_snapped_2 : decode cX8_snapped 2 = .ok (.invokevirtual 163, 3) := by decide +kernel
theorem dX8_snapped_5 : decode cX8_snapped 5 = .ok (.ifCond .ne 5, 3) := by decide +kernel
theorem dX8_snapped_8 : decode cX8_snapped 8 = .ok (.iconst (-1), 1) := by decide +kernel
theorem dX8_snapped_9 : decode cX8_snapped 9 = .ok (.ireturn, 1) := by decide +kernel
theorem dX8_snapped_10 : decode cX8_snapped 10 = .ok (.iload_n 2, 1) := by decide +kernel
theorem dX8_snapped_11 : decode cX8_snapped 11 = .ok (.ifCond .ge 8, 3) := by decide +kernel
theorem dX8_snapped_14 : decode cX8_snapped 14 = .ok (.bipush (-2), 2) := by decide +kernel
theorem dX8_snapped_16 : decode cX8_snapped 16 = .ok (.goto 29, 3) := by decide +kernel
theorem dX8_snapped_19 : decode cX8_snapped 19 = .ok (.iload_n 2, 1) := by decide +kernel
theorem dX8_snapped_20 : decode cX8_snapped 20 = .ok (.aload_n 0, 1) := by decide +kernel
theorem dX8_snapped_21 : decode cX8_snapped 21 = .ok (.getfield 65, 3) := by decide +kernel
theorem dX8_snapped_24 : decode cX8_snapped 24 = .ok (.iload_n 1, 1) := by decide +kernel
theorem dX8_snapped_25 : decode cX8_snapped 25 = .ok (.iaload, 1) := by decide +kernel
theorem dX8_snapped_26 : decode cX8_snapped 26 = .ok (.if_icmp .ge 17, 3) := by decide +kernel
theorem dX8_snapped_29 : decode cX8_snapped 29 = .ok (.aload_n 0, 1) := by decide +kernel
theorem dX8_snapped_30 : decode cX8_snapped 30 = .ok (.getfield 68, 3) := by decide +kernel
theorem dX8_snapped_33 : decode cX8_snapped 33 = .ok (.bipush 30, 2) := by decide +kernel
theorem dX8_snapped_35 : decode cX8_snapped 35 = .ok (.iload_n 1, 1) := by decide +kernel
theorem dX8_snapped_36 : decode cX8_snapped 36 = .ok (.imul, 1) := by decide +kernel
theorem dX8_snapped_37 : decode cX8_snapped 37 = .ok (.iload_n 2, 1) := by decide +kernel
theorem dX8_snapped_38 : decode cX8_snapped 38 = .ok (.iadd, 1) := by decide +kernel
theorem dX8_snapped_39 : decode cX8_snapped 39 = .ok (.iaload, 1) := by decide +kernel
theorem dX8_snapped_40 : decode cX8_snapped 40 = .ok (.goto 5, 3) := by decide +kernel
theorem dX8_snapped_43 : decode cX8_snapped 43 = .ok (.bipush (-9), 2) := by decide +kernel
theorem dX8_snapped_45 : decode cX8_snapped 45 = .ok (.ireturn, 1) := by decide +kernel
set_option maxRecDepth 20000 in
theorem ggX8_same_X8_isSnap : GoodIn wsX8_same wsX8_isSnap := goodIn_r _ [7, 8, 9, 10, 6, 11, 12, 13, 14, 15, 16, 17, 18, 19, 20, 21, 22, 23, 24, 25, 26, 27, 28, 29, 30, 31, 32, 33, 34, 35, 36, 37, 38, 39] (by decide +kernel) (by decide +kernel)
set_option maxRecDepth 20000 in
theorem gX8_same_X8_isSnap : GoodIn wsX8_same (wsV RX8 163 RX8 yX8_isSnap wsX8_isSnap) := goodIn_app (goodIn_of _ (by decide +kernel)) ggX8_same_X8_isSnap
theorem dX8_same_0 : decode cX8_same 0 = .ok (.aload_n 0, 1) := by decide +kernel
theorem dX8_same_1 : decode cX8_same 1 = .ok (.iload_n 1, 1) := by decide +kernel
theorem dX8_same_2 : decode cX8_same 2 = .ok (.invokevirtual 163, 3) := by decide +kernel
theorem dX8_same_5 : decode cX8_same 5 = .ok (.ifCond .eq 11, 3) := by decide +kernel
theorem dX8_same_8 : decode cX8_same 8 = .ok (.aload_n 0, 1) := by decide +kernel
theorem dX8_same_9 : decode cX8_same 9 = .ok (.iload_n 2, 1) := by decide +kernel
theorem dX8_same_10 : decode cX8_same 10 = .ok (.invokevirtual 163, 3) := by decide +kernel
theorem dX8_same_13 : decode cX8_same 13 = .ok (.ifCond .ne 5, 3) := by decide +kernel
theorem dX8_same_16 : decode cX8_same 16 = .ok (.iconst (-1), 1) := by decide +kernel
theorem dX8_same_17 : decode cX8_same 17 = .ok (.ireturn, 1) := by decide +kernel
theorem dX8_same_18 : decode cX8_same 18 = .ok (.aload_n 0, 1) := by decide +kernel
theorem dX8_same_19 : decode cX8_same 19 = .ok (.getfield 65, 3) := by decide +kernel
theorem dX8_same_22 : decode cX8_same 22 = .ok (.iload_n 1, 1) := by decide +kernel
theorem dX8_same_23 : decode cX8_same 23 = .ok (.iaload, 1) := by decide +kernel
theorem dX8_same_24 : decode cX8_same 24 = .ok (.aload_n 0, 1) := by decide +kernel
theorem dX8_same_25 : decode cX8_same 25 = .ok (.getfield 65, 3) := by decide +kernel
theorem dX8_same_28 : decode cX8_same 28 = .ok (.iload_n 2, 1) := by decide +kernel
theorem dX8_same_29 : decode cX8_same 29 = .ok (.iaload, 1) := by decide +kernel
theorem dX8_same_30 : decode cX8_same 30 = .ok (.if_icmp .ne 7, 3) := by decide +kernel
theorem dX8_same_33 : decode cX8_same 33 = .ok (.iconst 1, 1) := by decide +kernel
theorem dX8_same_34 : decode cX8_same 34 = .ok (.goto 4, 3) := by decide +kernel
theorem dX8_same_37 : decode cX8_same 37 = .ok (.iconst 0, 1) := by decide +kernel
theorem dX8_same_38 : decode cX8_same 38 = .ok (.istore_n 3, 1) := by decide +kernel
theorem dX8_same_39 : decode cX8_same 39 = .ok (.iconst 0, 1) := by decide +kernel
theorem dX8_same_40 : decode cX8_same 40 = .ok (.istore 4, 2) := by decide +kernel
theorem dX8_same_42 : decode cX8_same 42 = .ok (.iload 4, 2) := by decide +kernel
theorem dX8_same_44 : decode cX8_same 44 = .ok (.aload_n 0, 1) := by decide +kernel
theorem dX8_same_45 : decode cX8_same 45 = .ok (.getfield 65, 3) := by decide +kernel
theorem dX8_same_48 : decode cX8_same 48 = .ok (.iload_n 1, 1) := by decide +kernel
theorem dX8_same_49 : decode cX8_same 49 = .ok (.iaload, 1) := by decide +kernel
theorem dX8_same_50 : decode cX8_same 50 = .ok (.if_icmp .ge 46, 3) := by decide +kernel
theorem dX8_same_53 : decode cX8_same 53 = .ok (.iload_n 3, 1) := by decide +kernel
theorem dX8_same_54 : decode cX8_same 54 = .ok (.ifCond .eq 34, 3) := by decide +kernel
theorem dX8_same_57 : decode cX8_same 57 = .ok (.aload_n 0, 1) := by decide +kernel
theorem dX8_same_58 : decode cX8_same 58 = .ok (.getfield 68, 3) := by decide +kernel
theorem dX8_same_61 : decode cX8_same 61 = .ok (.bipush 30, 2) := by decide +kernel
theorem dX8_same_63 : decode cX8_same 63 = .ok (.iload_n 1, 1) := by decide +kernel
theorem dX8_same_64 : decode cX8_same 64 = .ok (.imul, 1) := by decide +kernel
theorem dX8_same_65 : decode cX8_same 65 = .ok (.iload 4, 2) := by decide +kernel
theorem dX8_same_67 : decode cX8_same 67 = .ok (.iadd, 1) := by decide +kernel
theorem dX8_same_68 : decode cX8_same 68 = .ok (.iaload, 1) := by decide +kernel
theorem dX8_same_69 : decode cX8_same 69 = .ok (.aload_n 0, 1) := by decide +kernel
theorem dX8_same_70 : decode cX8_same 70 = .ok (.getfield 68, 3) := by decide +kernel
theorem dX8_same_73 : decode cX8_same 73 = .ok (.bipush 30, 2) := by decide +kernel
theorem dX8_same_75 : decode cX8_same 75 = .ok (.iload_n 2, 1) := by decide +kernel
theorem dX8_same_76 : decode cX8_same 76 = .ok (.imul, 1) := by decide +kernel
theorem dX8_same_77 : decode cX8_same 77 = .ok (.iload 4, 2) := by decide +kernel
theorem dX8_same_79 : decode cX8_same 79 = .ok (.iadd, 1) := by decide +kernel
theorem dX8_same_80 : decode cX8_same 80 = .ok (.iaload, 1) := by decide +kernel
theorem dX8_same_81 : decode cX8_same 81 = .ok (.if_icmp .ne 7, 3) := by decide +kernel
theorem dX8_same_84 : decode cX8_same 84 = .ok (.iconst 1, 1) := by decide +kernel
theorem dX8_same_85 : decode cX8_same 85 = .ok (.goto 4, 3) := by decide +kernel
theorem dX8_same_88 : decode cX8_same 88 = .ok (.iconst 0, 1) := by decide +kernel
theorem dX8_same_89 : decode cX8_same 89 = .ok (.istore_n 3, 1) := by decide +kernel
theorem dX8_same_90 : decode cX8_same 90 = .ok (.iinc 4 1, 3) := by decide +kernel
theorem dX8_same_93 : decode cX8_same 93 = .ok (.goto (-51), 3) := by decide +kernel
theorem dX8_same_96 : decode cX8_same 96 = .ok (.iload_n 3, 1) := by decide +kernel
theorem dX8_same_97 : decode cX8_same 97 = .ok (.ifCond .eq 7, 3) := by decide +kernel
theorem dX8_same_100 : decode cX8_same 100 = .ok (.iconst 1, 1) := by decide +kernel
theorem dX8_same_101 : decode cX8_same 101 = .ok (.goto 4, 3) := by decide +kernel
theorem dX8_same_104 : decode cX8_same 104 = .ok (.iconst 0, 1) := by decide +kernel
theorem dX8_same_105 : decode cX8_same 105 = .ok (.ireturn, 1) := by decide +kernel
set_option maxRecDepth 20000 in
theorem ggX8_many_X8_here : GoodIn wsX8_many wsX8_here := goodIn_r _ [10, 3, 11, 12, 13, 14, 15, 16, 17, 18, 19, 20, 21, 22, 23, 24, 25, 26, 27, 28, 29, 30, 31, 32, 33, 34, 35, 36, 37, 38, 39, 40] (by decide +kernel) (by decide +kernel)
set_option maxRecDepth 20000 in
theorem gX8_many_X8_here : GoodIn wsX8_many (wsV RX8 146 RX8 yX8_here wsX8_here) := goodIn_app (goodIn_of _ (by decide +kernel)) ggX8_many_X8_here
theorem dX8_many_0 : decode cX8_many 0 = .ok (.iload_n 1, 1) := by decide +kernel
theorem dX8_many_1 : decode cX8_many 1 = .ok (.tableswitch 69 0 5 #[39, 44, 49, 54, 59, 64], 39) := by decide +kernel
theorem dX8_many_40 : decode cX8_many 40 = .ok (.aload_n 0, 1) := by decide +kernel
theorem dX8_many_41 : decode cX8_many 41 = .ok (.getfield 78, 3) := by decide +kernel
theorem dX8_many_44 : decode cX8_many 44 = .ok (.ireturn, 1) := by decide +kernel
theorem dX8_many_45 : decode cX8_many 45 = .ok (.aload_n 0, 1) := by decide +kernel
theorem dX8_many_46 : decode cX8_many 46 = .ok (.getfield 89, 3) := by decide +kernel
theorem dX8_many_49 : decode cX8_many 49 = .ok (.ireturn, 1) := by decide +kernel
theorem dX8_many_50 : decode cX8_many 50 = .ok (.aload_n 0, 1) := by decide +kernel
theorem dX8_many_51 : decode cX8_many 51 = .ok (.getfield 143, 3) := by decide +kernel
theorem dX8_many_54 : decode cX8_many 54 = .ok (.ireturn, 1) := by decide +kernel
theorem dX8_many_55 : decode cX8_many 55 = .ok (.aload_n 0, 1) := by decide +kernel
theorem dX8_many_56 : decode cX8_many 56 = .ok (.getfield 160, 3) := by decide +kernel
theorem dX8_many_59 : decode cX8_many 59 = .ok (.ireturn, 1) := by decide +kernel
theorem dX8_many_60 : decode cX8_many 60 = .ok (.aload_n 0, 1) := by decide +kernel
theorem dX8_many_61 : decode cX8_many 61 = .ok (.invokevirtual 146, 3) := by decide +kernel
theorem dX8_many_64 : decode cX8_many 64 = .ok (.ireturn, 1) := by decide +kernel
theorem dX8_many_65 : decode cX8_many 65 = .ok (.aload_n 0, 1) := by decide +kernel
theorem dX8_many_66 : decode cX8_many 66 = .ok (.getfield 16, 3) := by decide +kernel
theorem dX8_many_69 : decode cX8_many 69 = .ok (.ireturn, 1) := by decide +kernel
theorem dX8_many_70 : decode cX8_many 70 = .ok (.bipush (-2), 2) := by decide +kernel
theorem dX8_many_72 : decode cX8_many 72 = .ok (.ireturn, 1) := by decide +kernel
end
section
theorem dJ9_min_7cf53_0 : decode cJ9_min_7cf53 0 = .ok (.iload_n 0, 1) := by decide +kernel
theorem dJ9_min_7cf53_1 : decode cJ9_min_7cf53 1 = .ok (.iload_n 1, 1) := by decide +kernel
theorem dJ9_min_7cf53_2 : decode cJ9_min_7cf53 2 = .ok (.if_icmp .gt 7, 3) := by decide +kernel
theorem dJ9_min_7cf53_5 : decode cJ9_min_7cf53 5 = .ok (.iload_n 0, 1) := by decide +kernel
theorem dJ9_min_7cf53_6 : decode cJ9_min_7cf53 6 = .ok (.goto 4, 3) := by decide +kernel
theorem dJ9_min_7cf53_9 : decode cJ9_min_7cf53 9 = .ok (.iload_n 1, 1) := by decide +kernel
theorem dJ9_min_7cf53_10 : decode cJ9_min_7cf53 10 = .ok (.ireturn, 1) := by decide +kernel
theorem dJ7_fill_53178_0 : decode cJ7_fill_53178 0 = .ok (.iconst 0, 1) := by decide +kernel
theorem dJ7_fill_53178_1 : decode cJ7_fill_53178 1 = .ok (.istore_n 2, 1) := by decide +kernel
theorem dJ7_fill_53178_2 : decode cJ7_fill_53178 2 = .ok (.aload_n 0, 1) := by decide +kernel
theorem dJ7_fill_53178_3 : decode cJ7_fill_53178 3 = .ok (.arraylength, 1) := by decide +kernel
theorem dJ7_fill_53178_4 : decode cJ7_fill_53178 4 = .ok (.istore_n 3, 1) := by decide +kernel
theorem dJ7_fill_53178_5 : decode cJ7_fill_53178 5 = .ok (.iload_n 2, 1) := by decide +kernel
theorem dJ7_fill_53178_6 : decode cJ7_fill_53178 6 = .ok (.iload_n 3, 1) := by decide +kernel
theorem dJ7_fill_53178_7 : decode cJ7_fill_53178 7 = .ok (.if_icmp .ge 13, 3) := by decide +kernel
theorem dJ7_fill_53178_10 : decode cJ7_fill_53178 10 = .ok (.aload_n 0, 1) := by decide +kernel
theorem dJ7_fill_53178_11 : decode cJ7_fill_53178 11 = .ok (.iload_n 2, 1) := by decide +kernel
theorem dJ7_fill_53178_12 : decode cJ7_fill_53178 12 = .ok (.iload_n 1, 1) := by decide +kernel
theorem dJ7_fill_53178_13 : decode cJ7_fill_53178 13 = .ok (.iastore, 1) := by decide +kernel
theorem dJ7_fill_53178_14 : decode cJ7_fill_53178 14 = .ok (.iinc 2 1, 3) := by decide +kernel
theorem dJ7_fill_53178_17 : decode cJ7_fill_53178 17 = .ok (.goto (-12), 3) := by decide +kernel
theorem dJ7_fill_53178_20 : decode cJ7_fill_53178 20 = .ok (.return_, 1) := by decide +kernel
theorem dJ7_copyOf_59c91_0 : decode cJ7_copyOf_59c91 0 = .ok (.iload_n 1, 1) := by decide +kernel
theorem dJ7_copyOf_59c91_1 : decode cJ7_copyOf_59c91 1 = .ok (.aload_n 0, 1) := by decide +kernel
theorem dJ7_copyOf_59c91_2 : decode cJ7_copyOf_59c91 2 = .ok (.arraylength, 1) := by decide +kernel
theorem dJ7_copyOf_59c91_3 : decode cJ7_copyOf_59c91 3 = .ok (.if_icmp .ne 11, 3) := by decide +kernel
theorem dJ7_copyOf_59c91_6 : decode cJ7_copyOf_59c91 6 = .ok (.aload_n 0, 1) := by decide +kernel
theorem dJ7_copyOf_59c91_7 : decode cJ7_copyOf_59c91 7 = .ok (.invokevirtual 316, 3) := by decide +kernel
theorem dJ7_copyOf_59c91_10 : decode cJ7_copyOf_59c91 10 = .ok (.checkcast 317, 3) := by decide +kernel
theorem dJ7_copyOf_59c91_13 : decode cJ7_copyOf_59c91 13 = .ok (.areturn, 1) := by decide +kernel
theorem dJ7_copyOf_59c91_14 : decode cJ7_copyOf_59c91 14 = .ok (.iload_n 1, 1) := by decide +kernel
theorem dJ7_copyOf_59c91_15 : decode cJ7_copyOf_59c91 15 = .ok (.newarray .int, 2) := by decide +kernel
theorem dJ7_copyOf_59c91_17 : decode cJ7_copyOf_59c91 17 = .ok (.astore_n 2, 1) := by decide +kernel
theorem dJ7_copyOf_59c91_18 : decode cJ7_copyOf_59c91 18 = .ok (.aload_n 0, 1) := by decide +kernel
theorem dJ7_copyOf_59c91_19 : decode cJ7_copyOf_59c91 19 = .ok (.iconst 0, 1) := by decide +kernel
theorem dJ7_copyOf_59c91_20 : decode cJ7_copyOf_59c91 20 = .ok (.aload_n 2, 1) := by decide +kernel
theorem dJ7_copyOf_59c91_21 : decode cJ7_copyOf_59c91 21 = .ok (.iconst 0, 1) := by decide +kernel
theorem dJ7_copyOf_59c91_22 : decode cJ7_copyOf_59c91 22 = .ok (.aload_n 0, 1) := by decide +kernel
theorem dJ7_copyOf_59c91_23 : decode cJ7_copyOf_59c91 23 = .ok (.arraylength, 1) := by decide +kernel
theorem dJ7_copyOf_59c91_24 : decode cJ7_copyOf_59c91 24 = .ok (.iload_n 1, 1) := by decide +kernel
theorem dJ7_copyOf_59c91_25 : decode cJ7_copyOf_59c91 25 = .ok (.invokestatic 304, 3) := by decide +kernel
theorem dJ7_copyOf_59c91_28 : decode cJ7_copyOf_59c91 28 = .ok (.invokestatic 150, 3) := by decide +kernel
theorem dJ7_copyOf_59c91_31 : decode cJ7_copyOf_59c91 31 = .ok (.aload_n 2, 1) := by decide +kernel
theorem dJ7_copyOf_59c91_32 : decode cJ7_copyOf_59c91 32 = .ok (.areturn, 1) := by decide +kernel
end
section
theorem z_neg {k : Nat} (h : k < 2 ^ 31) : ¬ nI k < 0 := nI_pos h
theorem z_ge {k : Nat} (h : k < 2 ^ 31) : 0 ≤ nI k := nI_pos' h
theorem z_eq {k : Nat} (h : k < 2 ^ 31) : nI k = 0 ↔ k = 0 := by rw [← nI_0]; exact nI_eq h (by decide)
theorem z_gt {k : Nat} (h : k < 2 ^ 31) : 0 < nI k ↔ ¬ k = 0 := by rw [← nI_0, nI_ltI (by decide) h]; omega
theorem z_le {k : Nat} (h : k < 2 ^ 31) : nI k ≤ 0 ↔ k = 0 := by rw [← nI_0, nI_leI h (by decide)]; omega
theorem iinc1 (k : Nat) : nI k + Int32.ofInt 1 = nI (k + 1) := nI_1 k
theorem nI_m1 {k : Nat} (h : 0 < k) : nI k + Int32.ofInt (-1) = nI (k - 1) := by
  obtain ⟨j, rfl⟩ : ∃ j, k = j + 1 := ⟨k - 1, by omega⟩
  exact pk_m1 j
theorem va_up_nI (f : Nat → Nat) (k x : Nat) : va_up (fun j => nI (f j)) k (nI x) = fun j => nI (va_up f k x j) := by
  funext j
  unfold va_up
  split <;> rfl
def b2i (b : Bool) : Int32 := if b then nI 1 else nI 0
theorem b2i_nar (b : Bool) : narrow .boolean (.int (b2i b)) = .int (b2i b) := by cases b <;> rfl
/-- the place that an int names among n things -/
def ix (n : Nat) (x : Int32) : Option Nat := if ¬ x < 0 ∧ x.toNatClampNeg < n then some x.toNatClampNeg else none
theorem ix_in {n k : Nat} (h : k < n) (hn : n < 2 ^ 31) : ix n (nI k) = some k := by
  have hk : k < 2 ^ 31 := by omega
  unfold ix
  rw [nI_clamp hk, if_pos ⟨z_neg hk, h⟩]
theorem ix_out {n : Nat} {x : Int32} (h : ∀ k, k < n → x ≠ nI k) : ix n x = none := by
  unfold ix
  split
  · rename_i hc
    obtain ⟨j, hj, rfl⟩ := nI_of hc.1
    rw [nI_clamp hj] at hc
    exact absurd rfl (h j hc.2)
  · rfl
/-- a test's answer: whether an int names one of n things -/
def inX (n : Nat) (x r : Int32) : Prop := (r = nI 1 ∧ ∃ k, k < n ∧ x = nI k) ∨ (r = nI 0 ∧ ∀ k, k < n → x ≠ nI k)
theorem inX_t {n : Nat} {x : Int32} (h0 : ¬ x < 0) (h1 : ¬ nI n ≤ x) (hn : n < 2 ^ 31) : inX n x (nI 1) := by
  obtain ⟨j, h2, h3, -⟩ := pk_mu h0 h1 hn
  exact Or.inl ⟨rfl, j, h2, h3⟩
theorem inX_n {n : Nat} {x : Int32} (h0 : x < 0) (hn : n < 2 ^ 31) : inX n x (nI 0) := Or.inr ⟨rfl, fun k hk e => absurd (e ▸ h0) (z_neg (by omega))⟩
theorem inX_g {n : Nat} {x : Int32} (h1 : nI n ≤ x) (hn : n < 2 ^ 31) : inX n x (nI 0) := Or.inr ⟨rfl, fun k hk e => absurd ((nI_leI hn (by omega)).mp (e ▸ h1)) (by omega)⟩
/-- whether a set has a number, as the code asks it -/
def hbt (s : Int32) (k : Nat) : Bool := decide (((s >>> (nI k &&& 31)) &&& nI 1) = nI 1)
theorem tb_out (x : Int32) {hi : Int} (n : Nat) (hh : hi = n) (h : ∀ k, k < n + 1 → ¬ x = nI k) (hn : n < 1000) : x.toInt < 0 ∨ hi < x.toInt := by
  by_cases h0 : x < 0
  · exact Or.inl (by simpa using Int32.lt_iff_toInt_lt.mp h0)
  · obtain ⟨j, hj, rfl⟩ := nI_of h0
    right
    rw [nI_toInt hj, hh]
    by_cases hk : j < n + 1
    · exact absurd rfl (h j hk)
    · omega
section ROWS
variable {p : Program} {l : Launch} {e : Env} {R : Room} {s : State} {m : MethodId} {args : Array Value} {below : List Frame} {meth : Method} {c : Code} {H : Heap} {locs : List Loc} {cells slots : Nat} {Q : State → Prop}
variable {cc : ByteArray} {pc : Nat} {ls : Array Slot} {rest : List Value} {D : va_G} {cl : List vw_C} {A : Nat → Prop} {a : Nat} {tys : List (ClassId × FieldType)} {ws : va_W} {H0 : Heap}
theorem ialdK (hexec : p.tables.exec = Jvm.exec) (hb : c.code = cc) (hK : va_K D cl tys s) (hP : va_P D cl ws H) (q0 t0 : Nat) {cA : ClassId} {n k : Nat} {f : Nat → Int32} (ha : ws[q0]? = some (a, .inl (cA, n, .inl f))) (ht : tys[t0]? = some (cA, .int)) {i : Int32} (hi : i = nI k) (hk : k < n) (hn : n < 2 ^ 31) (hdg : decode cc pc = .ok (.iaload, 1))
    (kk : W p l e R s m args below meth c H locs cells slots Q (F0 m (pc + 1) ls (.int (f k) :: rest))) : W p l e R s m args below meth c H locs cells slots Q (F0 m pc ls (.int i :: .ref a :: rest)) := by
  subst hi
  refine va_iald hexec hb hK hP q0 t0 ha ht (vp_in_nI hk hn) hdg ?_
  rw [nI_clamp (by omega)]
  exact kk
theorem ialdN (hexec : p.tables.exec = Jvm.exec) (hb : c.code = cc) (hK : va_K D cl tys s) (hP : va_P D cl ws H) (q0 t0 : Nat) {cA : ClassId} {n k : Nat} {f : Nat → Nat} (ha : ws[q0]? = some (a, .inl (cA, n, .inl (fun j => nI (f j))))) (ht : tys[t0]? = some (cA, .int)) {i : Int32} (hi : i = nI k) (hk : k < n) (hn : n < 2 ^ 31) (hdg : decode cc pc = .ok (.iaload, 1))
    (kk : W p l e R s m args below meth c H locs cells slots Q (F0 m (pc + 1) ls (.int (nI (f k)) :: rest))) : W p l e R s m args below meth c H locs cells slots Q (F0 m pc ls (.int i :: .ref a :: rest)) := ialdK hexec hb hK hP q0 t0 ha ht hi hk hn hdg kk
theorem iastK (hexec : p.tables.exec = Jvm.exec) (hb : c.code = cc) (hK : va_K D cl tys s) (hP : va_P D cl ws H) (hD : va_D A ws) (hS : va_S A H0 H locs) (q0 t0 : Nat) {cA : ClassId} {n k : Nat} {f : Nat → Int32} (ha : ws[q0]? = some (a, .inl (cA, n, .inl f))) (ht : tys[t0]? = some (cA, .int)) {i x : Int32} (hi : i = nI k) (hk : k < n) (hn : n < 2 ^ 31) (hdg : decode cc pc = .ok (.iastore, 1))
    (kk : ∀ (H1 : Heap) (locs1 : List Loc), va_P D cl (ws.set q0 (a, .inl (cA, n, .inl (va_up f k x)))) H1 → va_D A (ws.set q0 (a, .inl (cA, n, .inl (va_up f k x)))) → va_S A H0 H1 locs1 → W p l e R s m args below meth c H1 locs1 cells slots Q (F0 m (pc + 1) ls rest)) : W p l e R s m args below meth c H locs cells slots Q (F0 m pc ls (.int x :: .int i :: .ref a :: rest)) := by
  subst hi
  refine va_iast hexec hb hK hP hD hS q0 t0 ha ht (vp_in_nI hk hn) hdg ?_
  rw [nI_clamp (by omega)]
  exact kk
theorem iastN (hexec : p.tables.exec = Jvm.exec) (hb : c.code = cc) (hK : va_K D cl tys s) (hP : va_P D cl ws H) (hD : va_D A ws) (hS : va_S A H0 H locs) (q0 t0 : Nat) {cA : ClassId} {n k x : Nat} {f : Nat → Nat} (ha : ws[q0]? = some (a, .inl (cA, n, .inl (fun j => nI (f j))))) (ht : tys[t0]? = some (cA, .int)) {i : Int32} (hi : i = nI k) (hk : k < n) (hn : n < 2 ^ 31) (hdg : decode cc pc = .ok (.iastore, 1))
    (kk : ∀ (H1 : Heap) (locs1 : List Loc), va_P D cl (ws.set q0 (a, .inl (cA, n, .inl (fun j => nI (va_up f k x j))))) H1 → va_D A (ws.set q0 (a, .inl (cA, n, .inl (fun j => nI (va_up f k x j))))) → va_S A H0 H1 locs1 → W p l e R s m args below meth c H1 locs1 cells slots Q (F0 m (pc + 1) ls rest)) : W p l e R s m args below meth c H locs cells slots Q (F0 m pc ls (.int (nI x) :: .int i :: .ref a :: rest)) := by
  refine iastK hexec hb hK hP hD hS q0 t0 ha ht hi hk hn hdg ?_
  rw [va_up_nI]
  exact kk
theorem aaldK (hexec : p.tables.exec = Jvm.exec) (hb : c.code = cc) (hK : va_K D cl tys s) (hP : va_P D cl ws H) (q0 t0 : Nat) {cA : ClassId} {C : String} {n k : Nat} {f : Nat → Option Nat} (ha : ws[q0]? = some (a, .inl (cA, n, .inr (.inr (.inr (.inr f)))))) (ht : tys[t0]? = some (cA, .object C)) {i : Int32} (hi : i = nI k) (hk : k < n) (hn : n < 2 ^ 31) (hdg : decode cc pc = .ok (.aaload, 1))
    (kk : W p l e R s m args below meth c H locs cells slots Q (F0 m (pc + 1) ls (va_rf (f k) :: rest))) : W p l e R s m args below meth c H locs cells slots Q (F0 m pc ls (.int i :: .ref a :: rest)) := by
  subst hi
  refine va_aldq hexec hb hK hP q0 t0 ha ht (vp_in_nI hk hn) hdg ?_
  rw [nI_clamp (by omega)]
  exact kk
theorem aastK (hexec : p.tables.exec = Jvm.exec) (hb : c.code = cc) (hK : va_K D cl tys s) (hP : va_P D cl ws H) (hD : va_D A ws) (hS : va_S A H0 H locs) (q0 t0 qk ci : Nat) {cA : ClassId} {r : vw_C} {n v k : Nat} {vs : List Value} {f : Nat → Option Nat} (ha : ws[q0]? = some (a, .inl (cA, n, .inr (.inr (.inr (.inr f)))))) (ht : tys[t0]? = some (cA, .object r.1)) (hv : ws[qk]? = some (v, .inr (ci, vs))) (hc : cl[ci]? = some r) {i : Int32} (hi : i = nI k) (hk : k < n) (hn : n < 2 ^ 31) (hdg : decode cc pc = .ok (.aastore, 1))
    (kk : ∀ (H1 : Heap) (locs1 : List Loc), va_P D cl (ws.set q0 (a, .inl (cA, n, .inr (.inr (.inr (.inr (va_up f k (some v)))))))) H1 → va_D A (ws.set q0 (a, .inl (cA, n, .inr (.inr (.inr (.inr (va_up f k (some v)))))))) → va_S A H0 H1 locs1 → W p l e R s m args below meth c H1 locs1 cells slots Q (F0 m (pc + 1) ls rest)) : W p l e R s m args below meth c H locs cells slots Q (F0 m pc ls (.ref v :: .int i :: .ref a :: rest)) := by
  subst hi
  refine va_astq hexec hb hK hP hD hS q0 t0 qk ci ha ht hv hc (vp_in_nI hk hn) hdg ?_
  rw [nI_clamp (by omega)]
  exact kk
theorem newI {G : GG} {N : Nat} (hexec : p.tables.exec = Jvm.exec) (hb : c.code = cc) (harr : (Cond.arrayClass .int).before args s = true) (hK : va_K G.1 vwCl (tyL G) s) (hP : PP G ws H) (hD : va_D A ws) (hS : va_S A H0 H locs) (hA : ∀ q, H0.size ≤ q → A q) (hN : N ≤ 1000) (hcells : cells + 1 ≤ R.cells) (hslots : slots + N ≤ R.slots) (hdg : decode cc pc = .ok (.newarray .int, 2))
    (kk : ∀ (q : Nat) (H1 : Heap), PP G (ws ++ [(q, iA G N (fun _ => nI 0))]) H1 → va_D A (ws ++ [(q, iA G N (fun _ => nI 0))]) → va_S A H0 H1 locs → W p l e R s m args below meth c H1 locs (cells + 1) (slots + N) Q (F0 m (pc + 2) ls (.ref q :: rest))) : W p l e R s m args below meth c H locs cells slots Q (F0 m pc ls (.int (nI N) :: rest)) := by
  refine va_newa (atype := .int) (ty := .int) (a0 := (N, .inl (fun _ => nI 0))) hexec hb harr rfl hK hP hD hS hA (fun cA => rfl) (z_neg (by omega)) (nI_clamp (by omega)) (by show N * 4 ≤ _; omega) hcells hslots hdg (fun q cA H1 hK1 hP1 hD1 hS1 => ?_)
  have e1 : s.vm.findClass ("[" ++ FieldType.int.toString) = some G.2.1 := (hK.2 0 _ rfl).2
  have e2 : s.vm.findClass ("[" ++ FieldType.int.toString) = some cA := (hK1.2 3 _ rfl).2
  obtain rfl : cA = G.2.1 := Option.some.inj (e2.symm.trans e1)
  exact kk q H1 hP1 hD1 hS1
theorem newP {G : GG} {N index : Nat} {own : String} (hexec : p.tables.exec = Jvm.exec) (hb : c.code = cc) (hown : s.vm.findClass own = some m.cls) (hcl : (Cond.classLink own index "CallNumbers$Plan").before args s = true) (ho : va_AO "CallNumbers$Plan" s) (hK : va_K G.1 vwCl (tyL G) s) (hP : PP G ws H) (hD : va_D A ws) (hS : va_S A H0 H locs) (hA : ∀ q, H0.size ≤ q → A q) (hN : N ≤ 1000) (hcells : cells + 1 ≤ R.cells) (hslots : slots + N ≤ R.slots) (hdg : decode cc pc = .ok (.anewarray index, 3))
    (kk : ∀ (q : Nat) (H1 : Heap), PP G (ws ++ [(q, pA G N (fun _ => none))]) H1 → va_D A (ws ++ [(q, pA G N (fun _ => none))]) → va_S A H0 H1 locs → W p l e R s m args below meth c H1 locs (cells + 1) (slots + N) Q (F0 m (pc + 3) ls (.ref q :: rest))) : W p l e R s m args below meth c H locs cells slots Q (F0 m pc ls (.int (nI N) :: rest)) := by
  refine va_newq hexec hb hown hcl ho hK hP hD hS hA (z_neg (by omega)) (nI_clamp (by omega)) (by omega) hcells hslots hdg (fun q cA H1 hK1 hP1 hD1 hS1 => ?_)
  obtain ⟨-, -, -, -, -, e1⟩ := (hK.2 1 _ rfl).2
  obtain ⟨-, -, -, -, -, e2⟩ := (hK1.2 3 _ rfl).2
  obtain rfl : cA = G.2.2.1 := Option.some.inj (e2.symm.trans e1)
  exact kk q H1 hP1 hD1 hS1
theorem newS {G : GG} {N index : Nat} {own : String} (hexec : p.tables.exec = Jvm.exec) (hb : c.code = cc) (hown : s.vm.findClass own = some m.cls) (hcl : (Cond.classLink own index "CallNumbers$Snap").before args s = true) (ho : va_AO "CallNumbers$Snap" s) (hK : va_K G.1 vwCl (tyL G) s) (hP : PP G ws H) (hD : va_D A ws) (hS : va_S A H0 H locs) (hA : ∀ q, H0.size ≤ q → A q) (hN : N ≤ 1000) (hcells : cells + 1 ≤ R.cells) (hslots : slots + N ≤ R.slots) (hdg : decode cc pc = .ok (.anewarray index, 3))
    (kk : ∀ (q : Nat) (H1 : Heap), PP G (ws ++ [(q, sA G N (fun _ => none))]) H1 → va_D A (ws ++ [(q, sA G N (fun _ => none))]) → va_S A H0 H1 locs → W p l e R s m args below meth c H1 locs (cells + 1) (slots + N) Q (F0 m (pc + 3) ls (.ref q :: rest))) : W p l e R s m args below meth c H locs cells slots Q (F0 m pc ls (.int (nI N) :: rest)) := by
  refine va_newq hexec hb hown hcl ho hK hP hD hS hA (z_neg (by omega)) (nI_clamp (by omega)) (by omega) hcells hslots hdg (fun q cA H1 hK1 hP1 hD1 hS1 => ?_)
  obtain ⟨-, -, -, -, -, e1⟩ := (hK.2 2 _ rfl).2
  obtain ⟨-, -, -, -, -, e2⟩ := (hK1.2 3 _ rfl).2
  obtain rfl : cA = G.2.2.2 := Option.some.inj (e2.symm.trans e1)
  exact kk q H1 hP1 hD1 hS1
end ROWS
end
section
def hereF (to row : Nat → Nat) (d : Nat) : Nat := if d = 0 then 0 else to (row (d - 1))
def kindF (ri me an : Int32) (sn : Nat) (fr to : Nat → Nat) (e : Nat) : Nat := if hbt ri e then 1 else if e < sn then (if hbt me (fr e) then (if hbt an (to e) then 4 else 0) else 3) else 2
theorem out_n {n : Nat} {x : Int32} (h0 : x < 0) (hn : n < 2 ^ 31) : ∀ k, k < n → x ≠ nI k := fun k hk e => absurd (e ▸ h0) (z_neg (by omega))
theorem out_g {n m : Nat} {x : Int32} (h1 : nI m ≤ x) (h : n ≤ m) (hm : m < 2 ^ 31) : ∀ k, k < n → x ≠ nI k := fun k hk e => absurd ((nI_leI hm (by omega)).mp (e ▸ h1)) (by omega)
set_option maxHeartbeats 4000000 in
set_option maxRecDepth 100000 in
theorem c_X7_has (G : GG) (l : Launch) (x : Int32) (k : Nat) : Met l yX7_has wsX7_has { frames := 0, cells := 0, slots := 0, locals := 0 } (RPc G [.int x, .int (nI k)] []) (vp_Si (fun r => (r = nI 1 ∧ hbt x k = true) ∨ (r = nI 0 ∧ hbt x k = false))) 0 0 (fun _ => False) := by
  refine Met.ofW (cc := cX7_has) (maxL := 2) (ret := (some .boolean)) (by decide) rfl ?_
  intro p e s m args below meth c s₁ B hml hv
  obtain ⟨rfl, hP, hK⟩ := hv
  have hx := B.exec
  have hb := B.bytes
  have hr := B.returns
  have hts := atoms_spec (ws := wsX7_has) B.pre
  have hown : s.vm.findClass RX7 = some m.cls := findClass_of_methodNamed B.named
  have hlocks := B.notSynchronized
  have hl := lv_entry ([.int x, .int (nI k)]) (n := 2) (Nat.le_of_ble_eq_true rfl)
  rw [lg_entry_eq]
  generalize (lg_sl ([.int x, .int (nI k)]) ++ List.replicate (2 - (lg_sl ([.int x, .int (nI k)])).length) Slot.unset).toArray = ls at hl ⊢
  have hl : lv_has ls 2 [(0, .int x), (1, .int (nI k))] := hl
  refine lv_iload_n hx hb dX7_has_0 rfl (lv_at hl 0 rfl) ?_
  refine lv_iload_n hx hb dX7_has_1 rfl (lv_at hl 1 rfl) ?_
  refine lv_ishr hx hb dX7_has_2 ?_
  refine lv_iconst (v := nI 1) hx hb dX7_has_3 (by decide) ?_
  refine lv_iand hx hb dX7_has_4 ?_
  refine lv_iconst (v := nI 1) hx hb dX7_has_5 (by decide) ?_
  refine lv_icmp_ne (tgt := 13) hx hb dX7_has_6 (by decide) (fun c6 => ?_) (fun c6 => ?_)
  · skip
    refine lv_iconst (v := nI 0) hx hb dX7_has_13 (by decide) ?_
    exact W.zret (v := nI 0) hx hb hr (by rfl) (fun t ht _ => ⟨_, rfl, Or.inr ⟨rfl, decide_eq_false c6⟩, ht⟩) (fun _ h9 => by cases h9) dX7_has_14
  · skip
    refine lv_iconst (v := nI 1) hx hb dX7_has_9 (by decide) ?_
    refine lv_goto (tgt := 14) hx hb dX7_has_10 (by decide) ?_
    exact W.zret (v := nI 1) hx hb hr (by rfl) (fun t ht _ => ⟨_, rfl, Or.inl ⟨rfl, decide_eq_true c6⟩, ht⟩) (fun _ h9 => by cases h9) dX7_has_14
set_option maxHeartbeats 4000000 in
set_option maxRecDepth 100000 in
theorem c_X7_isRoutine (G : GG) (l : Launch) (x : Int32) : Met l yX7_isRoutine wsX7_isRoutine { frames := 0, cells := 0, slots := 0, locals := 0 } (RPc G [.int x] []) (vp_Si (fun r => inX 10 x r)) 0 0 (fun _ => False) := by
  refine Met.ofW (cc := cX7_isRoutine) (maxL := 1) (ret := (some .boolean)) (by decide) rfl ?_
  intro p e s m args below meth c s₁ B hml hv
  obtain ⟨rfl, hP, hK⟩ := hv
  have hx := B.exec
  have hb := B.bytes
  have hr := B.returns
  have hts := atoms_spec (ws := wsX7_isRoutine) B.pre
  have hown : s.vm.findClass RX7 = some m.cls := findClass_of_methodNamed B.named
  have hlocks := B.notSynchronized
  have hl := lv_entry ([.int x]) (n := 1) (Nat.le_of_ble_eq_true rfl)
  rw [lg_entry_eq]
  generalize (lg_sl ([.int x]) ++ List.replicate (1 - (lg_sl ([.int x])).length) Slot.unset).toArray = ls at hl ⊢
  have hl : lv_has ls 1 [(0, .int x)] := hl
  refine lv_iload_n hx hb dX7_isRoutine_0 rfl (lv_at hl 0 rfl) ?_
  refine lv_if_lt (tgt := 14) hx hb dX7_isRoutine_1 (by decide) (fun c1 => ?_) (fun c1 => ?_)
  · skip
    refine lv_iconst (v := nI 0) hx hb dX7_isRoutine_14 (by decide) ?_
    exact W.zret (v := nI 0) hx hb hr (by rfl) (fun t ht _ => ⟨_, rfl, inX_n c1 (by decide), ht⟩) (fun _ h9 => by cases h9) dX7_isRoutine_15
  · skip
    refine lv_iload_n hx hb dX7_isRoutine_4 rfl (lv_at hl 0 rfl) ?_
    refine lv_bipush (v := nI 10) hx hb dX7_isRoutine_5 (by decide) ?_
    refine lv_icmp_ge (tgt := 14) hx hb dX7_isRoutine_7 (by decide) (fun c7 => ?_) (fun c7 => ?_)
    · skip
      refine lv_iconst (v := nI 0) hx hb dX7_isRoutine_14 (by decide) ?_
      exact W.zret (v := nI 0) hx hb hr (by rfl) (fun t ht _ => ⟨_, rfl, inX_g c7 (by decide), ht⟩) (fun _ h9 => by cases h9) dX7_isRoutine_15
    · skip
      refine lv_iconst (v := nI 1) hx hb dX7_isRoutine_10 (by decide) ?_
      refine lv_goto (tgt := 15) hx hb dX7_isRoutine_11 (by decide) ?_
      exact W.zret (v := nI 1) hx hb hr (by rfl) (fun t ht _ => ⟨_, rfl, inX_t c1 c7 (by decide), ht⟩) (fun _ h9 => by cases h9) dX7_isRoutine_15
set_option maxHeartbeats 4000000 in
set_option maxRecDepth 100000 in
theorem c_X7_isCall (G : GG) (l : Launch) (o qc n : Nat) (fs gs : List Value) (x : Int32) (h0 : fs[0]? = some (.ref qc)) (h2 : gs[2]? = some (.int (nI n))) (hn : n ≤ 24) : Met l yX7_isCall wsX7_isCall { frames := 0, cells := 0, slots := 0, locals := 0 } (RPc G [.ref o, .int x] [(o, ob 7 fs), (qc, ob 1 gs)]) (vp_Si (fun r => inX n x r)) 0 0 (fun _ => False) := by
  refine Met.ofW (cc := cX7_isCall) (maxL := 2) (ret := (some .boolean)) (by decide) rfl ?_
  intro p e s m args below meth c s₁ B hml hv
  obtain ⟨rfl, hP, hK⟩ := hv
  have hx := B.exec
  have hb := B.bytes
  have hr := B.returns
  have hts := atoms_spec (ws := wsX7_isCall) B.pre
  have hown : s.vm.findClass RX7 = some m.cls := findClass_of_methodNamed B.named
  have hlocks := B.notSynchronized
  have hl := lv_entry ([.ref o, .int x]) (n := 2) (Nat.le_of_ble_eq_true rfl)
  rw [lg_entry_eq]
  generalize (lg_sl ([.ref o, .int x]) ++ List.replicate (2 - (lg_sl ([.ref o, .int x])).length) Slot.unset).toArray = ls at hl ⊢
  have hl : lv_has ls 2 [(0, .ref o), (1, .int x)] := hl
  refine lv_iload_n hx hb dX7_isCall_0 rfl (lv_at hl 1 rfl) ?_
  refine lv_if_lt (tgt := 19) hx hb dX7_isCall_1 (by decide) (fun c1 => ?_) (fun c1 => ?_)
  · skip
    refine lv_iconst (v := nI 0) hx hb dX7_isCall_19 (by decide) ?_
    exact W.zret (v := nI 0) hx hb hr (by rfl) (fun t ht _ => ⟨_, rfl, inX_n c1 (by omega), ht⟩) (fun _ h9 => by cases h9) dX7_isCall_20
  · skip
    refine lv_iload_n hx hb dX7_isCall_4 rfl (lv_at hl 1 rfl) ?_
    refine lv_aload_n hx hb dX7_isCall_5 rfl (lv_at hl 0 rfl) ?_
    refine va_get (D := G.1) (ci := 7) (v := .ref qc) (C := RX7) (T := TX7) (N := 10) hx hb hts (by decide +kernel) hown hK.1 hP 0 rfl rfl 0 (by decide) (hts (.fieldLink RX7 10 "CallNumbers" "calls" "LCallNumbers$Calls;") (by decide +kernel)) (fun _ h9 => h9) h0 dX7_isCall_6 ?_
    refine va_getN (D := G.1) (ci := 1) (v := .int (nI n)) (C := RX1) (T := TX1) (N := 3) hx hb hts (by decide +kernel) hown hK.1 hP 1 rfl rfl 2 (by decide) (hK.2.1.f 11 rfl) (fun _ h9 => h9) h2 dX7_isCall_9 ?_
    refine lv_icmp_ge (tgt := 19) hx hb dX7_isCall_12 (by decide) (fun c12 => ?_) (fun c12 => ?_)
    · skip
      refine lv_iconst (v := nI 0) hx hb dX7_isCall_19 (by decide) ?_
      exact W.zret (v := nI 0) hx hb hr (by rfl) (fun t ht _ => ⟨_, rfl, inX_g c12 (by omega), ht⟩) (fun _ h9 => by cases h9) dX7_isCall_20
    · skip
      refine lv_iconst (v := nI 1) hx hb dX7_isCall_15 (by decide) ?_
      refine lv_goto (tgt := 20) hx hb dX7_isCall_16 (by decide) ?_
      exact W.zret (v := nI 1) hx hb hr (by rfl) (fun t ht _ => ⟨_, rfl, inX_t c1 c12 (by omega), ht⟩) (fun _ h9 => by cases h9) dX7_isCall_20
set_option maxHeartbeats 4000000 in
set_option maxRecDepth 100000 in
theorem c_X7_planOf (G : GG) (l : Launch) (o qp np : Nat) (fs : List Value) (x : Int32) (pf : Nat → Option Nat) (h1 : fs[1]? = some (.ref qp)) (h7 : fs[7]? = some (.int (nI np))) (hn : np ≤ 8) : Met l yX7_planOf wsX7_planOf { frames := 0, cells := 0, slots := 0, locals := 0 } (RPc G [.ref o, .int x] [(o, ob 7 fs), (qp, pA G 8 pf)]) (va_Sq (fun r => (∃ k, k < np ∧ x = nI k ∧ r = pf k) ∨ (r = none ∧ ∀ k, k < np → x ≠ nI k))) 0 0 (fun _ => False) := by
  refine Met.ofW (cc := cX7_planOf) (maxL := 2) (ret := (some (.object "CallNumbers$Plan"))) (by decide) rfl ?_
  intro p e s m args below meth c s₁ B hml hv
  obtain ⟨rfl, hP, hK⟩ := hv
  have hx := B.exec
  have hb := B.bytes
  have hr := B.returns
  have hts := atoms_spec (ws := wsX7_planOf) B.pre
  have hown : s.vm.findClass RX7 = some m.cls := findClass_of_methodNamed B.named
  have hlocks := B.notSynchronized
  have hl := lv_entry ([.ref o, .int x]) (n := 2) (Nat.le_of_ble_eq_true rfl)
  rw [lg_entry_eq]
  generalize (lg_sl ([.ref o, .int x]) ++ List.replicate (2 - (lg_sl ([.ref o, .int x])).length) Slot.unset).toArray = ls at hl ⊢
  have hl : lv_has ls 2 [(0, .ref o), (1, .int x)] := hl
  refine lv_iload_n hx hb dX7_planOf_0 rfl (lv_at hl 1 rfl) ?_
  refine lv_if_lt (tgt := 27) hx hb dX7_planOf_1 (by decide) (fun c1 => ?_) (fun c1 => ?_)
  · skip
    refine lv_null hx hb dX7_planOf_27 ?_
    exact W.aret (v := va_rf none) hx hb hr (Or.inl ⟨_, rfl⟩) (va_rf_or _) (fun t ht _ => ⟨_, rfl, Or.inr ⟨rfl, out_n c1 (by omega)⟩, ht⟩) (fun _ h9 => by cases h9) dX7_planOf_28
  · skip
    refine lv_iload_n hx hb dX7_planOf_4 rfl (lv_at hl 1 rfl) ?_
    refine lv_aload_n hx hb dX7_planOf_5 rfl (lv_at hl 0 rfl) ?_
    refine va_get (D := G.1) (ci := 7) (v := .int (nI np)) (C := RX7) (T := TX7) (N := 10) hx hb hts (by decide +kernel) hown hK.1 hP 0 rfl rfl 7 (by decide) (hts (.fieldLink RX7 62 "CallNumbers" "planCount" "I") (by decide +kernel)) (fun _ h9 => h9) h7 dX7_planOf_6 ?_
    refine lv_icmp_ge (tgt := 27) hx hb dX7_planOf_9 (by decide) (fun c9 => ?_) (fun c9 => ?_)
    · skip
      refine lv_null hx hb dX7_planOf_27 ?_
      exact W.aret (v := va_rf none) hx hb hr (Or.inl ⟨_, rfl⟩) (va_rf_or _) (fun t ht _ => ⟨_, rfl, Or.inr ⟨rfl, out_g c9 (Nat.le_refl _) (by omega)⟩, ht⟩) (fun _ h9 => by cases h9) dX7_planOf_28
    · skip
      refine lv_iload_n hx hb dX7_planOf_12 rfl (lv_at hl 1 rfl) ?_
      refine lv_bipush (v := nI 8) hx hb dX7_planOf_13 (by decide) ?_
      refine lv_icmp_ge (tgt := 27) hx hb dX7_planOf_15 (by decide) (fun c15 => ?_) (fun c15 => ?_)
      · skip
        refine lv_null hx hb dX7_planOf_27 ?_
        exact W.aret (v := va_rf none) hx hb hr (Or.inl ⟨_, rfl⟩) (va_rf_or _) (fun t ht _ => ⟨_, rfl, Or.inr ⟨rfl, out_g c15 hn (by omega)⟩, ht⟩) (fun _ h9 => by cases h9) dX7_planOf_28
      · skip
        obtain ⟨k, hk, rfl⟩ : ∃ k, k < np ∧ x = nI k := by obtain ⟨j, a, b, -⟩ := pk_mu c1 c9 (by omega); exact ⟨j, a, b⟩
        refine lv_aload_n hx hb dX7_planOf_18 rfl (lv_at hl 0 rfl) ?_
        refine va_get (D := G.1) (ci := 7) (v := .ref qp) (C := RX7) (T := TX7) (N := 10) hx hb hts (by decide +kernel) hown hK.1 hP 0 rfl rfl 1 (by decide) (hts (.fieldLink RX7 18 "CallNumbers" "plans" "[LCallNumbers$Plan;") (by decide +kernel)) (fun _ h9 => h9) h1 dX7_planOf_19 ?_
        refine lv_iload_n hx hb dX7_planOf_22 rfl (lv_at hl 1 rfl) ?_
        refine aaldK (k := k) (f := pf) hx hb hK.1 hP 1 1 rfl rfl (rfl) (by omega) (Nat.le_of_ble_eq_true rfl) dX7_planOf_23 ?_
        refine lv_goto (tgt := 28) hx hb dX7_planOf_24 (by decide) ?_
        exact W.aret (v := va_rf (pf k)) hx hb hr (Or.inl ⟨_, rfl⟩) (va_rf_or _) (fun t ht _ => ⟨_, rfl, Or.inl ⟨k, hk, rfl, rfl⟩, ht⟩) (fun _ h9 => by cases h9) dX7_planOf_28
set_option maxHeartbeats 4000000 in
set_option maxRecDepth 100000 in
theorem c_X7_snapOf (G : GG) (l : Launch) (o qp np : Nat) (fs : List Value) (x : Int32) (pf : Nat → Option Nat) (h1 : fs[3]? = some (.ref qp)) (h7 : fs[8]? = some (.int (nI np))) (hn : np ≤ 10) : Met l yX7_snapOf wsX7_snapOf { frames := 0, cells := 0, slots := 0, locals := 0 } (RPc G [.ref o, .int x] [(o, ob 7 fs), (qp, sA G 10 pf)]) (va_Sq (fun r => (∃ k, k < np ∧ x = nI k ∧ r = pf k) ∨ (r = none ∧ ∀ k, k < np → x ≠ nI k))) 0 0 (fun _ => False) := by
  refine Met.ofW (cc := cX7_snapOf) (maxL := 2) (ret := (some (.object "CallNumbers$Snap"))) (by decide) rfl ?_
  intro p e s m args below meth c s₁ B hml hv
  obtain ⟨rfl, hP, hK⟩ := hv
  have hx := B.exec
  have hb := B.bytes
  have hr := B.returns
  have hts := atoms_spec (ws := wsX7_snapOf) B.pre
  have hown : s.vm.findClass RX7 = some m.cls := findClass_of_methodNamed B.named
  have hlocks := B.notSynchronized
  have hl := lv_entry ([.ref o, .int x]) (n := 2) (Nat.le_of_ble_eq_true rfl)
  rw [lg_entry_eq]
  generalize (lg_sl ([.ref o, .int x]) ++ List.replicate (2 - (lg_sl ([.ref o, .int x])).length) Slot.unset).toArray = ls at hl ⊢
  have hl : lv_has ls 2 [(0, .ref o), (1, .int x)] := hl
  refine lv_iload_n hx hb dX7_snapOf_0 rfl (lv_at hl 1 rfl) ?_
  refine lv_if_lt (tgt := 27) hx hb dX7_snapOf_1 (by decide) (fun c1 => ?_) (fun c1 => ?_)
  · skip
    refine lv_null hx hb dX7_snapOf_27 ?_
    exact W.aret (v := va_rf none) hx hb hr (Or.inl ⟨_, rfl⟩) (va_rf_or _) (fun t ht _ => ⟨_, rfl, Or.inr ⟨rfl, out_n c1 (by omega)⟩, ht⟩) (fun _ h9 => by cases h9) dX7_snapOf_28
  · skip
    refine lv_iload_n hx hb dX7_snapOf_4 rfl (lv_at hl 1 rfl) ?_
    refine lv_aload_n hx hb dX7_snapOf_5 rfl (lv_at hl 0 rfl) ?_
    refine va_get (D := G.1) (ci := 7) (v := .int (nI np)) (C := RX7) (T := TX7) (N := 10) hx hb hts (by decide +kernel) hown hK.1 hP 0 rfl rfl 8 (by decide) (hts (.fieldLink RX7 145 "CallNumbers" "snapCount" "I") (by decide +kernel)) (fun _ h9 => h9) h7 dX7_snapOf_6 ?_
    refine lv_icmp_ge (tgt := 27) hx hb dX7_snapOf_9 (by decide) (fun c9 => ?_) (fun c9 => ?_)
    · skip
      refine lv_null hx hb dX7_snapOf_27 ?_
      exact W.aret (v := va_rf none) hx hb hr (Or.inl ⟨_, rfl⟩) (va_rf_or _) (fun t ht _ => ⟨_, rfl, Or.inr ⟨rfl, out_g c9 (Nat.le_refl _) (by omega)⟩, ht⟩) (fun _ h9 => by cases h9) dX7_snapOf_28
    · skip
      refine lv_iload_n hx hb dX7_snapOf_12 rfl (lv_at hl 1 rfl) ?_
      refine lv_bipush (v := nI 10) hx hb dX7_snapOf_13 (by decide) ?_
      refine lv_icmp_ge (tgt := 27) hx hb dX7_snapOf_15 (by decide) (fun c15 => ?_) (fun c15 => ?_)
      · skip
        refine lv_null hx hb dX7_snapOf_27 ?_
        exact W.aret (v := va_rf none) hx hb hr (Or.inl ⟨_, rfl⟩) (va_rf_or _) (fun t ht _ => ⟨_, rfl, Or.inr ⟨rfl, out_g c15 hn (by omega)⟩, ht⟩) (fun _ h9 => by cases h9) dX7_snapOf_28
      · skip
        obtain ⟨k, hk, rfl⟩ : ∃ k, k < np ∧ x = nI k := by obtain ⟨j, a, b, -⟩ := pk_mu c1 c9 (by omega); exact ⟨j, a, b⟩
        refine lv_aload_n hx hb dX7_snapOf_18 rfl (lv_at hl 0 rfl) ?_
        refine va_get (D := G.1) (ci := 7) (v := .ref qp) (C := RX7) (T := TX7) (N := 10) hx hb hts (by decide +kernel) hown hK.1 hP 0 rfl rfl 3 (by decide) (hts (.fieldLink RX7 31 "CallNumbers" "snaps" "[LCallNumbers$Snap;") (by decide +kernel)) (fun _ h9 => h9) h1 dX7_snapOf_19 ?_
        refine lv_iload_n hx hb dX7_snapOf_22 rfl (lv_at hl 1 rfl) ?_
        refine aaldK (k := k) (f := pf) hx hb hK.1 hP 1 2 rfl rfl (rfl) (by omega) (Nat.le_of_ble_eq_true rfl) dX7_snapOf_23 ?_
        refine lv_goto (tgt := 28) hx hb dX7_snapOf_24 (by decide) ?_
        exact W.aret (v := va_rf (pf k)) hx hb hr (Or.inl ⟨_, rfl⟩) (va_rf_or _) (fun t ht _ => ⟨_, rfl, Or.inl ⟨k, hk, rfl, rfl⟩, ht⟩) (fun _ h9 => by cases h9) dX7_snapOf_28
set_option maxHeartbeats 4000000 in
set_option maxRecDepth 100000 in
theorem c_X0_here (G : GG) (l : Launch) (q qr qc qt d : Nat) (hs gs : List Value) (row to : Nat → Nat) (h0 : hs[0]? = some (.ref qr)) (h1 : hs[1]? = some (.int (nI d))) (g1 : gs[1]? = some (.ref qt)) (hd : d ≤ 30) (hrow : ∀ j, j < d → row j < 24) : Met l yX0_here wsX0_here { frames := 0, cells := 0, slots := 0, locals := 0 } (RPc G [.ref q, .ref qc] [(q, ob 0 hs), (qr, iA G 30 (fun j => nI (row j))), (qc, ob 1 gs), (qt, iA G 24 (fun j => nI (to j)))]) (vp_Si (fun r => r = nI (hereF to row d))) 0 0 (fun _ => False) := by
  refine Met.ofW (cc := cX0_here) (maxL := 2) (ret := (some .int)) (by decide) rfl ?_
  intro p e s m args below meth c s₁ B hml hv
  obtain ⟨rfl, hP, hK⟩ := hv
  have hx := B.exec
  have hb := B.bytes
  have hr := B.returns
  have hts := atoms_spec (ws := wsX0_here) B.pre
  have hown : s.vm.findClass RX0 = some m.cls := findClass_of_methodNamed B.named
  have hlocks := B.notSynchronized
  have hl := lv_entry ([.ref q, .ref qc]) (n := 2) (Nat.le_of_ble_eq_true rfl)
  rw [lg_entry_eq]
  generalize (lg_sl ([.ref q, .ref qc]) ++ List.replicate (2 - (lg_sl ([.ref q, .ref qc])).length) Slot.unset).toArray = ls at hl ⊢
  have hl : lv_has ls 2 [(0, .ref q), (1, .ref qc)] := hl
  refine lv_aload_n hx hb dX0_here_0 rfl (lv_at hl 0 rfl) ?_
  refine va_get (D := G.1) (ci := 0) (v := .int (nI d)) (C := RX0) (T := TX0) (N := 2) hx hb hts (by decide +kernel) hown hK.1 hP 0 rfl rfl 1 (by decide) (hts (.fieldLink RX0 15 "CallNumbers$CallStack" "count" "I") (by decide +kernel)) (fun _ h9 => h9) h1 dX0_here_1 ?_
  refine lv_if_le (tgt := 26) hx hb dX0_here_4 (by decide) (fun c4 => ?_) (fun c4 => ?_)
  · skip
    have c4 := (z_le (k := d) (by omega)).mp c4
    refine lv_iconst (v := nI 0) hx hb dX0_here_26 (by decide) ?_
    exact W.iret (v := nI 0) hx hb hr (fun t ht _ => ⟨_, rfl, by rw [hereF, if_pos (by omega)], ht⟩) (fun _ h9 => by cases h9) dX0_here_27
  · skip
    have c4 := mt (z_le (k := d) (by omega)).mpr c4
    refine lv_aload_n hx hb dX0_here_7 rfl (lv_at hl 1 rfl) ?_
    refine va_getN (D := G.1) (ci := 1) (v := .ref qt) (C := RX1) (T := TX1) (N := 3) hx hb hts (by decide +kernel) hown hK.1 hP 2 rfl rfl 1 (by decide) (hK.2.1.f 4 rfl) (fun _ h9 => h9) g1 dX0_here_8 ?_
    refine lv_aload_n hx hb dX0_here_11 rfl (lv_at hl 0 rfl) ?_
    refine va_get (D := G.1) (ci := 0) (v := .ref qr) (C := RX0) (T := TX0) (N := 2) hx hb hts (by decide +kernel) hown hK.1 hP 0 rfl rfl 0 (by decide) (hts (.fieldLink RX0 9 "CallNumbers$CallStack" "row" "[I") (by decide +kernel)) (fun _ h9 => h9) h0 dX0_here_12 ?_
    refine lv_aload_n hx hb dX0_here_15 rfl (lv_at hl 0 rfl) ?_
    refine va_get (D := G.1) (ci := 0) (v := .int (nI d)) (C := RX0) (T := TX0) (N := 2) hx hb hts (by decide +kernel) hown hK.1 hP 0 rfl rfl 1 (by decide) (hts (.fieldLink RX0 15 "CallNumbers$CallStack" "count" "I") (by decide +kernel)) (fun _ h9 => h9) h1 dX0_here_16 ?_
    refine lv_iconst (v := nI 1) hx hb dX0_here_19 (by decide) ?_
    refine lv_isub hx hb dX0_here_20 ?_
    refine lv_topi (fun v ev => ?_)
    obtain rfl : v = nI (d - 1) := ev.trans (pk_sub (by omega))
    refine ialdN (k := d - 1) (f := row) hx hb hK.1 hP 1 0 rfl rfl (rfl) (by omega) (Nat.le_of_ble_eq_true rfl) dX0_here_21 ?_
    refine ialdN (k := row (d - 1)) (f := to) hx hb hK.1 hP 3 0 rfl rfl (rfl) (hrow _ (by omega)) (Nat.le_of_ble_eq_true rfl) dX0_here_22 ?_
    refine lv_goto (tgt := 27) hx hb dX0_here_23 (by decide) ?_
    exact W.iret (v := nI (to (row (d - 1)))) hx hb hr (fun t ht _ => ⟨_, rfl, by rw [hereF, if_neg (by omega)], ht⟩) (fun _ h9 => by cases h9) dX0_here_27
set_option maxHeartbeats 4000000 in
set_option maxRecDepth 100000 in
theorem c_X4_kindOf (G : GG) (l : Launch) (q qc qf qt sn ev : Nat) (fs gs : List Value) (fr to : Nat → Nat) (me an ri : Int32) (f2 : fs[2]? = some (.int (nI sn))) (f3 : fs[3]? = some (.int me)) (f4 : fs[4]? = some (.int an)) (f5 : fs[5]? = some (.int ri)) (g0 : gs[0]? = some (.ref qf)) (g1 : gs[1]? = some (.ref qt)) (he : ev < 24) (hs : sn ≤ 24) : Met l yX4_kindOf wsX4_kindOf { frames := 1, cells := 0, slots := 0, locals := 21 } (RPc G [.ref q, .ref qc, .int (nI ev)] [(q, ob 4 fs), (qc, ob 1 gs), (qf, iA G 24 (fun j => nI (fr j))), (qt, iA G 24 (fun j => nI (to j)))]) (vp_Si (fun r => r = nI (kindF ri me an sn fr to ev))) 0 0 (fun _ => False) := by
  refine Met.ofW (cc := cX4_kindOf) (maxL := 3) (ret := (some .int)) (by decide) rfl ?_
  intro p e s m args below meth c s₁ B hml hv
  obtain ⟨rfl, hP, hK⟩ := hv
  have hx := B.exec
  have hb := B.bytes
  have hr := B.returns
  have hts := atoms_spec (ws := wsX4_kindOf) B.pre
  have hown : s.vm.findClass RX4 = some m.cls := findClass_of_methodNamed B.named
  have hlocks := B.notSynchronized
  have hl := lv_entry ([.ref q, .ref qc, .int (nI ev)]) (n := 3) (Nat.le_of_ble_eq_true rfl)
  rw [lg_entry_eq]
  generalize (lg_sl ([.ref q, .ref qc, .int (nI ev)]) ++ List.replicate (3 - (lg_sl ([.ref q, .ref qc, .int (nI ev)])).length) Slot.unset).toArray = ls at hl ⊢
  have hl : lv_has ls 3 [(0, .ref q), (1, .ref qc), (2, .int (nI ev))] := hl
  refine lv_aload_n hx hb dX4_kindOf_0 rfl (lv_at hl 0 rfl) ?_
  refine va_get (D := G.1) (ci := 4) (v := .int ri) (C := RX4) (T := TX4) (N := 7) hx hb hts (by decide +kernel) hown hK.1 hP 0 rfl rfl 5 (by decide) (hts (.fieldLink RX4 41 "CallNumbers$Plan" "rings" "I") (by decide +kernel)) (fun _ h9 => h9) f5 dX4_kindOf_1 ?_
  refine lv_iload_n hx hb dX4_kindOf_4 rfl (lv_at hl 2 rfl) ?_
  have hP_1 : PP G [] s.heap := hP.sub [] rfl
  refine csi (va_runSN (As := [.int ri, .int (nI ev)]) (rest := []) ⟨hx, hb, hml, hown, hts⟩ (c_X7_has G l ri ev) (⟨va_cnB 2 hts gX4_kindOf_X7_has_n74 rfl rfl rfl (hK.2.1.m 9 rfl) (hts (.initialized RX7) (by decide +kernel)) (by decide +kernel) ⟨Nat.le_of_ble_eq_true rfl, Nat.le_of_ble_eq_true rfl⟩, hts (.static yX7_has) (by decide +kernel), trivial⟩) (preR hK hP_1) rfl rfl hl.1 rfl (lv_room (Nat.le_of_ble_eq_true rfl)) dX4_kindOf_5 ⟨Nat.zero_le _, Nat.zero_le _⟩) (fun r_2 h_3 => ?_)
  rcases h_3 with ⟨rfl, g5⟩ | ⟨rfl, g5⟩
  · skip
    refine lv_if_eq (tgt := 13) hx hb dX4_kindOf_8 (by decide) (fun c9 => absurd c9 (by decide)) (fun _ => ?_)
    refine lv_iconst (v := nI 1) hx hb dX4_kindOf_11 (by decide) ?_
    exact W.iret (v := nI 1) hx hb hr (fun t ht _ => ⟨_, rfl, by simp [kindF, g5], ht⟩) (fun _ h9 => by cases h9) dX4_kindOf_12
  · skip
    refine lv_if_eq (tgt := 13) hx hb dX4_kindOf_8 (by decide) (fun _ => ?_) (fun c9 => absurd c9 (by decide))
    refine lv_iload_n hx hb dX4_kindOf_13 rfl (lv_at hl 2 rfl) ?_
    refine lv_aload_n hx hb dX4_kindOf_14 rfl (lv_at hl 0 rfl) ?_
    refine va_get (D := G.1) (ci := 4) (v := .int (nI sn)) (C := RX4) (T := TX4) (N := 7) hx hb hts (by decide +kernel) hown hK.1 hP 0 rfl rfl 2 (by decide) (hts (.fieldLink RX4 31 "CallNumbers$Plan" "seen" "I") (by decide +kernel)) (fun _ h9 => h9) f2 dX4_kindOf_15 ?_
    refine lv_icmp_lt (tgt := 23) hx hb dX4_kindOf_18 (by decide) (fun c18 => ?_) (fun c18 => ?_)
    · skip
      have c18 := (nI_ltI (a := ev) (b := sn) (by omega) (by omega)).mp c18
      refine lv_aload_n hx hb dX4_kindOf_23 rfl (lv_at hl 0 rfl) ?_
      refine va_get (D := G.1) (ci := 4) (v := .int me) (C := RX4) (T := TX4) (N := 7) hx hb hts (by decide +kernel) hown hK.1 hP 0 rfl rfl 3 (by decide) (hts (.fieldLink RX4 37 "CallNumbers$Plan" "met" "I") (by decide +kernel)) (fun _ h9 => h9) f3 dX4_kindOf_24 ?_
      refine lv_aload_n hx hb dX4_kindOf_27 rfl (lv_at hl 1 rfl) ?_
      refine va_getN (D := G.1) (ci := 1) (v := .ref qf) (C := RX1) (T := TX1) (N := 3) hx hb hts (by decide +kernel) hown hK.1 hP 1 rfl rfl 0 (by decide) (hK.2.1.f 3 rfl) (fun _ h9 => h9) g0 dX4_kindOf_28 ?_
      refine lv_iload_n hx hb dX4_kindOf_31 rfl (lv_at hl 2 rfl) ?_
      refine ialdN (k := ev) (f := fr) hx hb hK.1 hP 2 0 rfl rfl (rfl) (by omega) (Nat.le_of_ble_eq_true rfl) dX4_kindOf_32 ?_
      have hP_4 : PP G [] s.heap := hP.sub [] rfl
      refine csi (va_runSN (As := [.int me, .int (nI (fr ev))]) (rest := []) ⟨hx, hb, hml, hown, hts⟩ (c_X7_has G l me (fr ev)) (⟨va_cnB 2 hts gX4_kindOf_X7_has_n74 rfl rfl rfl (hK.2.1.m 9 rfl) (hts (.initialized RX7) (by decide +kernel)) (by decide +kernel) ⟨Nat.le_of_ble_eq_true rfl, Nat.le_of_ble_eq_true rfl⟩, hts (.static yX7_has) (by decide +kernel), trivial⟩) (preR hK hP_4) rfl rfl hl.1 rfl (lv_room (Nat.le_of_ble_eq_true rfl)) dX4_kindOf_33 ⟨Nat.zero_le _, Nat.zero_le _⟩) (fun r_5 h_6 => ?_)
      rcases h_6 with ⟨rfl, g33⟩ | ⟨rfl, g33⟩
      · skip
        refine lv_if_ne (tgt := 41) hx hb dX4_kindOf_36 (by decide) (fun _ => ?_) (fun c9 => absurd c9 (by decide))
        refine lv_aload_n hx hb dX4_kindOf_41 rfl (lv_at hl 0 rfl) ?_
        refine va_get (D := G.1) (ci := 4) (v := .int an) (C := RX4) (T := TX4) (N := 7) hx hb hts (by decide +kernel) hown hK.1 hP 0 rfl rfl 4 (by decide) (hts (.fieldLink RX4 78 "CallNumbers$Plan" "anchors" "I") (by decide +kernel)) (fun _ h9 => h9) f4 dX4_kindOf_42 ?_
        refine lv_aload_n hx hb dX4_kindOf_45 rfl (lv_at hl 1 rfl) ?_
        refine va_getN (D := G.1) (ci := 1) (v := .ref qt) (C := RX1) (T := TX1) (N := 3) hx hb hts (by decide +kernel) hown hK.1 hP 1 rfl rfl 1 (by decide) (hK.2.1.f 8 rfl) (fun _ h9 => h9) g1 dX4_kindOf_46 ?_
        refine lv_iload_n hx hb dX4_kindOf_49 rfl (lv_at hl 2 rfl) ?_
        refine ialdN (k := ev) (f := to) hx hb hK.1 hP 3 0 rfl rfl (rfl) (by omega) (Nat.le_of_ble_eq_true rfl) dX4_kindOf_50 ?_
        have hP_7 : PP G [] s.heap := hP.sub [] rfl
        refine csi (va_runSN (As := [.int an, .int (nI (to ev))]) (rest := []) ⟨hx, hb, hml, hown, hts⟩ (c_X7_has G l an (to ev)) (⟨va_cnB 2 hts gX4_kindOf_X7_has_n74 rfl rfl rfl (hK.2.1.m 9 rfl) (hts (.initialized RX7) (by decide +kernel)) (by decide +kernel) ⟨Nat.le_of_ble_eq_true rfl, Nat.le_of_ble_eq_true rfl⟩, hts (.static yX7_has) (by decide +kernel), trivial⟩) (preR hK hP_7) rfl rfl hl.1 rfl (lv_room (Nat.le_of_ble_eq_true rfl)) dX4_kindOf_51 ⟨Nat.zero_le _, Nat.zero_le _⟩) (fun r_8 h_9 => ?_)
        rcases h_9 with ⟨rfl, g51⟩ | ⟨rfl, g51⟩
        · skip
          refine lv_if_eq (tgt := 61) hx hb dX4_kindOf_54 (by decide) (fun c9 => absurd c9 (by decide)) (fun _ => ?_)
          refine lv_iconst (v := nI 4) hx hb dX4_kindOf_57 (by decide) ?_
          refine lv_goto (tgt := 62) hx hb dX4_kindOf_58 (by decide) ?_
          exact W.iret (v := nI 4) hx hb hr (fun t ht _ => ⟨_, rfl, by simp [kindF, g5, c18, g33, g51], ht⟩) (fun _ h9 => by cases h9) dX4_kindOf_62
        · skip
          refine lv_if_eq (tgt := 61) hx hb dX4_kindOf_54 (by decide) (fun _ => ?_) (fun c9 => absurd c9 (by decide))
          refine lv_iconst (v := nI 0) hx hb dX4_kindOf_61 (by decide) ?_
          exact W.iret (v := nI 0) hx hb hr (fun t ht _ => ⟨_, rfl, by simp [kindF, g5, c18, g33, g51], ht⟩) (fun _ h9 => by cases h9) dX4_kindOf_62
      · skip
        refine lv_if_ne (tgt := 41) hx hb dX4_kindOf_36 (by decide) (fun c9 => absurd c9 (by decide)) (fun _ => ?_)
        refine lv_iconst (v := nI 3) hx hb dX4_kindOf_39 (by decide) ?_
        exact W.iret (v := nI 3) hx hb hr (fun t ht _ => ⟨_, rfl, by simp [kindF, g5, c18, g33], ht⟩) (fun _ h9 => by cases h9) dX4_kindOf_40
    · skip
      have c18 := mt (nI_ltI (a := ev) (b := sn) (by omega) (by omega)).mpr c18
      refine lv_iconst (v := nI 2) hx hb dX4_kindOf_21 (by decide) ?_
      exact W.iret (v := nI 2) hx hb hr (fun t ht _ => ⟨_, rfl, by simp [kindF, g5, c18], ht⟩) (fun _ h9 => by cases h9) dX4_kindOf_22
set_option maxHeartbeats 4000000 in
set_option maxRecDepth 100000 in
theorem c_X2_lastNumber (G : GG) (l : Launch) (q qn kc : Nat) (fs : List Value) (kn : Nat → Nat) (f1 : fs[1]? = some (.ref qn)) (f3 : fs[3]? = some (.int (nI kc))) (hk : kc ≤ 31) : Met l yX2_lastNumber wsX2_lastNumber { frames := 0, cells := 0, slots := 0, locals := 0 } (RPc G [.ref q] [(q, ob 2 fs), (qn, iA G 31 (fun j => nI (kn j)))]) (vp_Si (fun r => r = nI (if kc = 0 then 0 else kn (kc - 1)))) 0 0 (fun _ => False) := by
  refine Met.ofW (cc := cX2_lastNumber) (maxL := 1) (ret := (some .int)) (by decide) rfl ?_
  intro p e s m args below meth c s₁ B hml hv
  obtain ⟨rfl, hP, hK⟩ := hv
  have hx := B.exec
  have hb := B.bytes
  have hr := B.returns
  have hts := atoms_spec (ws := wsX2_lastNumber) B.pre
  have hown : s.vm.findClass RX2 = some m.cls := findClass_of_methodNamed B.named
  have hlocks := B.notSynchronized
  have hl := lv_entry ([.ref q]) (n := 1) (Nat.le_of_ble_eq_true rfl)
  rw [lg_entry_eq]
  generalize (lg_sl ([.ref q]) ++ List.replicate (1 - (lg_sl ([.ref q])).length) Slot.unset).toArray = ls at hl ⊢
  have hl : lv_has ls 1 [(0, .ref q)] := hl
  refine lv_aload_n hx hb dX2_lastNumber_0 rfl (lv_at hl 0 rfl) ?_
  refine va_get (D := G.1) (ci := 2) (v := .int (nI kc)) (C := RX2) (T := TX2) (N := 4) hx hb hts (by decide +kernel) hown hK.1 hP 0 rfl rfl 3 (by decide) (hts (.fieldLink RX2 21 "CallNumbers$Code" "count" "I") (by decide +kernel)) (fun _ h9 => h9) f3 dX2_lastNumber_1 ?_
  refine lv_if_le (tgt := 21) hx hb dX2_lastNumber_4 (by decide) (fun c4 => ?_) (fun c4 => ?_)
  · skip
    have c4 := (z_le (k := kc) (by omega)).mp c4
    refine lv_iconst (v := nI 0) hx hb dX2_lastNumber_21 (by decide) ?_
    exact W.iret (v := nI 0) hx hb hr (fun t ht _ => ⟨_, rfl, by rw [if_pos (by omega)], ht⟩) (fun _ h9 => by cases h9) dX2_lastNumber_22
  · skip
    have c4 := mt (z_le (k := kc) (by omega)).mpr c4
    refine lv_aload_n hx hb dX2_lastNumber_7 rfl (lv_at hl 0 rfl) ?_
    refine va_get (D := G.1) (ci := 2) (v := .ref qn) (C := RX2) (T := TX2) (N := 4) hx hb hts (by decide +kernel) hown hK.1 hP 0 rfl rfl 1 (by decide) (hts (.fieldLink RX2 15 "CallNumbers$Code" "number" "[I") (by decide +kernel)) (fun _ h9 => h9) f1 dX2_lastNumber_8 ?_
    refine lv_aload_n hx hb dX2_lastNumber_11 rfl (lv_at hl 0 rfl) ?_
    refine va_get (D := G.1) (ci := 2) (v := .int (nI kc)) (C := RX2) (T := TX2) (N := 4) hx hb hts (by decide +kernel) hown hK.1 hP 0 rfl rfl 3 (by decide) (hts (.fieldLink RX2 21 "CallNumbers$Code" "count" "I") (by decide +kernel)) (fun _ h9 => h9) f3 dX2_lastNumber_12 ?_
    refine lv_iconst (v := nI 1) hx hb dX2_lastNumber_15 (by decide) ?_
    refine lv_isub hx hb dX2_lastNumber_16 ?_
    refine lv_topi (fun v ev => ?_)
    obtain rfl : v = nI (kc - 1) := ev.trans (pk_sub (by omega))
    refine ialdN (k := kc - 1) (f := kn) hx hb hK.1 hP 1 0 rfl rfl (rfl) (by omega) (Nat.le_of_ble_eq_true rfl) dX2_lastNumber_17 ?_
    refine lv_goto (tgt := 22) hx hb dX2_lastNumber_18 (by decide) ?_
    exact W.iret (v := nI (kn (kc - 1))) hx hb hr (fun t ht _ => ⟨_, rfl, by rw [if_neg (by omega)], ht⟩) (fun _ h9 => by cases h9) dX2_lastNumber_22
set_option maxHeartbeats 4000000 in
set_option maxRecDepth 100000 in
theorem c_X3_nth (G : GG) (l : Launch) (q qb dc : Nat) (fs : List Value) (x : Int32) (bw : Nat → Nat) (f0 : fs[0]? = some (.ref qb)) (f1 : fs[1]? = some (.int (nI dc))) (hd : dc ≤ 10) : Met l yX3_nth wsX3_nth { frames := 0, cells := 0, slots := 0, locals := 0 } (RPc G [.ref q, .int x] [(q, ob 3 fs), (qb, iA G 10 (fun j => nI (bw j)))]) (vp_Si (fun r => (∃ k, k < dc ∧ x = nI k ∧ r = nI (bw (dc - 1 - k))) ∨ (r = -9 ∧ ∀ k, k < dc → x ≠ nI k))) 0 0 (fun _ => False) := by
  refine Met.ofW (cc := cX3_nth) (maxL := 2) (ret := (some .int)) (by decide) rfl ?_
  intro p e s m args below meth c s₁ B hml hv
  obtain ⟨rfl, hP, hK⟩ := hv
  have hx := B.exec
  have hb := B.bytes
  have hr := B.returns
  have hts := atoms_spec (ws := wsX3_nth) B.pre
  have hown : s.vm.findClass RX3 = some m.cls := findClass_of_methodNamed B.named
  have hlocks := B.notSynchronized
  have hl := lv_entry ([.ref q, .int x]) (n := 2) (Nat.le_of_ble_eq_true rfl)
  rw [lg_entry_eq]
  generalize (lg_sl ([.ref q, .int x]) ++ List.replicate (2 - (lg_sl ([.ref q, .int x])).length) Slot.unset).toArray = ls at hl ⊢
  have hl : lv_has ls 2 [(0, .ref q), (1, .int x)] := hl
  refine lv_iload_n hx hb dX3_nth_0 rfl (lv_at hl 1 rfl) ?_
  refine lv_if_lt (tgt := 37) hx hb dX3_nth_1 (by decide) (fun c1 => ?_) (fun c1 => ?_)
  · skip
    refine lv_bipush (v := (-9)) hx hb dX3_nth_37 (by decide) ?_
    exact W.iret (v := (-9)) hx hb hr (fun t ht _ => ⟨_, rfl, Or.inr ⟨rfl, out_n c1 (by omega)⟩, ht⟩) (fun _ h9 => by cases h9) dX3_nth_39
  · skip
    refine lv_iload_n hx hb dX3_nth_4 rfl (lv_at hl 1 rfl) ?_
    refine lv_aload_n hx hb dX3_nth_5 rfl (lv_at hl 0 rfl) ?_
    refine va_get (D := G.1) (ci := 3) (v := .int (nI dc)) (C := RX3) (T := TX3) (N := 2) hx hb hts (by decide +kernel) hown hK.1 hP 0 rfl rfl 1 (by decide) (hts (.fieldLink RX3 15 "CallNumbers$Decoder" "count" "I") (by decide +kernel)) (fun _ h9 => h9) f1 dX3_nth_6 ?_
    refine lv_icmp_ge (tgt := 37) hx hb dX3_nth_9 (by decide) (fun c9 => ?_) (fun c9 => ?_)
    · skip
      refine lv_bipush (v := (-9)) hx hb dX3_nth_37 (by decide) ?_
      exact W.iret (v := (-9)) hx hb hr (fun t ht _ => ⟨_, rfl, Or.inr ⟨rfl, out_g c9 (Nat.le_refl _) (by omega)⟩, ht⟩) (fun _ h9 => by cases h9) dX3_nth_39
    · skip
      refine lv_aload_n hx hb dX3_nth_12 rfl (lv_at hl 0 rfl) ?_
      refine va_get (D := G.1) (ci := 3) (v := .int (nI dc)) (C := RX3) (T := TX3) (N := 2) hx hb hts (by decide +kernel) hown hK.1 hP 0 rfl rfl 1 (by decide) (hts (.fieldLink RX3 15 "CallNumbers$Decoder" "count" "I") (by decide +kernel)) (fun _ h9 => h9) f1 dX3_nth_13 ?_
      refine lv_bipush (v := nI 10) hx hb dX3_nth_16 (by decide) ?_
      refine lv_icmp_gt (tgt := 37) hx hb dX3_nth_18 (by decide) (fun c18 => ?_) (fun c18 => ?_)
      · skip
        have c18 := (nI_ltI (a := 10) (b := dc) (by omega) (by omega)).mp c18
        refine lv_bipush (v := (-9)) hx hb dX3_nth_37 (by decide) ?_
        exact W.iret (v := (-9)) hx hb hr (fun t ht _ => ⟨_, rfl, absurd hd (by omega), ht⟩) (fun _ h9 => by cases h9) dX3_nth_39
      · skip
        have c18 := mt (nI_ltI (a := 10) (b := dc) (by omega) (by omega)).mpr c18
        obtain ⟨k, hk, rfl⟩ : ∃ k, k < dc ∧ x = nI k := by obtain ⟨j, a, b, -⟩ := pk_mu c1 c9 (by omega); exact ⟨j, a, b⟩
        refine lv_aload_n hx hb dX3_nth_21 rfl (lv_at hl 0 rfl) ?_
        refine va_get (D := G.1) (ci := 3) (v := .ref qb) (C := RX3) (T := TX3) (N := 2) hx hb hts (by decide +kernel) hown hK.1 hP 0 rfl rfl 0 (by decide) (hts (.fieldLink RX3 9 "CallNumbers$Decoder" "backward" "[I") (by decide +kernel)) (fun _ h9 => h9) f0 dX3_nth_22 ?_
        refine lv_aload_n hx hb dX3_nth_25 rfl (lv_at hl 0 rfl) ?_
        refine va_get (D := G.1) (ci := 3) (v := .int (nI dc)) (C := RX3) (T := TX3) (N := 2) hx hb hts (by decide +kernel) hown hK.1 hP 0 rfl rfl 1 (by decide) (hts (.fieldLink RX3 15 "CallNumbers$Decoder" "count" "I") (by decide +kernel)) (fun _ h9 => h9) f1 dX3_nth_26 ?_
        refine lv_iconst (v := nI 1) hx hb dX3_nth_29 (by decide) ?_
        refine lv_isub hx hb dX3_nth_30 ?_
        refine lv_topi (fun v ev => ?_)
        obtain rfl : v = nI (dc - 1) := ev.trans (pk_sub (by omega))
        refine lv_iload_n hx hb dX3_nth_31 rfl (lv_at hl 1 rfl) ?_
        refine lv_isub hx hb dX3_nth_32 ?_
        refine lv_topi (fun v ev => ?_)
        obtain rfl : v = nI ((dc - 1) - k) := ev.trans (pk_sub (by omega))
        refine ialdN (k := (dc - 1) - k) (f := bw) hx hb hK.1 hP 1 0 rfl rfl (rfl) (by omega) (Nat.le_of_ble_eq_true rfl) dX3_nth_33 ?_
        refine lv_goto (tgt := 39) hx hb dX3_nth_34 (by decide) ?_
        exact W.iret (v := nI (bw ((dc - 1) - k))) hx hb hr (fun t ht _ => ⟨_, rfl, Or.inl ⟨k, hk, rfl, rfl⟩, ht⟩) (fun _ h9 => by cases h9) dX3_nth_39
end
section
theorem nI_sub1 {n : Nat} (hn : n < 2 ^ 30) : (nI n - nI 1).toInt = (n : Int) - 1 := pk_sub_toInt hn (by decide)
theorem inX_m {n : Nat} {x : Int32} (h0 : ¬ x < nI 0) (h1 : ¬ nI n - nI 1 < x) (hn : n < 2 ^ 30) : inX n x (nI 1) := by
  obtain ⟨j, hj, rfl⟩ := nI_of (show ¬ x < 0 from h0)
  refine Or.inl ⟨rfl, j, ?_, rfl⟩
  have h2 : ¬ (nI n - nI 1).toInt < (nI j).toInt := fun z => h1 (Int32.lt_iff_toInt_lt.mpr z)
  rw [nI_sub1 hn, nI_toInt hj] at h2
  omega
theorem inX_o {n : Nat} {x : Int32} (h : x < nI 0 ∨ nI n - nI 1 < x) (hn : n < 2 ^ 30) : inX n x (nI 0) := by
  refine Or.inr ⟨rfl, fun k hk e => ?_⟩
  subst e
  rcases h with h | h
  · exact z_neg (by omega) h
  · have h2 := Int32.lt_iff_toInt_lt.mp h
    rw [nI_sub1 hn, nI_toInt (by omega)] at h2
    omega
theorem inX_w {n : Nat} {x : Int32} (h0 : ¬ x < nI 0) (h1 : ¬ nI n < x) (hn : n < 2 ^ 30 := by decide) : inX (n + 1) x (nI 1) := by
  obtain ⟨j, hj, rfl⟩ := nI_of (show ¬ x < 0 from h0)
  refine Or.inl ⟨rfl, j, ?_, rfl⟩
  have h2 := mt (nI_ltI (by omega) hj).mpr h1
  omega
theorem inX_v {n : Nat} {x : Int32} (h : x < nI 0 ∨ nI n < x) (hn : n < 2 ^ 30 := by decide) : inX (n + 1) x (nI 0) := by
  refine Or.inr ⟨rfl, fun k hk e => ?_⟩
  subst e
  rcases h with h | h
  · exact z_neg (by omega) h
  · have h2 := (nI_ltI (by omega) (by omega)).mp h
    omega
/-- whether a call counts for ways -/
def cntF (sn : Nat) (me ri : Int32) (fr : Nat → Nat) (j : Nat) : Bool := decide (j < sn) && hbt me (fr j) && !hbt ri j
def A_ofCall (n : Nat) (fr to : Nat → Nat) (x y : Int32) : Int32 := match ix n x with
  | some k => if y = nI 0 then nI (fr k) else if y = nI 1 then nI (to k) else -2
  | none => -1
def A_kind (n np : Nat) (cO : Nat → Nat) (mO aO rO : Nat → Int32) (fr to : Nat → Nat) (x y : Int32) : Int32 := match ix np x, ix n y with
  | some k, some j => nI (kindF (rO k) (mO k) (aO k) (cO k) fr to j)
  | _, _ => -1
def A_adds (n np : Nat) (pO : Nat → Int32) (ad : Nat → Nat → Nat) (x y : Int32) : Int32 := match ix np x, ix n y with
  | some k, some j => if hbt (pO k) j then nI (ad k j) else -9
  | _, _ => -1
def A_ways (np : Nat) (wy : Nat → Nat → Nat) (x y : Int32) : Int32 := match ix np x, ix 10 y with
  | some k, some j => nI (wy k j)
  | _, _ => -1
def A_ofPlan (np : Nat) (mO aO rO pO : Nat → Int32) (x y : Int32) : Int32 := match ix np x with
  | some k => if y = nI 0 then mO k else if y = nI 1 then aO k else if y = nI 2 then rO k else if y = nI 3 then pO k else -2
  | none => -1
theorem nI_ne {a b : Nat} (ha : a < 1000) (hb : b < 1000) (h : a ≠ b) : (nI a = nI b) = False := by simp [nI_eq (show a < 2 ^ 31 by omega) (show b < 2 ^ 31 by omega), h]
theorem sw0 : (nI 1 = nI 0) = False ∧ (nI 2 = nI 0) = False ∧ (nI 2 = nI 1) = False ∧ (nI 3 = nI 0) = False ∧ (nI 3 = nI 1) = False ∧ (nI 3 = nI 2) = False ∧ (nI 4 = nI 0) = False ∧ (nI 4 = nI 1) = False ∧ (nI 4 = nI 2) = False ∧ (nI 4 = nI 3) = False ∧ (nI 5 = nI 0) = False ∧ (nI 5 = nI 1) = False ∧ (nI 5 = nI 2) = False ∧ (nI 5 = nI 3) = False ∧ (nI 5 = nI 4) = False := by
  refine ⟨?_, ?_, ?_, ?_, ?_, ?_, ?_, ?_, ?_, ?_, ?_, ?_, ?_, ?_, ?_⟩ <;> exact nI_ne (by decide) (by decide) (by decide)
set_option maxHeartbeats 4000000 in
set_option maxRecDepth 100000 in
theorem c_X8_within (G : GG) (l : Launch) (v lo hi : Int32) : Met l yX8_within wsX8_within { frames := 0, cells := 0, slots := 0, locals := 0 } (RPc G [.int v, .int lo, .int hi] []) (vp_Si (fun r => (r = nI 1 ∧ ¬ v < lo ∧ ¬ hi < v) ∨ (r = nI 0 ∧ (v < lo ∨ hi < v)))) 0 0 (fun _ => False) := by
  refine Met.ofW (cc := cX8_within) (maxL := 3) (ret := (some .boolean)) (by decide) rfl ?_
  intro p e s m args below meth c s₁ B hml hv
  obtain ⟨rfl, hP, hK⟩ := hv
  have hx := B.exec
  have hb := B.bytes
  have hr := B.returns
  have hts := atoms_spec (ws := wsX8_within) B.pre
  have hown : s.vm.findClass RX8 = some m.cls := findClass_of_methodNamed B.named
  have hlocks := B.notSynchronized
  have hl := lv_entry ([.int v, .int lo, .int hi]) (n := 3) (Nat.le_of_ble_eq_true rfl)
  rw [lg_entry_eq]
  generalize (lg_sl ([.int v, .int lo, .int hi]) ++ List.replicate (3 - (lg_sl ([.int v, .int lo, .int hi])).length) Slot.unset).toArray = ls at hl ⊢
  have hl : lv_has ls 3 [(0, .int v), (1, .int lo), (2, .int hi)] := hl
  refine lv_iload_n hx hb dX8_within_0 rfl (lv_at hl 0 rfl) ?_
  refine lv_iload_n hx hb dX8_within_1 rfl (lv_at hl 1 rfl) ?_
  refine lv_icmp_lt (tgt := 14) hx hb dX8_within_2 (by decide) (fun c2 => ?_) (fun c2 => ?_)
  · skip
    refine lv_iconst (v := nI 0) hx hb dX8_within_14 (by decide) ?_
    exact W.zret (v := nI 0) hx hb hr (by rfl) (fun t ht _ => ⟨_, rfl, Or.inr ⟨rfl, Or.inl c2⟩, ht⟩) (fun _ h9 => by cases h9) dX8_within_15
  · skip
    refine lv_iload_n hx hb dX8_within_5 rfl (lv_at hl 0 rfl) ?_
    refine lv_iload_n hx hb dX8_within_6 rfl (lv_at hl 2 rfl) ?_
    refine lv_icmp_gt (tgt := 14) hx hb dX8_within_7 (by decide) (fun c7 => ?_) (fun c7 => ?_)
    · skip
      refine lv_iconst (v := nI 0) hx hb dX8_within_14 (by decide) ?_
      exact W.zret (v := nI 0) hx hb hr (by rfl) (fun t ht _ => ⟨_, rfl, Or.inr ⟨rfl, Or.inr c7⟩, ht⟩) (fun _ h9 => by cases h9) dX8_within_15
    · skip
      refine lv_iconst (v := nI 1) hx hb dX8_within_10 (by decide) ?_
      refine lv_goto (tgt := 15) hx hb dX8_within_11 (by decide) ?_
      exact W.zret (v := nI 1) hx hb hr (by rfl) (fun t ht _ => ⟨_, rfl, Or.inl ⟨rfl, c2, c7⟩, ht⟩) (fun _ h9 => by cases h9) dX8_within_15
set_option maxHeartbeats 4000000 in
set_option maxRecDepth 100000 in
theorem c_X8_has (G : GG) (l : Launch) (x : Int32) (k : Nat) : Met l yX8_has wsX8_has { frames := 0, cells := 0, slots := 0, locals := 0 } (RPc G [.int x, .int (nI k)] []) (vp_Si (fun r => (r = nI 1 ∧ hbt x k = true) ∨ (r = nI 0 ∧ hbt x k = false))) 0 0 (fun _ => False) := by
  refine Met.ofW (cc := cX8_has) (maxL := 2) (ret := (some .boolean)) (by decide) rfl ?_
  intro p e s m args below meth c s₁ B hml hv
  obtain ⟨rfl, hP, hK⟩ := hv
  have hx := B.exec
  have hb := B.bytes
  have hr := B.returns
  have hts := atoms_spec (ws := wsX8_has) B.pre
  have hown : s.vm.findClass RX8 = some m.cls := findClass_of_methodNamed B.named
  have hlocks := B.notSynchronized
  have hl := lv_entry ([.int x, .int (nI k)]) (n := 2) (Nat.le_of_ble_eq_true rfl)
  rw [lg_entry_eq]
  generalize (lg_sl ([.int x, .int (nI k)]) ++ List.replicate (2 - (lg_sl ([.int x, .int (nI k)])).length) Slot.unset).toArray = ls at hl ⊢
  have hl : lv_has ls 2 [(0, .int x), (1, .int (nI k))] := hl
  refine lv_iload_n hx hb dX8_has_0 rfl (lv_at hl 0 rfl) ?_
  refine lv_iload_n hx hb dX8_has_1 rfl (lv_at hl 1 rfl) ?_
  refine lv_ishr hx hb dX8_has_2 ?_
  refine lv_iconst (v := nI 1) hx hb dX8_has_3 (by decide) ?_
  refine lv_iand hx hb dX8_has_4 ?_
  refine lv_iconst (v := nI 1) hx hb dX8_has_5 (by decide) ?_
  refine lv_icmp_ne (tgt := 13) hx hb dX8_has_6 (by decide) (fun c6 => ?_) (fun c6 => ?_)
  · skip
    refine lv_iconst (v := nI 0) hx hb dX8_has_13 (by decide) ?_
    exact W.zret (v := nI 0) hx hb hr (by rfl) (fun t ht _ => ⟨_, rfl, Or.inr ⟨rfl, decide_eq_false c6⟩, ht⟩) (fun _ h9 => by cases h9) dX8_has_14
  · skip
    refine lv_iconst (v := nI 1) hx hb dX8_has_9 (by decide) ?_
    refine lv_goto (tgt := 14) hx hb dX8_has_10 (by decide) ?_
    exact W.zret (v := nI 1) hx hb hr (by rfl) (fun t ht _ => ⟨_, rfl, Or.inl ⟨rfl, decide_eq_true c6⟩, ht⟩) (fun _ h9 => by cases h9) dX8_has_14
set_option maxHeartbeats 4000000 in
set_option maxRecDepth 100000 in
theorem c_X8_isRoutine (G : GG) (l : Launch) (x : Int32) : Met l yX8_isRoutine wsX8_isRoutine { frames := 1, cells := 0, slots := 0, locals := 22 } (RPc G [.int x] []) (vp_Si (fun r => inX 10 x r)) 0 0 (fun _ => False) := by
  refine Met.ofW (cc := cX8_isRoutine) (maxL := 1) (ret := (some .boolean)) (by decide) rfl ?_
  intro p e s m args below meth c s₁ B hml hv
  obtain ⟨rfl, hP, hK⟩ := hv
  have hx := B.exec
  have hb := B.bytes
  have hr := B.returns
  have hts := atoms_spec (ws := wsX8_isRoutine) B.pre
  have hown : s.vm.findClass RX8 = some m.cls := findClass_of_methodNamed B.named
  have hlocks := B.notSynchronized
  have hl := lv_entry ([.int x]) (n := 1) (Nat.le_of_ble_eq_true rfl)
  rw [lg_entry_eq]
  generalize (lg_sl ([.int x]) ++ List.replicate (1 - (lg_sl ([.int x])).length) Slot.unset).toArray = ls at hl ⊢
  have hl : lv_has ls 1 [(0, .int x)] := hl
  refine lv_iload_n hx hb dX8_isRoutine_0 rfl (lv_at hl 0 rfl) ?_
  refine lv_iconst (v := nI 0) hx hb dX8_isRoutine_1 (by decide) ?_
  refine lv_bipush (v := nI 9) hx hb dX8_isRoutine_2 (by decide) ?_
  have hP_1 : PP G [] s.heap := hP.sub [] rfl
  refine csi (va_runS (As := [.int x, .int (nI 0), .int (nI 9)]) (rest := []) ⟨hx, hb, hml, hown, hts⟩ (c_X8_within G l x (nI 0) (nI 9)) (va_cwS 3 hts gX8_isRoutine_X8_within rfl rfl rfl (by decide +kernel) ⟨Nat.le_of_ble_eq_true rfl, Nat.le_of_ble_eq_true rfl⟩) (preR hK hP_1) rfl rfl hl.1 rfl (lv_room (Nat.le_of_ble_eq_true rfl)) dX8_isRoutine_4 ⟨Nat.zero_le _, Nat.zero_le _⟩) (fun r_2 h_3 => ?_)
  rcases h_3 with ⟨rfl, g4, g4'⟩ | ⟨rfl, g4⟩
  · skip
    exact W.zret (v := nI 1) hx hb hr (by rfl) (fun t ht _ => ⟨_, rfl, inX_w (n := 9) g4 g4', ht⟩) (fun _ h9 => by cases h9) dX8_isRoutine_7
  · skip
    exact W.zret (v := nI 0) hx hb hr (by rfl) (fun t ht _ => ⟨_, rfl, inX_v (n := 9) g4, ht⟩) (fun _ h9 => by cases h9) dX8_isRoutine_7
set_option maxHeartbeats 4000000 in
set_option maxRecDepth 100000 in
theorem c_X8_isCall (G : GG) (l : Launch) (o : Nat) (fs : List Value) (n : Nat) (f0 : fs[0]? = some (.int (nI n))) (x : Int32) (hn : n ≤ 24) : Met l yX8_isCall wsX8_isCall { frames := 1, cells := 0, slots := 0, locals := 22 } (RPc G [.ref o, .int x] [(o, ob 8 fs)]) (vp_Si (fun r => inX n x r)) 0 0 (fun _ => False) := by
  refine Met.ofW (cc := cX8_isCall) (maxL := 2) (ret := (some .boolean)) (by decide) rfl ?_
  intro p e s m args below meth c s₁ B hml hv
  obtain ⟨rfl, hP, hK⟩ := hv
  have hx := B.exec
  have hb := B.bytes
  have hr := B.returns
  have hts := atoms_spec (ws := wsX8_isCall) B.pre
  have hown : s.vm.findClass RX8 = some m.cls := findClass_of_methodNamed B.named
  have hlocks := B.notSynchronized
  have hl := lv_entry ([.ref o, .int x]) (n := 2) (Nat.le_of_ble_eq_true rfl)
  rw [lg_entry_eq]
  generalize (lg_sl ([.ref o, .int x]) ++ List.replicate (2 - (lg_sl ([.ref o, .int x])).length) Slot.unset).toArray = ls at hl ⊢
  have hl : lv_has ls 2 [(0, .ref o), (1, .int x)] := hl
  refine lv_iload_n hx hb dX8_isCall_0 rfl (lv_at hl 1 rfl) ?_
  refine lv_iconst (v := nI 0) hx hb dX8_isCall_1 (by decide) ?_
  refine lv_aload_n hx hb dX8_isCall_2 rfl (lv_at hl 0 rfl) ?_
  refine va_get (D := G.1) (ci := 8) (v := .int (nI n)) (C := RX8) (T := TX8) (N := 28) hx hb hts (by decide +kernel) hown hK.1 hP 0 rfl rfl 0 (by decide) (hts (.fieldLink RX8 78 "CallNumbersModel" "calls" "I") (by decide +kernel)) (fun _ h9 => h9) f0 dX8_isCall_3 ?_
  refine lv_iconst (v := nI 1) hx hb dX8_isCall_6 (by decide) ?_
  refine lv_isub hx hb dX8_isCall_7 ?_
  have hP_1 : PP G [] s.heap := hP.sub [] rfl
  refine csi (va_runS (As := [.int x, .int (nI 0), .int ((nI n - nI 1))]) (rest := []) ⟨hx, hb, hml, hown, hts⟩ (c_X8_within G l x (nI 0) ((nI n - nI 1))) (va_cwS 3 hts gX8_isCall_X8_within rfl rfl rfl (by decide +kernel) ⟨Nat.le_of_ble_eq_true rfl, Nat.le_of_ble_eq_true rfl⟩) (preR hK hP_1) rfl rfl hl.1 rfl (lv_room (Nat.le_of_ble_eq_true rfl)) dX8_isCall_8 ⟨Nat.zero_le _, Nat.zero_le _⟩) (fun r_2 h_3 => ?_)
  rcases h_3 with ⟨rfl, g8, g8'⟩ | ⟨rfl, g8⟩
  · skip
    exact W.zret (v := nI 1) hx hb hr (by rfl) (fun t ht _ => ⟨_, rfl, inX_m g8 g8' (by omega), ht⟩) (fun _ h9 => by cases h9) dX8_isCall_11
  · skip
    exact W.zret (v := nI 0) hx hb hr (by rfl) (fun t ht _ => ⟨_, rfl, inX_o g8 (by omega), ht⟩) (fun _ h9 => by cases h9) dX8_isCall_11
set_option maxHeartbeats 4000000 in
set_option maxRecDepth 100000 in
theorem c_X8_isPlan (G : GG) (l : Launch) (o : Nat) (fs : List Value) (np : Nat) (f4 : fs[4]? = some (.int (nI np))) (x : Int32) (hn : np ≤ 8) : Met l yX8_isPlan wsX8_isPlan { frames := 1, cells := 0, slots := 0, locals := 22 } (RPc G [.ref o, .int x] [(o, ob 8 fs)]) (vp_Si (fun r => inX np x r)) 0 0 (fun _ => False) := by
  refine Met.ofW (cc := cX8_isPlan) (maxL := 2) (ret := (some .boolean)) (by decide) rfl ?_
  intro p e s m args below meth c s₁ B hml hv
  obtain ⟨rfl, hP, hK⟩ := hv
  have hx := B.exec
  have hb := B.bytes
  have hr := B.returns
  have hts := atoms_spec (ws := wsX8_isPlan) B.pre
  have hown : s.vm.findClass RX8 = some m.cls := findClass_of_methodNamed B.named
  have hlocks := B.notSynchronized
  have hl := lv_entry ([.ref o, .int x]) (n := 2) (Nat.le_of_ble_eq_true rfl)
  rw [lg_entry_eq]
  generalize (lg_sl ([.ref o, .int x]) ++ List.replicate (2 - (lg_sl ([.ref o, .int x])).length) Slot.unset).toArray = ls at hl ⊢
  have hl : lv_has ls 2 [(0, .ref o), (1, .int x)] := hl
  refine lv_iload_n hx hb dX8_isPlan_0 rfl (lv_at hl 1 rfl) ?_
  refine lv_iconst (v := nI 0) hx hb dX8_isPlan_1 (by decide) ?_
  refine lv_aload_n hx hb dX8_isPlan_2 rfl (lv_at hl 0 rfl) ?_
  refine va_get (D := G.1) (ci := 8) (v := .int (nI np)) (C := RX8) (T := TX8) (N := 28) hx hb hts (by decide +kernel) hown hK.1 hP 0 rfl rfl 4 (by decide) (hts (.fieldLink RX8 89 "CallNumbersModel" "plans" "I") (by decide +kernel)) (fun _ h9 => h9) f4 dX8_isPlan_3 ?_
  refine lv_iconst (v := nI 1) hx hb dX8_isPlan_6 (by decide) ?_
  refine lv_isub hx hb dX8_isPlan_7 ?_
  have hP_1 : PP G [] s.heap := hP.sub [] rfl
  refine csi (va_runS (As := [.int x, .int (nI 0), .int ((nI np - nI 1))]) (rest := []) ⟨hx, hb, hml, hown, hts⟩ (c_X8_within G l x (nI 0) ((nI np - nI 1))) (va_cwS 3 hts gX8_isPlan_X8_within rfl rfl rfl (by decide +kernel) ⟨Nat.le_of_ble_eq_true rfl, Nat.le_of_ble_eq_true rfl⟩) (preR hK hP_1) rfl rfl hl.1 rfl (lv_room (Nat.le_of_ble_eq_true rfl)) dX8_isPlan_8 ⟨Nat.zero_le _, Nat.zero_le _⟩) (fun r_2 h_3 => ?_)
  rcases h_3 with ⟨rfl, g8, g8'⟩ | ⟨rfl, g8⟩
  · skip
    exact W.zret (v := nI 1) hx hb hr (by rfl) (fun t ht _ => ⟨_, rfl, inX_m g8 g8' (by omega), ht⟩) (fun _ h9 => by cases h9) dX8_isPlan_11
  · skip
    exact W.zret (v := nI 0) hx hb hr (by rfl) (fun t ht _ => ⟨_, rfl, inX_o g8 (by omega), ht⟩) (fun _ h9 => by cases h9) dX8_isPlan_11
set_option maxHeartbeats 4000000 in
set_option maxRecDepth 100000 in
theorem c_X8_isSnap (G : GG) (l : Launch) (o : Nat) (fs : List Value) (ns : Nat) (f24 : fs[24]? = some (.int (nI ns))) (x : Int32) (hn : ns ≤ 10) : Met l yX8_isSnap wsX8_isSnap { frames := 1, cells := 0, slots := 0, locals := 22 } (RPc G [.ref o, .int x] [(o, ob 8 fs)]) (vp_Si (fun r => inX ns x r)) 0 0 (fun _ => False) := by
  refine Met.ofW (cc := cX8_isSnap) (maxL := 2) (ret := (some .boolean)) (by decide) rfl ?_
  intro p e s m args below meth c s₁ B hml hv
  obtain ⟨rfl, hP, hK⟩ := hv
  have hx := B.exec
  have hb := B.bytes
  have hr := B.returns
  have hts := atoms_spec (ws := wsX8_isSnap) B.pre
  have hown : s.vm.findClass RX8 = some m.cls := findClass_of_methodNamed B.named
  have hlocks := B.notSynchronized
  have hl := lv_entry ([.ref o, .int x]) (n := 2) (Nat.le_of_ble_eq_true rfl)
  rw [lg_entry_eq]
  generalize (lg_sl ([.ref o, .int x]) ++ List.replicate (2 - (lg_sl ([.ref o, .int x])).length) Slot.unset).toArray = ls at hl ⊢
  have hl : lv_has ls 2 [(0, .ref o), (1, .int x)] := hl
  refine lv_iload_n hx hb dX8_isSnap_0 rfl (lv_at hl 1 rfl) ?_
  refine lv_iconst (v := nI 0) hx hb dX8_isSnap_1 (by decide) ?_
  refine lv_aload_n hx hb dX8_isSnap_2 rfl (lv_at hl 0 rfl) ?_
  refine va_get (D := G.1) (ci := 8) (v := .int (nI ns)) (C := RX8) (T := TX8) (N := 28) hx hb hts (by decide +kernel) hown hK.1 hP 0 rfl rfl 24 (by decide) (hts (.fieldLink RX8 160 "CallNumbersModel" "snaps" "I") (by decide +kernel)) (fun _ h9 => h9) f24 dX8_isSnap_3 ?_
  refine lv_iconst (v := nI 1) hx hb dX8_isSnap_6 (by decide) ?_
  refine lv_isub hx hb dX8_isSnap_7 ?_
  have hP_1 : PP G [] s.heap := hP.sub [] rfl
  refine csi (va_runS (As := [.int x, .int (nI 0), .int ((nI ns - nI 1))]) (rest := []) ⟨hx, hb, hml, hown, hts⟩ (c_X8_within G l x (nI 0) ((nI ns - nI 1))) (va_cwS 3 hts gX8_isSnap_X8_within rfl rfl rfl (by decide +kernel) ⟨Nat.le_of_ble_eq_true rfl, Nat.le_of_ble_eq_true rfl⟩) (preR hK hP_1) rfl rfl hl.1 rfl (lv_room (Nat.le_of_ble_eq_true rfl)) dX8_isSnap_8 ⟨Nat.zero_le _, Nat.zero_le _⟩) (fun r_2 h_3 => ?_)
  rcases h_3 with ⟨rfl, g8, g8'⟩ | ⟨rfl, g8⟩
  · skip
    exact W.zret (v := nI 1) hx hb hr (by rfl) (fun t ht _ => ⟨_, rfl, inX_m g8 g8' (by omega), ht⟩) (fun _ h9 => by cases h9) dX8_isSnap_11
  · skip
    exact W.zret (v := nI 0) hx hb hr (by rfl) (fun t ht _ => ⟨_, rfl, inX_o g8 (by omega), ht⟩) (fun _ h9 => by cases h9) dX8_isSnap_11
set_option maxHeartbeats 4000000 in
set_option maxRecDepth 100000 in
theorem c_X8_isPlain (G : GG) (l : Launch) (o : Nat) (fs : List Value) (qa9 : Nat) (pO : Nat → Int32) (f9 : fs[9]? = some (.ref qa9)) (k ev : Nat) (hk : k < 8) : Met l yX8_isPlain wsX8_isPlain { frames := 1, cells := 0, slots := 0, locals := 21 } (RPc G [.ref o, .int (nI k), .int (nI ev)] [(o, ob 8 fs), (qa9, iA G 8 pO)]) (vp_Si (fun r => (r = nI 1 ∧ hbt (pO k) ev = true) ∨ (r = nI 0 ∧ hbt (pO k) ev = false))) 0 0 (fun _ => False) := by
  refine Met.ofW (cc := cX8_isPlain) (maxL := 3) (ret := (some .boolean)) (by decide) rfl ?_
  intro p e s m args below meth c s₁ B hml hv
  obtain ⟨rfl, hP, hK⟩ := hv
  have hx := B.exec
  have hb := B.bytes
  have hr := B.returns
  have hts := atoms_spec (ws := wsX8_isPlain) B.pre
  have hown : s.vm.findClass RX8 = some m.cls := findClass_of_methodNamed B.named
  have hlocks := B.notSynchronized
  have hl := lv_entry ([.ref o, .int (nI k), .int (nI ev)]) (n := 3) (Nat.le_of_ble_eq_true rfl)
  rw [lg_entry_eq]
  generalize (lg_sl ([.ref o, .int (nI k), .int (nI ev)]) ++ List.replicate (3 - (lg_sl ([.ref o, .int (nI k), .int (nI ev)])).length) Slot.unset).toArray = ls at hl ⊢
  have hl : lv_has ls 3 [(0, .ref o), (1, .int (nI k)), (2, .int (nI ev))] := hl
  refine lv_aload_n hx hb dX8_isPlain_0 rfl (lv_at hl 0 rfl) ?_
  refine va_get (D := G.1) (ci := 8) (v := .ref qa9) (C := RX8) (T := TX8) (N := 28) hx hb hts (by decide +kernel) hown hK.1 hP 0 rfl rfl 9 (by decide) (hts (.fieldLink RX8 32 "CallNumbersModel" "plainOf" "[I") (by decide +kernel)) (fun _ h9 => h9) f9 dX8_isPlain_1 ?_
  refine lv_iload_n hx hb dX8_isPlain_4 rfl (lv_at hl 1 rfl) ?_
  refine ialdK (k := k) (f := pO) hx hb hK.1 hP 1 0 rfl rfl (rfl) (by omega) (Nat.le_of_ble_eq_true rfl) dX8_isPlain_5 ?_
  refine lv_iload_n hx hb dX8_isPlain_6 rfl (lv_at hl 2 rfl) ?_
  have hP_1 : PP G [] s.heap := hP.sub [] rfl
  refine csi (va_runS (As := [.int (pO k), .int (nI ev)]) (rest := []) ⟨hx, hb, hml, hown, hts⟩ (c_X8_has G l (pO k) ev) (va_cwS 2 hts gX8_isPlain_X8_has rfl rfl rfl (by decide +kernel) ⟨Nat.le_of_ble_eq_true rfl, Nat.le_of_ble_eq_true rfl⟩) (preR hK hP_1) rfl rfl hl.1 rfl (lv_room (Nat.le_of_ble_eq_true rfl)) dX8_isPlain_7 ⟨Nat.zero_le _, Nat.zero_le _⟩) (fun r_2 h_3 => ?_)
  rcases h_3 with ⟨rfl, g7⟩ | ⟨rfl, g7⟩
  · skip
    exact W.zret (v := nI 1) hx hb hr (by rfl) (fun t ht _ => ⟨_, rfl, Or.inl ⟨rfl, g7⟩, ht⟩) (fun _ h9 => by cases h9) dX8_isPlain_10
  · skip
    exact W.zret (v := nI 0) hx hb hr (by rfl) (fun t ht _ => ⟨_, rfl, Or.inr ⟨rfl, g7⟩, ht⟩) (fun _ h9 => by cases h9) dX8_isPlain_10
set_option maxHeartbeats 4000000 in
set_option maxRecDepth 100000 in
theorem c_X8_counts (G : GG) (l : Launch) (o : Nat) (fs : List Value) (qa1 : Nat) (fr : Nat → Nat) (qa5 : Nat) (cO : Nat → Nat) (qa6 : Nat) (mO : Nat → Int32) (qa8 : Nat) (rO : Nat → Int32) (f1 : fs[1]? = some (.ref qa1)) (f5 : fs[5]? = some (.ref qa5)) (f6 : fs[6]? = some (.ref qa6)) (f8 : fs[8]? = some (.ref qa8)) (k ev : Nat) (hk : k < 8) (he : ev < 24) (hc : cO k ≤ 24) : Met l yX8_counts wsX8_counts { frames := 1, cells := 0, slots := 0, locals := 21 } (RPc G [.ref o, .int (nI k), .int (nI ev)] [(o, ob 8 fs), (qa1, iA G 24 (fun j => nI (fr j))), (qa5, iA G 8 (fun j => nI (cO j))), (qa6, iA G 8 mO), (qa8, iA G 8 rO)]) (vp_Si (fun r => (r = nI 1 ∧ cntF (cO k) (mO k) (rO k) fr ev = true) ∨ (r = nI 0 ∧ cntF (cO k) (mO k) (rO k) fr ev = false))) 0 0 (fun _ => False) := by
  refine Met.ofW (cc := cX8_counts) (maxL := 3) (ret := (some .boolean)) (by decide) rfl ?_
  intro p e s m args below meth c s₁ B hml hv
  obtain ⟨rfl, hP, hK⟩ := hv
  have hx := B.exec
  have hb := B.bytes
  have hr := B.returns
  have hts := atoms_spec (ws := wsX8_counts) B.pre
  have hown : s.vm.findClass RX8 = some m.cls := findClass_of_methodNamed B.named
  have hlocks := B.notSynchronized
  have hl := lv_entry ([.ref o, .int (nI k), .int (nI ev)]) (n := 3) (Nat.le_of_ble_eq_true rfl)
  rw [lg_entry_eq]
  generalize (lg_sl ([.ref o, .int (nI k), .int (nI ev)]) ++ List.replicate (3 - (lg_sl ([.ref o, .int (nI k), .int (nI ev)])).length) Slot.unset).toArray = ls at hl ⊢
  have hl : lv_has ls 3 [(0, .ref o), (1, .int (nI k)), (2, .int (nI ev))] := hl
  refine lv_iload_n hx hb dX8_counts_0 rfl (lv_at hl 2 rfl) ?_
  refine lv_aload_n hx hb dX8_counts_1 rfl (lv_at hl 0 rfl) ?_
  refine va_get (D := G.1) (ci := 8) (v := .ref qa5) (C := RX8) (T := TX8) (N := 28) hx hb hts (by decide +kernel) hown hK.1 hP 0 rfl rfl 5 (by decide) (hts (.fieldLink RX8 20 "CallNumbersModel" "callsOf" "[I") (by decide +kernel)) (fun _ h9 => h9) f5 dX8_counts_2 ?_
  refine lv_iload_n hx hb dX8_counts_5 rfl (lv_at hl 1 rfl) ?_
  refine ialdN (k := k) (f := cO) hx hb hK.1 hP 2 0 rfl rfl (rfl) (by omega) (Nat.le_of_ble_eq_true rfl) dX8_counts_6 ?_
  refine lv_icmp_ge (tgt := 45) hx hb dX8_counts_7 (by decide) (fun c7 => ?_) (fun c7 => ?_)
  · skip
    have c7 := Nat.not_lt.mpr ((nI_leI (a := cO k) (b := ev) (by omega) (by omega)).mp c7)
    refine lv_iconst (v := nI 0) hx hb dX8_counts_45 (by decide) ?_
    exact W.zret (v := nI 0) hx hb hr (by rfl) (fun t ht _ => ⟨_, rfl, Or.inr ⟨rfl, by simp [cntF, c7]⟩, ht⟩) (fun _ h9 => by cases h9) dX8_counts_46
  · skip
    have c7 := Nat.not_le.mp (mt (nI_leI (a := cO k) (b := ev) (by omega) (by omega)).mpr c7)
    refine lv_aload_n hx hb dX8_counts_10 rfl (lv_at hl 0 rfl) ?_
    refine va_get (D := G.1) (ci := 8) (v := .ref qa6) (C := RX8) (T := TX8) (N := 28) hx hb hts (by decide +kernel) hown hK.1 hP 0 rfl rfl 6 (by decide) (hts (.fieldLink RX8 23 "CallNumbersModel" "metOf" "[I") (by decide +kernel)) (fun _ h9 => h9) f6 dX8_counts_11 ?_
    refine lv_iload_n hx hb dX8_counts_14 rfl (lv_at hl 1 rfl) ?_
    refine ialdK (k := k) (f := mO) hx hb hK.1 hP 3 0 rfl rfl (rfl) (by omega) (Nat.le_of_ble_eq_true rfl) dX8_counts_15 ?_
    refine lv_aload_n hx hb dX8_counts_16 rfl (lv_at hl 0 rfl) ?_
    refine va_get (D := G.1) (ci := 8) (v := .ref qa1) (C := RX8) (T := TX8) (N := 28) hx hb hts (by decide +kernel) hown hK.1 hP 0 rfl rfl 1 (by decide) (hts (.fieldLink RX8 7 "CallNumbersModel" "fromOf" "[I") (by decide +kernel)) (fun _ h9 => h9) f1 dX8_counts_17 ?_
    refine lv_iload_n hx hb dX8_counts_20 rfl (lv_at hl 2 rfl) ?_
    refine ialdN (k := ev) (f := fr) hx hb hK.1 hP 1 0 rfl rfl (rfl) (by omega) (Nat.le_of_ble_eq_true rfl) dX8_counts_21 ?_
    have hP_1 : PP G [] s.heap := hP.sub [] rfl
    refine csi (va_runS (As := [.int (mO k), .int (nI (fr ev))]) (rest := []) ⟨hx, hb, hml, hown, hts⟩ (c_X8_has G l (mO k) (fr ev)) (va_cwS 2 hts gX8_counts_X8_has rfl rfl rfl (by decide +kernel) ⟨Nat.le_of_ble_eq_true rfl, Nat.le_of_ble_eq_true rfl⟩) (preR hK hP_1) rfl rfl hl.1 rfl (lv_room (Nat.le_of_ble_eq_true rfl)) dX8_counts_22 ⟨Nat.zero_le _, Nat.zero_le _⟩) (fun r_2 h_3 => ?_)
    rcases h_3 with ⟨rfl, g22⟩ | ⟨rfl, g22⟩
    · skip
      refine lv_if_eq (tgt := 45) hx hb dX8_counts_25 (by decide) (fun c9 => absurd c9 (by decide)) (fun _ => ?_)
      refine lv_aload_n hx hb dX8_counts_28 rfl (lv_at hl 0 rfl) ?_
      refine va_get (D := G.1) (ci := 8) (v := .ref qa8) (C := RX8) (T := TX8) (N := 28) hx hb hts (by decide +kernel) hown hK.1 hP 0 rfl rfl 8 (by decide) (hts (.fieldLink RX8 29 "CallNumbersModel" "ringsOf" "[I") (by decide +kernel)) (fun _ h9 => h9) f8 dX8_counts_29 ?_
      refine lv_iload_n hx hb dX8_counts_32 rfl (lv_at hl 1 rfl) ?_
      refine ialdK (k := k) (f := rO) hx hb hK.1 hP 4 0 rfl rfl (rfl) (by omega) (Nat.le_of_ble_eq_true rfl) dX8_counts_33 ?_
      refine lv_iload_n hx hb dX8_counts_34 rfl (lv_at hl 2 rfl) ?_
      have hP_4 : PP G [] s.heap := hP.sub [] rfl
      refine csi (va_runS (As := [.int (rO k), .int (nI ev)]) (rest := []) ⟨hx, hb, hml, hown, hts⟩ (c_X8_has G l (rO k) ev) (va_cwS 2 hts gX8_counts_X8_has rfl rfl rfl (by decide +kernel) ⟨Nat.le_of_ble_eq_true rfl, Nat.le_of_ble_eq_true rfl⟩) (preR hK hP_4) rfl rfl hl.1 rfl (lv_room (Nat.le_of_ble_eq_true rfl)) dX8_counts_35 ⟨Nat.zero_le _, Nat.zero_le _⟩) (fun r_5 h_6 => ?_)
      rcases h_6 with ⟨rfl, g35⟩ | ⟨rfl, g35⟩
      · skip
        refine lv_if_ne (tgt := 45) hx hb dX8_counts_38 (by decide) (fun _ => ?_) (fun c9 => absurd c9 (by decide))
        refine lv_iconst (v := nI 0) hx hb dX8_counts_45 (by decide) ?_
        exact W.zret (v := nI 0) hx hb hr (by rfl) (fun t ht _ => ⟨_, rfl, Or.inr ⟨rfl, by simp [cntF, c7, g22, g35]⟩, ht⟩) (fun _ h9 => by cases h9) dX8_counts_46
      · skip
        refine lv_if_ne (tgt := 45) hx hb dX8_counts_38 (by decide) (fun c9 => absurd c9 (by decide)) (fun _ => ?_)
        refine lv_iconst (v := nI 1) hx hb dX8_counts_41 (by decide) ?_
        refine lv_goto (tgt := 46) hx hb dX8_counts_42 (by decide) ?_
        exact W.zret (v := nI 1) hx hb hr (by rfl) (fun t ht _ => ⟨_, rfl, Or.inl ⟨rfl, by simp [cntF, c7, g22, g35]⟩, ht⟩) (fun _ h9 => by cases h9) dX8_counts_46
    · skip
      refine lv_if_eq (tgt := 45) hx hb dX8_counts_25 (by decide) (fun _ => ?_) (fun c9 => absurd c9 (by decide))
      refine lv_iconst (v := nI 0) hx hb dX8_counts_45 (by decide) ?_
      exact W.zret (v := nI 0) hx hb hr (by rfl) (fun t ht _ => ⟨_, rfl, Or.inr ⟨rfl, by simp [cntF, c7, g22]⟩, ht⟩) (fun _ h9 => by cases h9) dX8_counts_46
set_option maxHeartbeats 4000000 in
set_option maxRecDepth 100000 in
theorem c_X8_ofCall (G : GG) (l : Launch) (o : Nat) (fs : List Value) (n : Nat) (qa1 : Nat) (fr : Nat → Nat) (qa2 : Nat) (to : Nat → Nat) (f0 : fs[0]? = some (.int (nI n))) (f1 : fs[1]? = some (.ref qa1)) (f2 : fs[2]? = some (.ref qa2)) (x y : Int32) (hn : n ≤ 24) : Met l yX8_ofCall wsX8_ofCall { frames := 2, cells := 0, slots := 0, locals := 43 } (RPc G [.ref o, .int x, .int y] [(o, ob 8 fs), (qa1, iA G 24 (fun j => nI (fr j))), (qa2, iA G 24 (fun j => nI (to j)))]) (vp_Si (fun r => r = A_ofCall n fr to x y)) 0 0 (fun _ => False) := by
  refine Met.ofW (cc := cX8_ofCall) (maxL := 3) (ret := (some .int)) (by decide) rfl ?_
  intro p e s m args below meth c s₁ B hml hv
  obtain ⟨rfl, hP, hK⟩ := hv
  have hx := B.exec
  have hb := B.bytes
  have hr := B.returns
  have hts := atoms_spec (ws := wsX8_ofCall) B.pre
  have hown : s.vm.findClass RX8 = some m.cls := findClass_of_methodNamed B.named
  have hlocks := B.notSynchronized
  have hl := lv_entry ([.ref o, .int x, .int y]) (n := 3) (Nat.le_of_ble_eq_true rfl)
  rw [lg_entry_eq]
  generalize (lg_sl ([.ref o, .int x, .int y]) ++ List.replicate (3 - (lg_sl ([.ref o, .int x, .int y])).length) Slot.unset).toArray = ls at hl ⊢
  have hl : lv_has ls 3 [(0, .ref o), (1, .int x), (2, .int y)] := hl
  refine lv_aload_n hx hb dX8_ofCall_0 rfl (lv_at hl 0 rfl) ?_
  refine lv_iload_n hx hb dX8_ofCall_1 rfl (lv_at hl 1 rfl) ?_
  have hP_1 : PP G [(o, ob 8 fs)] s.heap := hP.sub [0] rfl
  refine csi (va_runV (As := [.int x]) (rest := []) ⟨hx, hb, hml, hown, hts⟩ (c_X8_isCall G l o fs n f0 x (by omega)) (cwV 1 hts gX8_ofCall_X8_isCall rfl rfl rfl (by decide +kernel) ⟨Nat.le_of_ble_eq_true rfl, Nat.le_of_ble_eq_true rfl⟩) (preRV hK hP_1 0 8 rfl rfl) rfl rfl hl.1 rfl (lv_room (Nat.le_of_ble_eq_true rfl)) dX8_ofCall_2 ⟨Nat.zero_le _, Nat.zero_le _⟩) (fun r_2 h_3 => ?_)
  rcases h_3 with ⟨rfl, k2, b2, rfl⟩ | ⟨rfl, b2⟩
  · skip
    refine lv_if_ne (tgt := 10) hx hb dX8_ofCall_5 (by decide) (fun _ => ?_) (fun c9 => absurd c9 (by decide))
    refine lv_iload_n hx hb dX8_ofCall_10 rfl (lv_at hl 2 rfl) ?_
    refine lv_if_ne (tgt := 23) hx hb dX8_ofCall_11 (by decide) (fun c11 => ?_) (fun c11 => ?_)
    · skip
      have c11 : ¬ y = nI 0 := c11
      refine lv_iload_n hx hb dX8_ofCall_23 rfl (lv_at hl 2 rfl) ?_
      refine lv_iconst (v := nI 1) hx hb dX8_ofCall_24 (by decide) ?_
      refine lv_icmp_ne (tgt := 37) hx hb dX8_ofCall_25 (by decide) (fun c25 => ?_) (fun c25 => ?_)
      · skip
        refine lv_bipush (v := (-2)) hx hb dX8_ofCall_37 (by decide) ?_
        exact W.iret (v := (-2)) hx hb hr (fun t ht _ => ⟨_, rfl, by simp [A_ofCall, ix_in (k := k2) (n := n) (by omega) (by omega), c11, c25, sw0], ht⟩) (fun _ h9 => by cases h9) dX8_ofCall_39
      · skip
        refine lv_aload_n hx hb dX8_ofCall_28 rfl (lv_at hl 0 rfl) ?_
        refine va_get (D := G.1) (ci := 8) (v := .ref qa2) (C := RX8) (T := TX8) (N := 28) hx hb hts (by decide +kernel) hown hK.1 hP 0 rfl rfl 2 (by decide) (hts (.fieldLink RX8 13 "CallNumbersModel" "toOf" "[I") (by decide +kernel)) (fun _ h9 => h9) f2 dX8_ofCall_29 ?_
        refine lv_iload_n hx hb dX8_ofCall_32 rfl (lv_at hl 1 rfl) ?_
        refine ialdN (k := k2) (f := to) hx hb hK.1 hP 2 0 rfl rfl (rfl) (by omega) (Nat.le_of_ble_eq_true rfl) dX8_ofCall_33 ?_
        refine lv_goto (tgt := 39) hx hb dX8_ofCall_34 (by decide) ?_
        exact W.iret (v := nI (to k2)) hx hb hr (fun t ht _ => ⟨_, rfl, by simp [A_ofCall, ix_in (k := k2) (n := n) (by omega) (by omega), c11, c25, sw0], ht⟩) (fun _ h9 => by cases h9) dX8_ofCall_39
    · skip
      have c11 : y = nI 0 := c11
      refine lv_aload_n hx hb dX8_ofCall_14 rfl (lv_at hl 0 rfl) ?_
      refine va_get (D := G.1) (ci := 8) (v := .ref qa1) (C := RX8) (T := TX8) (N := 28) hx hb hts (by decide +kernel) hown hK.1 hP 0 rfl rfl 1 (by decide) (hts (.fieldLink RX8 7 "CallNumbersModel" "fromOf" "[I") (by decide +kernel)) (fun _ h9 => h9) f1 dX8_ofCall_15 ?_
      refine lv_iload_n hx hb dX8_ofCall_18 rfl (lv_at hl 1 rfl) ?_
      refine ialdN (k := k2) (f := fr) hx hb hK.1 hP 1 0 rfl rfl (rfl) (by omega) (Nat.le_of_ble_eq_true rfl) dX8_ofCall_19 ?_
      refine lv_goto (tgt := 39) hx hb dX8_ofCall_20 (by decide) ?_
      exact W.iret (v := nI (fr k2)) hx hb hr (fun t ht _ => ⟨_, rfl, by simp [A_ofCall, ix_in (k := k2) (n := n) (by omega) (by omega), c11, sw0], ht⟩) (fun _ h9 => by cases h9) dX8_ofCall_39
  · skip
    refine lv_if_ne (tgt := 10) hx hb dX8_ofCall_5 (by decide) (fun c9 => absurd c9 (by decide)) (fun _ => ?_)
    refine lv_iconst (v := (-1)) hx hb dX8_ofCall_8 (by decide) ?_
    exact W.iret (v := (-1)) hx hb hr (fun t ht _ => ⟨_, rfl, by simp [A_ofCall, ix_out b2, sw0], ht⟩) (fun _ h9 => by cases h9) dX8_ofCall_9
set_option maxHeartbeats 4000000 in
set_option maxRecDepth 100000 in
theorem c_X8_kind (G : GG) (l : Launch) (o : Nat) (fs : List Value) (n : Nat) (np : Nat) (qa1 : Nat) (fr : Nat → Nat) (qa2 : Nat) (to : Nat → Nat) (qa5 : Nat) (cO : Nat → Nat) (qa6 : Nat) (mO : Nat → Int32) (qa7 : Nat) (aO : Nat → Int32) (qa8 : Nat) (rO : Nat → Int32) (f0 : fs[0]? = some (.int (nI n))) (f1 : fs[1]? = some (.ref qa1)) (f2 : fs[2]? = some (.ref qa2)) (f4 : fs[4]? = some (.int (nI np))) (f5 : fs[5]? = some (.ref qa5)) (f6 : fs[6]? = some (.ref qa6)) (f7 : fs[7]? = some (.ref qa7)) (f8 : fs[8]? = some (.ref qa8)) (x y : Int32) (hn : n ≤ 24) (hp : np ≤ 8) (hc : ∀ k, k < np → cO k ≤ 24) : Met l yX8_kind wsX8_kind { frames := 2, cells := 0, slots := 0, locals := 43 } (RPc G [.ref o, .int x, .int y] [(o, ob 8 fs), (qa1, iA G 24 (fun j => nI (fr j))), (qa2, iA G 24 (fun j => nI (to j))), (qa5, iA G 8 (fun j => nI (cO j))), (qa6, iA G 8 mO), (qa7, iA G 8 aO), (qa8, iA G 8 rO)]) (vp_Si (fun r => r = A_kind n np cO mO aO rO fr to x y)) 0 0 (fun _ => False) := by
  refine Met.ofW (cc := cX8_kind) (maxL := 3) (ret := (some .int)) (by decide) rfl ?_
  intro p e s m args below meth c s₁ B hml hv
  obtain ⟨rfl, hP, hK⟩ := hv
  have hx := B.exec
  have hb := B.bytes
  have hr := B.returns
  have hts := atoms_spec (ws := wsX8_kind) B.pre
  have hown : s.vm.findClass RX8 = some m.cls := findClass_of_methodNamed B.named
  have hlocks := B.notSynchronized
  have hl := lv_entry ([.ref o, .int x, .int y]) (n := 3) (Nat.le_of_ble_eq_true rfl)
  rw [lg_entry_eq]
  generalize (lg_sl ([.ref o, .int x, .int y]) ++ List.replicate (3 - (lg_sl ([.ref o, .int x, .int y])).length) Slot.unset).toArray = ls at hl ⊢
  have hl : lv_has ls 3 [(0, .ref o), (1, .int x), (2, .int y)] := hl
  refine lv_aload_n hx hb dX8_kind_0 rfl (lv_at hl 0 rfl) ?_
  refine lv_iload_n hx hb dX8_kind_1 rfl (lv_at hl 1 rfl) ?_
  have hP_1 : PP G [(o, ob 8 fs)] s.heap := hP.sub [0] rfl
  refine csi (va_runV (As := [.int x]) (rest := []) ⟨hx, hb, hml, hown, hts⟩ (c_X8_isPlan G l o fs np f4 x (by omega)) (cwV 1 hts gX8_kind_X8_isPlan rfl rfl rfl (by decide +kernel) ⟨Nat.le_of_ble_eq_true rfl, Nat.le_of_ble_eq_true rfl⟩) (preRV hK hP_1 0 8 rfl rfl) rfl rfl hl.1 rfl (lv_room (Nat.le_of_ble_eq_true rfl)) dX8_kind_2 ⟨Nat.zero_le _, Nat.zero_le _⟩) (fun r_2 h_3 => ?_)
  rcases h_3 with ⟨rfl, k2, b2, rfl⟩ | ⟨rfl, b2⟩
  · skip
    refine lv_if_eq (tgt := 16) hx hb dX8_kind_5 (by decide) (fun c9 => absurd c9 (by decide)) (fun _ => ?_)
    refine lv_aload_n hx hb dX8_kind_8 rfl (lv_at hl 0 rfl) ?_
    refine lv_iload_n hx hb dX8_kind_9 rfl (lv_at hl 2 rfl) ?_
    have hP_4 : PP G [(o, ob 8 fs)] s.heap := hP.sub [0] rfl
    refine csi (va_runV (As := [.int y]) (rest := []) ⟨hx, hb, hml, hown, hts⟩ (c_X8_isCall G l o fs n f0 y (by omega)) (cwV 1 hts gX8_kind_X8_isCall rfl rfl rfl (by decide +kernel) ⟨Nat.le_of_ble_eq_true rfl, Nat.le_of_ble_eq_true rfl⟩) (preRV hK hP_4 0 8 rfl rfl) rfl rfl hl.1 rfl (lv_room (Nat.le_of_ble_eq_true rfl)) dX8_kind_10 ⟨Nat.zero_le _, Nat.zero_le _⟩) (fun r_5 h_6 => ?_)
    rcases h_6 with ⟨rfl, k10, b10, rfl⟩ | ⟨rfl, b10⟩
    · skip
      refine lv_if_ne (tgt := 18) hx hb dX8_kind_13 (by decide) (fun _ => ?_) (fun c9 => absurd c9 (by decide))
      have hck := hc k2 b2
      refine lv_aload_n hx hb dX8_kind_18 rfl (lv_at hl 0 rfl) ?_
      refine va_get (D := G.1) (ci := 8) (v := .ref qa8) (C := RX8) (T := TX8) (N := 28) hx hb hts (by decide +kernel) hown hK.1 hP 0 rfl rfl 8 (by decide) (hts (.fieldLink RX8 29 "CallNumbersModel" "ringsOf" "[I") (by decide +kernel)) (fun _ h9 => h9) f8 dX8_kind_19 ?_
      refine lv_iload_n hx hb dX8_kind_22 rfl (lv_at hl 1 rfl) ?_
      refine ialdK (k := k2) (f := rO) hx hb hK.1 hP 6 0 rfl rfl (rfl) (by omega) (Nat.le_of_ble_eq_true rfl) dX8_kind_23 ?_
      refine lv_iload_n hx hb dX8_kind_24 rfl (lv_at hl 2 rfl) ?_
      have hP_7 : PP G [] s.heap := hP.sub [] rfl
      refine csi (va_runS (As := [.int (rO k2), .int (nI k10)]) (rest := []) ⟨hx, hb, hml, hown, hts⟩ (c_X8_has G l (rO k2) k10) (va_cwS 2 hts gX8_kind_X8_has rfl rfl rfl (by decide +kernel) ⟨Nat.le_of_ble_eq_true rfl, Nat.le_of_ble_eq_true rfl⟩) (preR hK hP_7) rfl rfl hl.1 rfl (lv_room (Nat.le_of_ble_eq_true rfl)) dX8_kind_25 ⟨Nat.zero_le _, Nat.zero_le _⟩) (fun r_8 h_9 => ?_)
      rcases h_9 with ⟨rfl, g25⟩ | ⟨rfl, g25⟩
      · skip
        refine lv_if_eq (tgt := 33) hx hb dX8_kind_28 (by decide) (fun c9 => absurd c9 (by decide)) (fun _ => ?_)
        refine lv_iconst (v := nI 1) hx hb dX8_kind_31 (by decide) ?_
        exact W.iret (v := nI 1) hx hb hr (fun t ht _ => ⟨_, rfl, by simp [A_kind, kindF, ix_in (k := k2) (n := np) (by omega) (by omega), ix_in (k := k10) (n := n) (by omega) (by omega), g25], ht⟩) (fun _ h9 => by cases h9) dX8_kind_32
      · skip
        refine lv_if_eq (tgt := 33) hx hb dX8_kind_28 (by decide) (fun _ => ?_) (fun c9 => absurd c9 (by decide))
        refine lv_iload_n hx hb dX8_kind_33 rfl (lv_at hl 2 rfl) ?_
        refine lv_aload_n hx hb dX8_kind_34 rfl (lv_at hl 0 rfl) ?_
        refine va_get (D := G.1) (ci := 8) (v := .ref qa5) (C := RX8) (T := TX8) (N := 28) hx hb hts (by decide +kernel) hown hK.1 hP 0 rfl rfl 5 (by decide) (hts (.fieldLink RX8 20 "CallNumbersModel" "callsOf" "[I") (by decide +kernel)) (fun _ h9 => h9) f5 dX8_kind_35 ?_
        refine lv_iload_n hx hb dX8_kind_38 rfl (lv_at hl 1 rfl) ?_
        refine ialdN (k := k2) (f := cO) hx hb hK.1 hP 3 0 rfl rfl (rfl) (by omega) (Nat.le_of_ble_eq_true rfl) dX8_kind_39 ?_
        refine lv_icmp_lt (tgt := 45) hx hb dX8_kind_40 (by decide) (fun c40 => ?_) (fun c40 => ?_)
        · skip
          have c40 := (nI_ltI (a := k10) (b := cO k2) (by omega) (by omega)).mp c40
          refine lv_aload_n hx hb dX8_kind_45 rfl (lv_at hl 0 rfl) ?_
          refine va_get (D := G.1) (ci := 8) (v := .ref qa6) (C := RX8) (T := TX8) (N := 28) hx hb hts (by decide +kernel) hown hK.1 hP 0 rfl rfl 6 (by decide) (hts (.fieldLink RX8 23 "CallNumbersModel" "metOf" "[I") (by decide +kernel)) (fun _ h9 => h9) f6 dX8_kind_46 ?_
          refine lv_iload_n hx hb dX8_kind_49 rfl (lv_at hl 1 rfl) ?_
          refine ialdK (k := k2) (f := mO) hx hb hK.1 hP 4 0 rfl rfl (rfl) (by omega) (Nat.le_of_ble_eq_true rfl) dX8_kind_50 ?_
          refine lv_aload_n hx hb dX8_kind_51 rfl (lv_at hl 0 rfl) ?_
          refine va_get (D := G.1) (ci := 8) (v := .ref qa1) (C := RX8) (T := TX8) (N := 28) hx hb hts (by decide +kernel) hown hK.1 hP 0 rfl rfl 1 (by decide) (hts (.fieldLink RX8 7 "CallNumbersModel" "fromOf" "[I") (by decide +kernel)) (fun _ h9 => h9) f1 dX8_kind_52 ?_
          refine lv_iload_n hx hb dX8_kind_55 rfl (lv_at hl 2 rfl) ?_
          refine ialdN (k := k10) (f := fr) hx hb hK.1 hP 1 0 rfl rfl (rfl) (by omega) (Nat.le_of_ble_eq_true rfl) dX8_kind_56 ?_
          have hP_10 : PP G [] s.heap := hP.sub [] rfl
          refine csi (va_runS (As := [.int (mO k2), .int (nI (fr k10))]) (rest := []) ⟨hx, hb, hml, hown, hts⟩ (c_X8_has G l (mO k2) (fr k10)) (va_cwS 2 hts gX8_kind_X8_has rfl rfl rfl (by decide +kernel) ⟨Nat.le_of_ble_eq_true rfl, Nat.le_of_ble_eq_true rfl⟩) (preR hK hP_10) rfl rfl hl.1 rfl (lv_room (Nat.le_of_ble_eq_true rfl)) dX8_kind_57 ⟨Nat.zero_le _, Nat.zero_le _⟩) (fun r_11 h_12 => ?_)
          rcases h_12 with ⟨rfl, g57⟩ | ⟨rfl, g57⟩
          · skip
            refine lv_if_ne (tgt := 67) hx hb dX8_kind_60 (by decide) (fun _ => ?_) (fun c9 => absurd c9 (by decide))
            refine lv_aload_n hx hb dX8_kind_67 rfl (lv_at hl 0 rfl) ?_
            refine va_get (D := G.1) (ci := 8) (v := .ref qa7) (C := RX8) (T := TX8) (N := 28) hx hb hts (by decide +kernel) hown hK.1 hP 0 rfl rfl 7 (by decide) (hts (.fieldLink RX8 26 "CallNumbersModel" "anchorsOf" "[I") (by decide +kernel)) (fun _ h9 => h9) f7 dX8_kind_68 ?_
            refine lv_iload_n hx hb dX8_kind_71 rfl (lv_at hl 1 rfl) ?_
            refine ialdK (k := k2) (f := aO) hx hb hK.1 hP 5 0 rfl rfl (rfl) (by omega) (Nat.le_of_ble_eq_true rfl) dX8_kind_72 ?_
            refine lv_aload_n hx hb dX8_kind_73 rfl (lv_at hl 0 rfl) ?_
            refine va_get (D := G.1) (ci := 8) (v := .ref qa2) (C := RX8) (T := TX8) (N := 28) hx hb hts (by decide +kernel) hown hK.1 hP 0 rfl rfl 2 (by decide) (hts (.fieldLink RX8 13 "CallNumbersModel" "toOf" "[I") (by decide +kernel)) (fun _ h9 => h9) f2 dX8_kind_74 ?_
            refine lv_iload_n hx hb dX8_kind_77 rfl (lv_at hl 2 rfl) ?_
            refine ialdN (k := k10) (f := to) hx hb hK.1 hP 2 0 rfl rfl (rfl) (by omega) (Nat.le_of_ble_eq_true rfl) dX8_kind_78 ?_
            have hP_13 : PP G [] s.heap := hP.sub [] rfl
            refine csi (va_runS (As := [.int (aO k2), .int (nI (to k10))]) (rest := []) ⟨hx, hb, hml, hown, hts⟩ (c_X8_has G l (aO k2) (to k10)) (va_cwS 2 hts gX8_kind_X8_has rfl rfl rfl (by decide +kernel) ⟨Nat.le_of_ble_eq_true rfl, Nat.le_of_ble_eq_true rfl⟩) (preR hK hP_13) rfl rfl hl.1 rfl (lv_room (Nat.le_of_ble_eq_true rfl)) dX8_kind_79 ⟨Nat.zero_le _, Nat.zero_le _⟩) (fun r_14 h_15 => ?_)
            rcases h_15 with ⟨rfl, g79⟩ | ⟨rfl, g79⟩
            · skip
              refine lv_if_eq (tgt := 89) hx hb dX8_kind_82 (by decide) (fun c9 => absurd c9 (by decide)) (fun _ => ?_)
              refine lv_iconst (v := nI 4) hx hb dX8_kind_85 (by decide) ?_
              refine lv_goto (tgt := 90) hx hb dX8_kind_86 (by decide) ?_
              exact W.iret (v := nI 4) hx hb hr (fun t ht _ => ⟨_, rfl, by simp [A_kind, kindF, ix_in (k := k2) (n := np) (by omega) (by omega), ix_in (k := k10) (n := n) (by omega) (by omega), g25, c40, g57, g79], ht⟩) (fun _ h9 => by cases h9) dX8_kind_90
            · skip
              refine lv_if_eq (tgt := 89) hx hb dX8_kind_82 (by decide) (fun _ => ?_) (fun c9 => absurd c9 (by decide))
              refine lv_iconst (v := nI 0) hx hb dX8_kind_89 (by decide) ?_
              exact W.iret (v := nI 0) hx hb hr (fun t ht _ => ⟨_, rfl, by simp [A_kind, kindF, ix_in (k := k2) (n := np) (by omega) (by omega), ix_in (k := k10) (n := n) (by omega) (by omega), g25, c40, g57, g79], ht⟩) (fun _ h9 => by cases h9) dX8_kind_90
          · skip
            refine lv_if_ne (tgt := 67) hx hb dX8_kind_60 (by decide) (fun c9 => absurd c9 (by decide)) (fun _ => ?_)
            refine lv_iconst (v := nI 3) hx hb dX8_kind_63 (by decide) ?_
            refine lv_goto (tgt := 90) hx hb dX8_kind_64 (by decide) ?_
            exact W.iret (v := nI 3) hx hb hr (fun t ht _ => ⟨_, rfl, by simp [A_kind, kindF, ix_in (k := k2) (n := np) (by omega) (by omega), ix_in (k := k10) (n := n) (by omega) (by omega), g25, c40, g57], ht⟩) (fun _ h9 => by cases h9) dX8_kind_90
        · skip
          have c40 := mt (nI_ltI (a := k10) (b := cO k2) (by omega) (by omega)).mpr c40
          refine lv_iconst (v := nI 2) hx hb dX8_kind_43 (by decide) ?_
          exact W.iret (v := nI 2) hx hb hr (fun t ht _ => ⟨_, rfl, by simp [A_kind, kindF, ix_in (k := k2) (n := np) (by omega) (by omega), ix_in (k := k10) (n := n) (by omega) (by omega), g25, c40], ht⟩) (fun _ h9 => by cases h9) dX8_kind_44
    · skip
      refine lv_if_ne (tgt := 18) hx hb dX8_kind_13 (by decide) (fun c9 => absurd c9 (by decide)) (fun _ => ?_)
      refine lv_iconst (v := (-1)) hx hb dX8_kind_16 (by decide) ?_
      exact W.iret (v := (-1)) hx hb hr (fun t ht _ => ⟨_, rfl, by simp [A_kind, kindF, ix_in (k := k2) (n := np) (by omega) (by omega), ix_out b10], ht⟩) (fun _ h9 => by cases h9) dX8_kind_17
  · skip
    refine lv_if_eq (tgt := 16) hx hb dX8_kind_5 (by decide) (fun _ => ?_) (fun c9 => absurd c9 (by decide))
    refine lv_iconst (v := (-1)) hx hb dX8_kind_16 (by decide) ?_
    exact W.iret (v := (-1)) hx hb hr (fun t ht _ => ⟨_, rfl, by simp [A_kind, kindF, ix_out b2], ht⟩) (fun _ h9 => by cases h9) dX8_kind_17
set_option maxHeartbeats 4000000 in
set_option maxRecDepth 100000 in
theorem c_X8_adds (G : GG) (l : Launch) (o : Nat) (fs : List Value) (n : Nat) (np : Nat) (qa9 : Nat) (pO : Nat → Int32) (qa11 : Nat) (dO : Nat → Nat) (f0 : fs[0]? = some (.int (nI n))) (f4 : fs[4]? = some (.int (nI np))) (f9 : fs[9]? = some (.ref qa9)) (f11 : fs[11]? = some (.ref qa11)) (x y : Int32) (hn : n ≤ 24) (hp : np ≤ 8) : Met l yX8_adds wsX8_adds { frames := 2, cells := 0, slots := 0, locals := 43 } (RPc G [.ref o, .int x, .int y] [(o, ob 8 fs), (qa9, iA G 8 pO), (qa11, iA G 192 (fun j => nI (dO j)))]) (vp_Si (fun r => r = A_adds n np pO (fun k j => dO (24 * k + j)) x y)) 0 0 (fun _ => False) := by
  refine Met.ofW (cc := cX8_adds) (maxL := 3) (ret := (some .int)) (by decide) rfl ?_
  intro p e s m args below meth c s₁ B hml hv
  obtain ⟨rfl, hP, hK⟩ := hv
  have hx := B.exec
  have hb := B.bytes
  have hr := B.returns
  have hts := atoms_spec (ws := wsX8_adds) B.pre
  have hown : s.vm.findClass RX8 = some m.cls := findClass_of_methodNamed B.named
  have hlocks := B.notSynchronized
  have hl := lv_entry ([.ref o, .int x, .int y]) (n := 3) (Nat.le_of_ble_eq_true rfl)
  rw [lg_entry_eq]
  generalize (lg_sl ([.ref o, .int x, .int y]) ++ List.replicate (3 - (lg_sl ([.ref o, .int x, .int y])).length) Slot.unset).toArray = ls at hl ⊢
  have hl : lv_has ls 3 [(0, .ref o), (1, .int x), (2, .int y)] := hl
  refine lv_aload_n hx hb dX8_adds_0 rfl (lv_at hl 0 rfl) ?_
  refine lv_iload_n hx hb dX8_adds_1 rfl (lv_at hl 1 rfl) ?_
  have hP_1 : PP G [(o, ob 8 fs)] s.heap := hP.sub [0] rfl
  refine csi (va_runV (As := [.int x]) (rest := []) ⟨hx, hb, hml, hown, hts⟩ (c_X8_isPlan G l o fs np f4 x (by omega)) (cwV 1 hts gX8_adds_X8_isPlan rfl rfl rfl (by decide +kernel) ⟨Nat.le_of_ble_eq_true rfl, Nat.le_of_ble_eq_true rfl⟩) (preRV hK hP_1 0 8 rfl rfl) rfl rfl hl.1 rfl (lv_room (Nat.le_of_ble_eq_true rfl)) dX8_adds_2 ⟨Nat.zero_le _, Nat.zero_le _⟩) (fun r_2 h_3 => ?_)
  rcases h_3 with ⟨rfl, k2, b2, rfl⟩ | ⟨rfl, b2⟩
  · skip
    refine lv_if_eq (tgt := 16) hx hb dX8_adds_5 (by decide) (fun c9 => absurd c9 (by decide)) (fun _ => ?_)
    refine lv_aload_n hx hb dX8_adds_8 rfl (lv_at hl 0 rfl) ?_
    refine lv_iload_n hx hb dX8_adds_9 rfl (lv_at hl 2 rfl) ?_
    have hP_4 : PP G [(o, ob 8 fs)] s.heap := hP.sub [0] rfl
    refine csi (va_runV (As := [.int y]) (rest := []) ⟨hx, hb, hml, hown, hts⟩ (c_X8_isCall G l o fs n f0 y (by omega)) (cwV 1 hts gX8_adds_X8_isCall rfl rfl rfl (by decide +kernel) ⟨Nat.le_of_ble_eq_true rfl, Nat.le_of_ble_eq_true rfl⟩) (preRV hK hP_4 0 8 rfl rfl) rfl rfl hl.1 rfl (lv_room (Nat.le_of_ble_eq_true rfl)) dX8_adds_10 ⟨Nat.zero_le _, Nat.zero_le _⟩) (fun r_5 h_6 => ?_)
    rcases h_6 with ⟨rfl, k10, b10, rfl⟩ | ⟨rfl, b10⟩
    · skip
      refine lv_if_ne (tgt := 18) hx hb dX8_adds_13 (by decide) (fun _ => ?_) (fun c9 => absurd c9 (by decide))
      refine lv_aload_n hx hb dX8_adds_18 rfl (lv_at hl 0 rfl) ?_
      refine lv_iload_n hx hb dX8_adds_19 rfl (lv_at hl 1 rfl) ?_
      refine lv_iload_n hx hb dX8_adds_20 rfl (lv_at hl 2 rfl) ?_
      have hP_7 : PP G [(o, ob 8 fs), (qa9, iA G 8 pO)] s.heap := hP.sub [0, 1] rfl
      refine csi (va_runV (As := [.int (nI k2), .int (nI k10)]) (rest := []) ⟨hx, hb, hml, hown, hts⟩ (c_X8_isPlain G l o fs qa9 pO f9 k2 k10 (by omega)) (cwV 2 hts gX8_adds_X8_isPlain rfl rfl rfl (by decide +kernel) ⟨Nat.le_of_ble_eq_true rfl, Nat.le_of_ble_eq_true rfl⟩) (preRV hK hP_7 0 8 rfl rfl) rfl rfl hl.1 rfl (lv_room (Nat.le_of_ble_eq_true rfl)) dX8_adds_21 ⟨Nat.zero_le _, Nat.zero_le _⟩) (fun r_8 h_9 => ?_)
      rcases h_9 with ⟨rfl, g21⟩ | ⟨rfl, g21⟩
      · skip
        refine lv_if_eq (tgt := 41) hx hb dX8_adds_24 (by decide) (fun c9 => absurd c9 (by decide)) (fun _ => ?_)
        refine lv_aload_n hx hb dX8_adds_27 rfl (lv_at hl 0 rfl) ?_
        refine va_get (D := G.1) (ci := 8) (v := .ref qa11) (C := RX8) (T := TX8) (N := 28) hx hb hts (by decide +kernel) hown hK.1 hP 0 rfl rfl 11 (by decide) (hts (.fieldLink RX8 38 "CallNumbersModel" "addOf" "[I") (by decide +kernel)) (fun _ h9 => h9) f11 dX8_adds_28 ?_
        refine lv_bipush (v := nI 24) hx hb dX8_adds_31 (by decide) ?_
        refine lv_iload_n hx hb dX8_adds_33 rfl (lv_at hl 1 rfl) ?_
        refine lv_imul hx hb dX8_adds_34 ?_
        refine lv_topi (fun v ev => ?_)
        obtain rfl : v = nI (24 * k2) := ev.trans (pk_mul _ _)
        refine lv_iload_n hx hb dX8_adds_35 rfl (lv_at hl 2 rfl) ?_
        refine lv_iadd hx hb dX8_adds_36 ?_
        refine lv_topi (fun v ev => ?_)
        obtain rfl : v = nI ((24 * k2) + k10) := ev.trans (nI_add _ _)
        refine ialdN (k := (24 * k2) + k10) (f := dO) hx hb hK.1 hP 2 0 rfl rfl (rfl) (by omega) (Nat.le_of_ble_eq_true rfl) dX8_adds_37 ?_
        refine lv_goto (tgt := 43) hx hb dX8_adds_38 (by decide) ?_
        exact W.iret (v := nI (dO ((24 * k2) + k10))) hx hb hr (fun t ht _ => ⟨_, rfl, by simp [A_adds, ix_in (k := k2) (n := np) (by omega) (by omega), ix_in (k := k10) (n := n) (by omega) (by omega), g21], ht⟩) (fun _ h9 => by cases h9) dX8_adds_43
      · skip
        refine lv_if_eq (tgt := 41) hx hb dX8_adds_24 (by decide) (fun _ => ?_) (fun c9 => absurd c9 (by decide))
        refine lv_bipush (v := (-9)) hx hb dX8_adds_41 (by decide) ?_
        exact W.iret (v := (-9)) hx hb hr (fun t ht _ => ⟨_, rfl, by simp [A_adds, ix_in (k := k2) (n := np) (by omega) (by omega), ix_in (k := k10) (n := n) (by omega) (by omega), g21], ht⟩) (fun _ h9 => by cases h9) dX8_adds_43
    · skip
      refine lv_if_ne (tgt := 18) hx hb dX8_adds_13 (by decide) (fun c9 => absurd c9 (by decide)) (fun _ => ?_)
      refine lv_iconst (v := (-1)) hx hb dX8_adds_16 (by decide) ?_
      exact W.iret (v := (-1)) hx hb hr (fun t ht _ => ⟨_, rfl, by simp [A_adds, ix_in (k := k2) (n := np) (by omega) (by omega), ix_out b10], ht⟩) (fun _ h9 => by cases h9) dX8_adds_17
  · skip
    refine lv_if_eq (tgt := 16) hx hb dX8_adds_5 (by decide) (fun _ => ?_) (fun c9 => absurd c9 (by decide))
    refine lv_iconst (v := (-1)) hx hb dX8_adds_16 (by decide) ?_
    exact W.iret (v := (-1)) hx hb hr (fun t ht _ => ⟨_, rfl, by simp [A_adds, ix_out b2], ht⟩) (fun _ h9 => by cases h9) dX8_adds_17
set_option maxHeartbeats 4000000 in
set_option maxRecDepth 100000 in
theorem c_X8_ways (G : GG) (l : Launch) (o : Nat) (fs : List Value) (np : Nat) (qa10 : Nat) (wO : Nat → Nat) (f4 : fs[4]? = some (.int (nI np))) (f10 : fs[10]? = some (.ref qa10)) (x y : Int32) (hp : np ≤ 8) : Met l yX8_ways wsX8_ways { frames := 2, cells := 0, slots := 0, locals := 43 } (RPc G [.ref o, .int x, .int y] [(o, ob 8 fs), (qa10, iA G 80 (fun j => nI (wO j)))]) (vp_Si (fun r => r = A_ways np (fun k j => wO (10 * k + j)) x y)) 0 0 (fun _ => False) := by
  refine Met.ofW (cc := cX8_ways) (maxL := 3) (ret := (some .int)) (by decide) rfl ?_
  intro p e s m args below meth c s₁ B hml hv
  obtain ⟨rfl, hP, hK⟩ := hv
  have hx := B.exec
  have hb := B.bytes
  have hr := B.returns
  have hts := atoms_spec (ws := wsX8_ways) B.pre
  have hown : s.vm.findClass RX8 = some m.cls := findClass_of_methodNamed B.named
  have hlocks := B.notSynchronized
  have hl := lv_entry ([.ref o, .int x, .int y]) (n := 3) (Nat.le_of_ble_eq_true rfl)
  rw [lg_entry_eq]
  generalize (lg_sl ([.ref o, .int x, .int y]) ++ List.replicate (3 - (lg_sl ([.ref o, .int x, .int y])).length) Slot.unset).toArray = ls at hl ⊢
  have hl : lv_has ls 3 [(0, .ref o), (1, .int x), (2, .int y)] := hl
  refine lv_aload_n hx hb dX8_ways_0 rfl (lv_at hl 0 rfl) ?_
  refine lv_iload_n hx hb dX8_ways_1 rfl (lv_at hl 1 rfl) ?_
  have hP_1 : PP G [(o, ob 8 fs)] s.heap := hP.sub [0] rfl
  refine csi (va_runV (As := [.int x]) (rest := []) ⟨hx, hb, hml, hown, hts⟩ (c_X8_isPlan G l o fs np f4 x (by omega)) (cwV 1 hts gX8_ways_X8_isPlan rfl rfl rfl (by decide +kernel) ⟨Nat.le_of_ble_eq_true rfl, Nat.le_of_ble_eq_true rfl⟩) (preRV hK hP_1 0 8 rfl rfl) rfl rfl hl.1 rfl (lv_room (Nat.le_of_ble_eq_true rfl)) dX8_ways_2 ⟨Nat.zero_le _, Nat.zero_le _⟩) (fun r_2 h_3 => ?_)
  rcases h_3 with ⟨rfl, k2, b2, rfl⟩ | ⟨rfl, b2⟩
  · skip
    refine lv_if_eq (tgt := 29) hx hb dX8_ways_5 (by decide) (fun c9 => absurd c9 (by decide)) (fun _ => ?_)
    refine lv_iload_n hx hb dX8_ways_8 rfl (lv_at hl 2 rfl) ?_
    have hP_4 : PP G [] s.heap := hP.sub [] rfl
    refine csi (va_runS (As := [.int y]) (rest := []) ⟨hx, hb, hml, hown, hts⟩ (c_X8_isRoutine G l y) (va_cwS 1 hts gX8_ways_X8_isRoutine rfl rfl rfl (by decide +kernel) ⟨Nat.le_of_ble_eq_true rfl, Nat.le_of_ble_eq_true rfl⟩) (preR hK hP_4) rfl rfl hl.1 rfl (lv_room (Nat.le_of_ble_eq_true rfl)) dX8_ways_9 ⟨Nat.zero_le _, Nat.zero_le _⟩) (fun r_5 h_6 => ?_)
    rcases h_6 with ⟨rfl, k9, b9, rfl⟩ | ⟨rfl, b9⟩
    · skip
      refine lv_if_eq (tgt := 29) hx hb dX8_ways_12 (by decide) (fun c9 => absurd c9 (by decide)) (fun _ => ?_)
      refine lv_aload_n hx hb dX8_ways_15 rfl (lv_at hl 0 rfl) ?_
      refine va_get (D := G.1) (ci := 8) (v := .ref qa10) (C := RX8) (T := TX8) (N := 28) hx hb hts (by decide +kernel) hown hK.1 hP 0 rfl rfl 10 (by decide) (hts (.fieldLink RX8 35 "CallNumbersModel" "waysOf" "[I") (by decide +kernel)) (fun _ h9 => h9) f10 dX8_ways_16 ?_
      refine lv_bipush (v := nI 10) hx hb dX8_ways_19 (by decide) ?_
      refine lv_iload_n hx hb dX8_ways_21 rfl (lv_at hl 1 rfl) ?_
      refine lv_imul hx hb dX8_ways_22 ?_
      refine lv_topi (fun v ev => ?_)
      obtain rfl : v = nI (10 * k2) := ev.trans (pk_mul _ _)
      refine lv_iload_n hx hb dX8_ways_23 rfl (lv_at hl 2 rfl) ?_
      refine lv_iadd hx hb dX8_ways_24 ?_
      refine lv_topi (fun v ev => ?_)
      obtain rfl : v = nI ((10 * k2) + k9) := ev.trans (nI_add _ _)
      refine ialdN (k := (10 * k2) + k9) (f := wO) hx hb hK.1 hP 1 0 rfl rfl (rfl) (by omega) (Nat.le_of_ble_eq_true rfl) dX8_ways_25 ?_
      refine lv_goto (tgt := 30) hx hb dX8_ways_26 (by decide) ?_
      exact W.iret (v := nI (wO ((10 * k2) + k9))) hx hb hr (fun t ht _ => ⟨_, rfl, by simp [A_ways, ix_in (k := k2) (n := np) (by omega) (by omega), ix_in (k := k9) (n := 10) (by omega) (by omega)], ht⟩) (fun _ h9 => by cases h9) dX8_ways_30
    · skip
      refine lv_if_eq (tgt := 29) hx hb dX8_ways_12 (by decide) (fun _ => ?_) (fun c9 => absurd c9 (by decide))
      refine lv_iconst (v := (-1)) hx hb dX8_ways_29 (by decide) ?_
      exact W.iret (v := (-1)) hx hb hr (fun t ht _ => ⟨_, rfl, by simp [A_ways, ix_in (k := k2) (n := np) (by omega) (by omega), ix_out b9], ht⟩) (fun _ h9 => by cases h9) dX8_ways_30
  · skip
    refine lv_if_eq (tgt := 29) hx hb dX8_ways_5 (by decide) (fun _ => ?_) (fun c9 => absurd c9 (by decide))
    refine lv_iconst (v := (-1)) hx hb dX8_ways_29 (by decide) ?_
    exact W.iret (v := (-1)) hx hb hr (fun t ht _ => ⟨_, rfl, by simp [A_ways, ix_out b2], ht⟩) (fun _ h9 => by cases h9) dX8_ways_30
set_option maxHeartbeats 4000000 in
set_option maxRecDepth 100000 in
theorem c_X8_ofPlan (G : GG) (l : Launch) (o : Nat) (fs : List Value) (np : Nat) (qa6 : Nat) (mO : Nat → Int32) (qa7 : Nat) (aO : Nat → Int32) (qa8 : Nat) (rO : Nat → Int32) (qa9 : Nat) (pO : Nat → Int32) (f4 : fs[4]? = some (.int (nI np))) (f6 : fs[6]? = some (.ref qa6)) (f7 : fs[7]? = some (.ref qa7)) (f8 : fs[8]? = some (.ref qa8)) (f9 : fs[9]? = some (.ref qa9)) (x y : Int32) (hp : np ≤ 8) : Met l yX8_ofPlan wsX8_ofPlan { frames := 2, cells := 0, slots := 0, locals := 43 } (RPc G [.ref o, .int x, .int y] [(o, ob 8 fs), (qa6, iA G 8 mO), (qa7, iA G 8 aO), (qa8, iA G 8 rO), (qa9, iA G 8 pO)]) (vp_Si (fun r => r = A_ofPlan np mO aO rO pO x y)) 0 0 (fun _ => False) := by
  refine Met.ofW (cc := cX8_ofPlan) (maxL := 3) (ret := (some .int)) (by decide) rfl ?_
  intro p e s m args below meth c s₁ B hml hv
  obtain ⟨rfl, hP, hK⟩ := hv
  have hx := B.exec
  have hb := B.bytes
  have hr := B.returns
  have hts := atoms_spec (ws := wsX8_ofPlan) B.pre
  have hown : s.vm.findClass RX8 = some m.cls := findClass_of_methodNamed B.named
  have hlocks := B.notSynchronized
  have hl := lv_entry ([.ref o, .int x, .int y]) (n := 3) (Nat.le_of_ble_eq_true rfl)
  rw [lg_entry_eq]
  generalize (lg_sl ([.ref o, .int x, .int y]) ++ List.replicate (3 - (lg_sl ([.ref o, .int x, .int y])).length) Slot.unset).toArray = ls at hl ⊢
  have hl : lv_has ls 3 [(0, .ref o), (1, .int x), (2, .int y)] := hl
  refine lv_aload_n hx hb dX8_ofPlan_0 rfl (lv_at hl 0 rfl) ?_
  refine lv_iload_n hx hb dX8_ofPlan_1 rfl (lv_at hl 1 rfl) ?_
  have hP_1 : PP G [(o, ob 8 fs)] s.heap := hP.sub [0] rfl
  refine csi (va_runV (As := [.int x]) (rest := []) ⟨hx, hb, hml, hown, hts⟩ (c_X8_isPlan G l o fs np f4 x (by omega)) (cwV 1 hts gX8_ofPlan_X8_isPlan rfl rfl rfl (by decide +kernel) ⟨Nat.le_of_ble_eq_true rfl, Nat.le_of_ble_eq_true rfl⟩) (preRV hK hP_1 0 8 rfl rfl) rfl rfl hl.1 rfl (lv_room (Nat.le_of_ble_eq_true rfl)) dX8_ofPlan_2 ⟨Nat.zero_le _, Nat.zero_le _⟩) (fun r_2 h_3 => ?_)
  rcases h_3 with ⟨rfl, k2, b2, rfl⟩ | ⟨rfl, b2⟩
  · skip
    refine lv_if_ne (tgt := 10) hx hb dX8_ofPlan_5 (by decide) (fun _ => ?_) (fun c9 => absurd c9 (by decide))
    refine lv_iload_n hx hb dX8_ofPlan_10 rfl (lv_at hl 2 rfl) ?_
    by_cases w11_0 : y = nI 0
    · skip
      subst w11_0
      refine lv_tableIn (tgt := 40) hx hb dX8_ofPlan_11 (by decide) (by decide) (off := 29) rfl (by decide) ?_
      refine lv_aload_n hx hb dX8_ofPlan_40 rfl (lv_at hl 0 rfl) ?_
      refine va_get (D := G.1) (ci := 8) (v := .ref qa6) (C := RX8) (T := TX8) (N := 28) hx hb hts (by decide +kernel) hown hK.1 hP 0 rfl rfl 6 (by decide) (hts (.fieldLink RX8 23 "CallNumbersModel" "metOf" "[I") (by decide +kernel)) (fun _ h9 => h9) f6 dX8_ofPlan_41 ?_
      refine lv_iload_n hx hb dX8_ofPlan_44 rfl (lv_at hl 1 rfl) ?_
      refine ialdK (k := k2) (f := mO) hx hb hK.1 hP 1 0 rfl rfl (rfl) (by omega) (Nat.le_of_ble_eq_true rfl) dX8_ofPlan_45 ?_
      exact W.iret (v := mO k2) hx hb hr (fun t ht _ => ⟨_, rfl, by simp [A_ofPlan, ix_in (k := k2) (n := np) (by omega) (by omega), nI_ne, sw0], ht⟩) (fun _ h9 => by cases h9) dX8_ofPlan_46
    · skip
      by_cases w11_1 : y = nI 1
      · skip
        subst w11_1
        refine lv_tableIn (tgt := 47) hx hb dX8_ofPlan_11 (by decide) (by decide) (off := 36) rfl (by decide) ?_
        refine lv_aload_n hx hb dX8_ofPlan_47 rfl (lv_at hl 0 rfl) ?_
        refine va_get (D := G.1) (ci := 8) (v := .ref qa7) (C := RX8) (T := TX8) (N := 28) hx hb hts (by decide +kernel) hown hK.1 hP 0 rfl rfl 7 (by decide) (hts (.fieldLink RX8 26 "CallNumbersModel" "anchorsOf" "[I") (by decide +kernel)) (fun _ h9 => h9) f7 dX8_ofPlan_48 ?_
        refine lv_iload_n hx hb dX8_ofPlan_51 rfl (lv_at hl 1 rfl) ?_
        refine ialdK (k := k2) (f := aO) hx hb hK.1 hP 2 0 rfl rfl (rfl) (by omega) (Nat.le_of_ble_eq_true rfl) dX8_ofPlan_52 ?_
        exact W.iret (v := aO k2) hx hb hr (fun t ht _ => ⟨_, rfl, by simp [A_ofPlan, ix_in (k := k2) (n := np) (by omega) (by omega), nI_ne, sw0], ht⟩) (fun _ h9 => by cases h9) dX8_ofPlan_53
      · skip
        by_cases w11_2 : y = nI 2
        · skip
          subst w11_2
          refine lv_tableIn (tgt := 54) hx hb dX8_ofPlan_11 (by decide) (by decide) (off := 43) rfl (by decide) ?_
          refine lv_aload_n hx hb dX8_ofPlan_54 rfl (lv_at hl 0 rfl) ?_
          refine va_get (D := G.1) (ci := 8) (v := .ref qa8) (C := RX8) (T := TX8) (N := 28) hx hb hts (by decide +kernel) hown hK.1 hP 0 rfl rfl 8 (by decide) (hts (.fieldLink RX8 29 "CallNumbersModel" "ringsOf" "[I") (by decide +kernel)) (fun _ h9 => h9) f8 dX8_ofPlan_55 ?_
          refine lv_iload_n hx hb dX8_ofPlan_58 rfl (lv_at hl 1 rfl) ?_
          refine ialdK (k := k2) (f := rO) hx hb hK.1 hP 3 0 rfl rfl (rfl) (by omega) (Nat.le_of_ble_eq_true rfl) dX8_ofPlan_59 ?_
          exact W.iret (v := rO k2) hx hb hr (fun t ht _ => ⟨_, rfl, by simp [A_ofPlan, ix_in (k := k2) (n := np) (by omega) (by omega), nI_ne, sw0], ht⟩) (fun _ h9 => by cases h9) dX8_ofPlan_60
        · skip
          by_cases w11_3 : y = nI 3
          · skip
            subst w11_3
            refine lv_tableIn (tgt := 61) hx hb dX8_ofPlan_11 (by decide) (by decide) (off := 50) rfl (by decide) ?_
            refine lv_aload_n hx hb dX8_ofPlan_61 rfl (lv_at hl 0 rfl) ?_
            refine va_get (D := G.1) (ci := 8) (v := .ref qa9) (C := RX8) (T := TX8) (N := 28) hx hb hts (by decide +kernel) hown hK.1 hP 0 rfl rfl 9 (by decide) (hts (.fieldLink RX8 32 "CallNumbersModel" "plainOf" "[I") (by decide +kernel)) (fun _ h9 => h9) f9 dX8_ofPlan_62 ?_
            refine lv_iload_n hx hb dX8_ofPlan_65 rfl (lv_at hl 1 rfl) ?_
            refine ialdK (k := k2) (f := pO) hx hb hK.1 hP 4 0 rfl rfl (rfl) (by omega) (Nat.le_of_ble_eq_true rfl) dX8_ofPlan_66 ?_
            exact W.iret (v := pO k2) hx hb hr (fun t ht _ => ⟨_, rfl, by simp [A_ofPlan, ix_in (k := k2) (n := np) (by omega) (by omega), nI_ne, sw0], ht⟩) (fun _ h9 => by cases h9) dX8_ofPlan_67
          · skip
            refine lv_tableOut (tgt := 68) hx hb dX8_ofPlan_11 (tb_out y 3 rfl (fun k hk => by rcases (show k = 0 ∨ k = 1 ∨ k = 2 ∨ k = 3 by omega) with rfl | rfl | rfl | rfl <;> assumption) (by decide)) (by decide) ?_
            refine lv_bipush (v := (-2)) hx hb dX8_ofPlan_68 (by decide) ?_
            exact W.iret (v := (-2)) hx hb hr (fun t ht _ => ⟨_, rfl, by simp [A_ofPlan, ix_in (k := k2) (n := np) (by omega) (by omega), w11_0, w11_1, w11_2, w11_3, nI_ne, sw0], ht⟩) (fun _ h9 => by cases h9) dX8_ofPlan_70
  · skip
    refine lv_if_ne (tgt := 10) hx hb dX8_ofPlan_5 (by decide) (fun c9 => absurd c9 (by decide)) (fun _ => ?_)
    refine lv_iconst (v := (-1)) hx hb dX8_ofPlan_8 (by decide) ?_
    exact W.iret (v := (-1)) hx hb hr (fun t ht _ => ⟨_, rfl, by simp [A_ofPlan, ix_out b2, nI_ne, sw0], ht⟩) (fun _ h9 => by cases h9) dX8_ofPlan_9
end
section
theorem va_P.tl {D : va_G} {cl : List vw_C} {ws tl w : va_W} {H : Heap} (h : va_P D cl (ws ++ tl) H) (hm : ∀ q ∈ w, q ∈ tl) : va_P D cl w H := h.mem (fun q hq => List.mem_append_right _ (hm q hq))
/-- the cells of plan k, among the rest -/
def PlC (G : GG) (tl : va_W) (pa pw pd cO : Nat → Nat) (mO aO rO pO : Nat → Int32) (wy ad : Nat → Nat → Nat) (k : Nat) : Prop := ∀ q ∈ ([(pa k, ob 4 [.ref (pw k), .ref (pd k), .int (nI (cO k)), .int (mO k), .int (aO k), .int (rO k), .int (pO k)]), (pw k, iA G 10 (fun j => nI (wy k j))), (pd k, iA G 24 (fun j => nI (ad k j)))] : va_W), q ∈ tl
/-- the cells of snap k, among the rest -/
def SnC (G : GG) (tl : va_W) (sa sr sP sH sC sL sD : Nat → Nat) (sw : Nat → Nat → Nat) (k : Nat) : Prop := ∀ q ∈ ([(sa k, ob 5 [.int (nI (sP k)), .int (nI (sH k)), .int (nI (sC k)), .int (nI (sL k)), .ref (sr k)]), (sr k, iA G (sD k) (fun j => nI (sw k j)))] : va_W), q ∈ tl
def A_running (d : Nat) (row : Nat → Nat) (x : Int32) : Int32 := if x < 0 then -2 else match ix d x with
  | some k => nI (row k)
  | none => -9
def A_ofSnap (ns : Nat) (sP sH sC sL sD : Nat → Nat) (x y : Int32) : Int32 := match ix ns x with
  | some k => if y = nI 0 then nI (sP k) else if y = nI 1 then nI (sH k) else if y = nI 2 then nI (sC k) else if y = nI 3 then nI (sL k) else if y = nI 4 then nI (sD k) else -2
  | none => -1
def A_snapped (ns : Nat) (sD : Nat → Nat) (sw : Nat → Nat → Nat) (x y : Int32) : Int32 := match ix ns x with
  | some k => if y < 0 then -2 else match ix (sD k) y with
    | some j => nI (sw k j)
    | none => -9
  | none => -1
def sameF (n1 n2 : Nat) (ra rb : Nat → Nat) : Bool := decide (n1 = n2 ∧ ∀ j, j < n1 → ra j = rb j)
theorem sameF_ne {n1 n2 : Nat} {ra rb : Nat → Nat} (h : ¬ n1 = n2) : sameF n1 n2 ra rb = false := decide_eq_false fun z => h z.1
theorem sameF_no {n1 n2 i : Nat} {ra rb : Nat → Nat} (hi : i < n1) (h : ¬ ra i = rb i) : sameF n1 n2 ra rb = false := decide_eq_false fun z => h (z.2 i hi)
theorem sameF_yes {n1 n2 : Nat} {ra rb : Nat → Nat} (h : n1 = n2) (h2 : ∀ j, j < n1 → ra j = rb j) : sameF n1 n2 ra rb = true := decide_eq_true ⟨h, h2⟩
def A_same (ns : Nat) (sD : Nat → Nat) (sw : Nat → Nat → Nat) (x y : Int32) : Int32 := match ix ns x, ix ns y with
  | some k, some j => if sameF (sD k) (sD j) (sw k) (sw j) then nI 1 else nI 0
  | _, _ => -1
def A_many (n np dp ns lim : Nat) (to row : Nat → Nat) (x : Int32) : Int32 := if x = nI 0 then nI n else if x = nI 1 then nI np else if x = nI 2 then nI dp else if x = nI 3 then nI ns else if x = nI 4 then nI (hereF to row dp) else if x = nI 5 then nI lim else -2
/-- the sum of w over those below n that p picks -/
def sumF (p : Nat → Bool) (w : Nat → Nat) : Nat → Nat
  | 0 => 0
  | k + 1 => if p k then sumF p w k + w k else sumF p w k
/-- the first below n that p picks -/
def firstF (p : Nat → Bool) : Nat → Option Nat
  | 0 => none
  | k + 1 => match firstF p k with
    | some j => some j
    | none => if p k then some k else none
theorem firstF_none {p : Nat → Bool} : ∀ {n : Nat}, (∀ j, j < n → p j = false) → firstF p n = none
  | 0, _ => rfl
  | n + 1, h => by
    have h1 := firstF_none (n := n) (fun j hj => h j (by omega))
    simp [firstF, h1, h n (by omega)]
theorem firstF_some {p : Nat → Bool} {i : Nat} : ∀ {n : Nat}, i < n → p i = true → (∀ j, j < i → p j = false) → firstF p n = some i
  | 0, h, _, _ => absurd h (Nat.not_lt_zero _)
  | n + 1, h, hp, hf => by
    by_cases hi : i = n
    · subst hi
      simp [firstF, firstF_none hf, hp]
    · have h1 := firstF_some (n := n) (by omega) hp hf
      simp [firstF, h1]
theorem firstF_lt {p : Nat → Bool} {i : Nat} : ∀ {n : Nat}, firstF p n = some i → i < n ∧ p i = true
  | 0, h => by cases h
  | n + 1, h => by
    unfold firstF at h
    cases h1 : firstF p n with
    | some j =>
      rw [h1] at h
      cases h
      have := firstF_lt h1
      exact ⟨by omega, this.2⟩
    | none =>
      rw [h1] at h
      by_cases hp : p n = true
      · simp [hp] at h
        subst h
        exact ⟨by omega, hp⟩
      · simp [hp] at h
/-- the plain call to r by which num may be left -/
def lastP (pl : Int32) (ad wy fr to : Nat → Nat) (r num : Nat) (j : Nat) : Bool := hbt pl j && to j == r && !decide (num < ad j) && !decide (ad j + wy (fr j) ≤ num)
theorem nI_n9 {k : Nat} (h : k < 2 ^ 31) : ¬ nI k = -9 := fun e => by
  have h1 := congrArg Int32.toInt e
  rw [nI_toInt h] at h1
  have h2 : (-9 : Int32).toInt = -9 := by decide
  omega
theorem left_neg {a b : Nat} (ha : a < 2 ^ 30) (hb : b < 2 ^ 30) : nI a - nI b < 0 ↔ a < b := by
  rw [Int32.lt_iff_toInt_lt, pk_sub_toInt ha hb]
  have : (0 : Int32).toInt = 0 := by decide
  omega
theorem left_ge {a b w : Nat} (ha : a < 2 ^ 30) (hb : b < 2 ^ 30) (hw : w < 2 ^ 30) : nI w ≤ nI a - nI b ↔ b + w ≤ a := by
  rw [Int32.le_iff_toInt_le, pk_sub_toInt ha hb, nI_toInt (by omega)]
  omega
set_option maxHeartbeats 4000000 in
set_option maxRecDepth 100000 in
theorem c_X7_ofCall (G : GG) (l : Launch) (o : Nat) (fs : List Value) (qc : Nat) (gs : List Value) (qf qt n : Nat) (fr to : Nat → Nat) (g0 : gs[0]? = some (.ref qf)) (g1 : gs[1]? = some (.ref qt)) (g2 : gs[2]? = some (.int (nI n))) (hn : n ≤ 24) (x : Int32) (y : Int32) (f0 : fs[0]? = some (.ref qc)) : Met l yX7_ofCall wsX7_ofCall { frames := 1, cells := 0, slots := 0, locals := 21 } (RPc G [.ref o, .int x, .int y] [(o, ob 7 fs), (qc, ob 1 gs), (qf, iA G 24 (fun j => nI (fr j))), (qt, iA G 24 (fun j => nI (to j)))]) (vp_Si (fun r => r = A_ofCall n fr to x y)) 0 0 (fun _ => False) := by
  refine Met.ofW (cc := cX7_ofCall) (maxL := 3) (ret := (some .int)) (by decide) rfl ?_
  intro p e s m args below meth c s₁ B hml hv
  obtain ⟨rfl, hP, hK⟩ := hv
  have hx := B.exec
  have hb := B.bytes
  have hr := B.returns
  have hts := atoms_spec (ws := wsX7_ofCall) B.pre
  have hown : s.vm.findClass RX7 = some m.cls := findClass_of_methodNamed B.named
  have hlocks := B.notSynchronized
  have hl := lv_entry ([.ref o, .int x, .int y]) (n := 3) (Nat.le_of_ble_eq_true rfl)
  rw [lg_entry_eq]
  generalize (lg_sl ([.ref o, .int x, .int y]) ++ List.replicate (3 - (lg_sl ([.ref o, .int x, .int y])).length) Slot.unset).toArray = ls at hl ⊢
  have hl : lv_has ls 3 [(0, .ref o), (1, .int x), (2, .int y)] := hl
  refine lv_aload_n hx hb dX7_ofCall_0 rfl (lv_at hl 0 rfl) ?_
  refine lv_iload_n hx hb dX7_ofCall_1 rfl (lv_at hl 1 rfl) ?_
  have hP_1 : PP G [(o, ob 7 fs), (qc, ob 1 gs)] s.heap := hP.sub [0, 1] rfl
  refine csi (va_runV (As := [.int x]) (rest := []) ⟨hx, hb, hml, hown, hts⟩ (c_X7_isCall G l o qc n fs gs x f0 g2 (by omega)) (cwV 1 hts gX7_ofCall_X7_isCall rfl rfl rfl (by decide +kernel) ⟨Nat.le_of_ble_eq_true rfl, Nat.le_of_ble_eq_true rfl⟩) (preRV hK hP_1 0 7 rfl rfl) rfl rfl hl.1 rfl (lv_room (Nat.le_of_ble_eq_true rfl)) dX7_ofCall_2 ⟨Nat.zero_le _, Nat.zero_le _⟩) (fun r_2 h_3 => ?_)
  rcases h_3 with ⟨rfl, k2, b2, rfl⟩ | ⟨rfl, b2⟩
  · skip
    refine lv_if_ne (tgt := 10) hx hb dX7_ofCall_5 (by decide) (fun _ => ?_) (fun c9 => absurd c9 (by decide))
    refine lv_iload_n hx hb dX7_ofCall_10 rfl (lv_at hl 2 rfl) ?_
    by_cases w11_0 : y = nI 0
    · skip
      subst w11_0
      refine lv_lookup (tgt := 36) (off := 25) hx hb dX7_ofCall_11 (by decide) (by decide) (by decide) ?_
      refine lv_aload_n hx hb dX7_ofCall_36 rfl (lv_at hl 0 rfl) ?_
      refine va_get (D := G.1) (ci := 7) (v := .ref qc) (C := RX7) (T := TX7) (N := 10) hx hb hts (by decide +kernel) hown hK.1 hP 0 rfl rfl 0 (by decide) (hts (.fieldLink RX7 10 "CallNumbers" "calls" "LCallNumbers$Calls;") (by decide +kernel)) (fun _ h9 => h9) f0 dX7_ofCall_37 ?_
      refine va_getN (D := G.1) (ci := 1) (v := .ref qf) (C := RX1) (T := TX1) (N := 3) hx hb hts (by decide +kernel) hown hK.1 hP 1 rfl rfl 0 (by decide) (hK.2.1.f 0 rfl) (fun _ h9 => h9) g0 dX7_ofCall_40 ?_
      refine lv_iload_n hx hb dX7_ofCall_43 rfl (lv_at hl 1 rfl) ?_
      refine ialdN (k := k2) (f := fr) hx hb hK.1 hP 2 0 rfl rfl (rfl) (by omega) (Nat.le_of_ble_eq_true rfl) dX7_ofCall_44 ?_
      exact W.iret (v := nI (fr k2)) hx hb hr (fun t ht _ => ⟨_, rfl, by simp [A_ofCall, ix_in (k := k2) (n := n) (by omega) (by omega), nI_ne, sw0], ht⟩) (fun _ h9 => by cases h9) dX7_ofCall_45
    · skip
      by_cases w11_1 : y = nI 1
      · skip
        subst w11_1
        refine lv_lookup (tgt := 46) (off := 35) hx hb dX7_ofCall_11 (by decide) (by decide) (by decide) ?_
        refine lv_aload_n hx hb dX7_ofCall_46 rfl (lv_at hl 0 rfl) ?_
        refine va_get (D := G.1) (ci := 7) (v := .ref qc) (C := RX7) (T := TX7) (N := 10) hx hb hts (by decide +kernel) hown hK.1 hP 0 rfl rfl 0 (by decide) (hts (.fieldLink RX7 10 "CallNumbers" "calls" "LCallNumbers$Calls;") (by decide +kernel)) (fun _ h9 => h9) f0 dX7_ofCall_47 ?_
        refine va_getN (D := G.1) (ci := 1) (v := .ref qt) (C := RX1) (T := TX1) (N := 3) hx hb hts (by decide +kernel) hown hK.1 hP 1 rfl rfl 1 (by decide) (hK.2.1.f 5 rfl) (fun _ h9 => h9) g1 dX7_ofCall_50 ?_
        refine lv_iload_n hx hb dX7_ofCall_53 rfl (lv_at hl 1 rfl) ?_
        refine ialdN (k := k2) (f := to) hx hb hK.1 hP 3 0 rfl rfl (rfl) (by omega) (Nat.le_of_ble_eq_true rfl) dX7_ofCall_54 ?_
        exact W.iret (v := nI (to k2)) hx hb hr (fun t ht _ => ⟨_, rfl, by simp [A_ofCall, ix_in (k := k2) (n := n) (by omega) (by omega), nI_ne, sw0], ht⟩) (fun _ h9 => by cases h9) dX7_ofCall_55
      · skip
        refine lv_lookup (tgt := 56) (off := 45) hx hb dX7_ofCall_11 (by decide) ((lv_osw w11_0 rfl).trans ( (lv_osw w11_1 rfl).trans (rfl))) (by decide) ?_
        refine lv_bipush (v := (-2)) hx hb dX7_ofCall_56 (by decide) ?_
        exact W.iret (v := (-2)) hx hb hr (fun t ht _ => ⟨_, rfl, by simp [A_ofCall, ix_in (k := k2) (n := n) (by omega) (by omega), w11_0, w11_1, nI_ne, sw0], ht⟩) (fun _ h9 => by cases h9) dX7_ofCall_58
  · skip
    refine lv_if_ne (tgt := 10) hx hb dX7_ofCall_5 (by decide) (fun c9 => absurd c9 (by decide)) (fun _ => ?_)
    refine lv_iconst (v := (-1)) hx hb dX7_ofCall_8 (by decide) ?_
    exact W.iret (v := (-1)) hx hb hr (fun t ht _ => ⟨_, rfl, by simp [A_ofCall, ix_out b2, nI_ne, sw0], ht⟩) (fun _ h9 => by cases h9) dX7_ofCall_9
set_option maxHeartbeats 4000000 in
set_option maxRecDepth 100000 in
theorem c_X7_kind (G : GG) (l : Launch) (o : Nat) (fs : List Value) (qc : Nat) (gs : List Value) (qf qt n : Nat) (fr to : Nat → Nat) (g0 : gs[0]? = some (.ref qf)) (g1 : gs[1]? = some (.ref qt)) (g2 : gs[2]? = some (.int (nI n))) (hn : n ≤ 24) (qp np : Nat) (pf : Nat → Option Nat) (pa pw pd cO : Nat → Nat) (mO aO rO pO : Nat → Int32) (wy ad : Nat → Nat → Nat) (tl : va_W) (hp : np ≤ 8) (hpl : ∀ k, k < np → pf k = some (pa k) ∧ PlC G tl pa pw pd cO mO aO rO pO wy ad k) (hc : ∀ k, k < np → cO k ≤ 24) (x : Int32) (y : Int32) (f0 : fs[0]? = some (.ref qc)) (f1 : fs[1]? = some (.ref qp)) (f7 : fs[7]? = some (.int (nI np))) : Met l yX7_kind wsX7_kind { frames := 2, cells := 0, slots := 0, locals := 43 } (RPc G [.ref o, .int x, .int y] ([(o, ob 7 fs), (qc, ob 1 gs), (qf, iA G 24 (fun j => nI (fr j))), (qt, iA G 24 (fun j => nI (to j))), (qp, pA G 8 pf)] ++ tl)) (vp_Si (fun r => r = A_kind n np cO mO aO rO fr to x y)) 0 0 (fun _ => False) := by
  refine Met.ofW (cc := cX7_kind) (maxL := 4) (ret := (some .int)) (by decide) rfl ?_
  intro p e s m args below meth c s₁ B hml hv
  obtain ⟨rfl, hP, hK⟩ := hv
  have hx := B.exec
  have hb := B.bytes
  have hr := B.returns
  have hts := atoms_spec (ws := wsX7_kind) B.pre
  have hown : s.vm.findClass RX7 = some m.cls := findClass_of_methodNamed B.named
  have hlocks := B.notSynchronized
  have hl := lv_entry ([.ref o, .int x, .int y]) (n := 4) (Nat.le_of_ble_eq_true rfl)
  rw [lg_entry_eq]
  generalize (lg_sl ([.ref o, .int x, .int y]) ++ List.replicate (4 - (lg_sl ([.ref o, .int x, .int y])).length) Slot.unset).toArray = ls at hl ⊢
  have hl : lv_has ls 4 [(0, .ref o), (1, .int x), (2, .int y)] := hl
  refine lv_aload_n hx hb dX7_kind_0 rfl (lv_at hl 0 rfl) ?_
  refine lv_iload_n hx hb dX7_kind_1 rfl (lv_at hl 1 rfl) ?_
  have hP_1 : PP G [(o, ob 7 fs), (qp, pA G 8 pf)] s.heap := hP.sub [0, 4] rfl
  refine csq (va_runV (As := [.int x]) (rest := []) ⟨hx, hb, hml, hown, hts⟩ (c_X7_planOf G l o qp np fs x pf f1 f7 (by omega)) (cwV 1 hts gX7_kind_X7_planOf rfl rfl rfl (by decide +kernel) ⟨Nat.le_of_ble_eq_true rfl, Nat.le_of_ble_eq_true rfl⟩) (preRV hK hP_1 0 7 rfl rfl) rfl rfl hl.1 rfl (lv_room (Nat.le_of_ble_eq_true rfl)) dX7_kind_2 ⟨Nat.zero_le _, Nat.zero_le _⟩) (fun r_2 h_3 => ?_)
  rcases h_3 with ⟨k2, b2, rfl, rfl⟩ | ⟨rfl, b2⟩
  · skip
    rw [show va_rf (pf k2) = .ref (pa k2) from by rw [(hpl k2 b2).1]; rfl]
    have hX2 : PP G [((pa k2), ob 4 [.ref (pw k2), .ref (pd k2), .int (nI (cO k2)), .int (mO k2), .int (aO k2), .int (rO k2), .int (pO k2)]), ((pw k2), iA G 10 (fun j => nI ((wy k2) j))), ((pd k2), iA G 24 (fun j => nI ((ad k2) j)))] s.heap := hP.tl (hpl k2 b2).2
    refine lv_astore_n (lv' := [(3, .ref (pa k2)), (0, .ref o), (1, .int (nI k2)), (2, .int y)]) hx hb dX7_kind_5 rfl hl (by decide) rfl (fun ls hl => ?_)
    refine lv_aload_n hx hb dX7_kind_6 rfl (lv_at hl 0 rfl) ?_
    refine lv_ifnull hx hb dX7_kind_7 ?_
    refine lv_aload_n hx hb dX7_kind_10 rfl (lv_at hl 1 rfl) ?_
    refine lv_iload_n hx hb dX7_kind_11 rfl (lv_at hl 3 rfl) ?_
    have hP_4 : PP G [(o, ob 7 fs), (qc, ob 1 gs)] s.heap := hP.sub [0, 1] rfl
    refine csi (va_runV (As := [.int y]) (rest := []) ⟨hx, hb, hml, hown, hts⟩ (c_X7_isCall G l o qc n fs gs y f0 g2 (by omega)) (cwV 1 hts gX7_kind_X7_isCall rfl rfl rfl (by decide +kernel) ⟨Nat.le_of_ble_eq_true rfl, Nat.le_of_ble_eq_true rfl⟩) (preRV hK hP_4 0 7 rfl rfl) rfl rfl hl.1 rfl (lv_room (Nat.le_of_ble_eq_true rfl)) dX7_kind_12 ⟨Nat.zero_le _, Nat.zero_le _⟩) (fun r_5 h_6 => ?_)
    rcases h_6 with ⟨rfl, k12, b12, rfl⟩ | ⟨rfl, b12⟩
    · skip
      refine lv_if_ne (tgt := 20) hx hb dX7_kind_15 (by decide) (fun _ => ?_) (fun c9 => absurd c9 (by decide))
      have hck := hc k2 b2
      refine lv_aload_n hx hb dX7_kind_20 rfl (lv_at hl 0 rfl) ?_
      refine lv_aload_n hx hb dX7_kind_21 rfl (lv_at hl 1 rfl) ?_
      refine va_get (D := G.1) (ci := 7) (v := .ref qc) (C := RX7) (T := TX7) (N := 10) hx hb hts (by decide +kernel) hown hK.1 hP 0 rfl rfl 0 (by decide) (hts (.fieldLink RX7 10 "CallNumbers" "calls" "LCallNumbers$Calls;") (by decide +kernel)) (fun _ h9 => h9) f0 dX7_kind_22 ?_
      refine lv_iload_n hx hb dX7_kind_25 rfl (lv_at hl 3 rfl) ?_
      have hY26 : PP G [((pa k2), ob 4 [.ref (pw k2), .ref (pd k2), .int (nI (cO k2)), .int (mO k2), .int (aO k2), .int (rO k2), .int (pO k2)]), (qc, ob 1 gs), (qf, iA G 24 (fun j => nI (fr j))), (qt, iA G 24 (fun j => nI (to j)))] s.heap := va_P.app (hX2.sub [0] rfl) (hP.sub [1, 2, 3] rfl)
      refine csi (va_runVN (As := [.ref qc, .int (nI k12)]) (rest := []) ⟨hx, hb, hml, hown, hts⟩ (c_X4_kindOf G l (pa k2) qc qf qt (cO k2) k12 [.ref (pw k2), .ref (pd k2), .int (nI (cO k2)), .int (mO k2), .int (aO k2), .int (rO k2), .int (pO k2)] gs fr to (mO k2) (aO k2) (rO k2) rfl rfl rfl rfl g0 g1 (by omega) (by omega)) (⟨va_cnB 2 hts gX7_kind_X4_kindOf_n87 rfl rfl rfl (hK.2.1.m 10 rfl) (hts (.initialized RX4) (by decide +kernel)) (by decide +kernel) ⟨Nat.le_of_ble_eq_true rfl, Nat.le_of_ble_eq_true rfl⟩, hts (.instanceMethod yX4_kindOf) (by decide +kernel), hts (.selects RX4 yX4_kindOf yX4_kindOf) (by decide +kernel)⟩) (preRV hK hY26 0 4 rfl rfl) rfl rfl hl.1 rfl (lv_room (Nat.le_of_ble_eq_true rfl)) dX7_kind_26 ⟨Nat.zero_le _, Nat.zero_le _⟩) (fun r_7 h_8 => ?_)
      obtain rfl : r_7 = nI (kindF (rO k2) (mO k2) (aO k2) (cO k2) fr to k12) := h_8
      exact W.iret (v := nI (kindF (rO k2) (mO k2) (aO k2) (cO k2) fr to k12)) hx hb hr (fun t ht _ => ⟨_, rfl, by simp [A_kind, ix_in (k := k2) (n := np) (by omega) (by omega), ix_in (k := k12) (n := n) (by omega) (by omega)], ht⟩) (fun _ h9 => by cases h9) dX7_kind_29
    · skip
      refine lv_if_ne (tgt := 20) hx hb dX7_kind_15 (by decide) (fun c9 => absurd c9 (by decide)) (fun _ => ?_)
      refine lv_iconst (v := (-1)) hx hb dX7_kind_18 (by decide) ?_
      exact W.iret (v := (-1)) hx hb hr (fun t ht _ => ⟨_, rfl, by simp [A_kind, ix_in (k := k2) (n := np) (by omega) (by omega), ix_out b12], ht⟩) (fun _ h9 => by cases h9) dX7_kind_19
  · skip
    refine lv_astore_nN (lv' := [(3, .null), (0, .ref o), (1, .int x), (2, .int y)]) hx hb dX7_kind_5 rfl hl (by decide) rfl (fun ls hl => ?_)
    refine lv_aload_nN hx hb dX7_kind_6 rfl (lv_at hl 0 rfl) ?_
    refine lv_ifnullN (tgt := 18) hx hb dX7_kind_7 (by decide) ?_
    refine lv_iconst (v := (-1)) hx hb dX7_kind_18 (by decide) ?_
    exact W.iret (v := (-1)) hx hb hr (fun t ht _ => ⟨_, rfl, by simp [A_kind, ix_out b2], ht⟩) (fun _ h9 => by cases h9) dX7_kind_19
set_option maxHeartbeats 4000000 in
set_option maxRecDepth 100000 in
theorem c_X7_adds (G : GG) (l : Launch) (o : Nat) (fs : List Value) (qc : Nat) (gs : List Value) (qf qt n : Nat) (fr to : Nat → Nat) (g0 : gs[0]? = some (.ref qf)) (g1 : gs[1]? = some (.ref qt)) (g2 : gs[2]? = some (.int (nI n))) (hn : n ≤ 24) (qp np : Nat) (pf : Nat → Option Nat) (pa pw pd cO : Nat → Nat) (mO aO rO pO : Nat → Int32) (wy ad : Nat → Nat → Nat) (tl : va_W) (hp : np ≤ 8) (hpl : ∀ k, k < np → pf k = some (pa k) ∧ PlC G tl pa pw pd cO mO aO rO pO wy ad k) (x : Int32) (y : Int32) (f0 : fs[0]? = some (.ref qc)) (f1 : fs[1]? = some (.ref qp)) (f7 : fs[7]? = some (.int (nI np))) : Met l yX7_adds wsX7_adds { frames := 1, cells := 0, slots := 0, locals := 21 } (RPc G [.ref o, .int x, .int y] ([(o, ob 7 fs), (qc, ob 1 gs), (qf, iA G 24 (fun j => nI (fr j))), (qt, iA G 24 (fun j => nI (to j))), (qp, pA G 8 pf)] ++ tl)) (vp_Si (fun r => r = A_adds n np pO ad x y)) 0 0 (fun _ => False) := by
  refine Met.ofW (cc := cX7_adds) (maxL := 4) (ret := (some .int)) (by decide) rfl ?_
  intro p e s m args below meth c s₁ B hml hv
  obtain ⟨rfl, hP, hK⟩ := hv
  have hx := B.exec
  have hb := B.bytes
  have hr := B.returns
  have hts := atoms_spec (ws := wsX7_adds) B.pre
  have hown : s.vm.findClass RX7 = some m.cls := findClass_of_methodNamed B.named
  have hlocks := B.notSynchronized
  have hl := lv_entry ([.ref o, .int x, .int y]) (n := 4) (Nat.le_of_ble_eq_true rfl)
  rw [lg_entry_eq]
  generalize (lg_sl ([.ref o, .int x, .int y]) ++ List.replicate (4 - (lg_sl ([.ref o, .int x, .int y])).length) Slot.unset).toArray = ls at hl ⊢
  have hl : lv_has ls 4 [(0, .ref o), (1, .int x), (2, .int y)] := hl
  refine lv_aload_n hx hb dX7_adds_0 rfl (lv_at hl 0 rfl) ?_
  refine lv_iload_n hx hb dX7_adds_1 rfl (lv_at hl 1 rfl) ?_
  have hP_1 : PP G [(o, ob 7 fs), (qp, pA G 8 pf)] s.heap := hP.sub [0, 4] rfl
  refine csq (va_runV (As := [.int x]) (rest := []) ⟨hx, hb, hml, hown, hts⟩ (c_X7_planOf G l o qp np fs x pf f1 f7 (by omega)) (cwV 1 hts gX7_adds_X7_planOf rfl rfl rfl (by decide +kernel) ⟨Nat.le_of_ble_eq_true rfl, Nat.le_of_ble_eq_true rfl⟩) (preRV hK hP_1 0 7 rfl rfl) rfl rfl hl.1 rfl (lv_room (Nat.le_of_ble_eq_true rfl)) dX7_adds_2 ⟨Nat.zero_le _, Nat.zero_le _⟩) (fun r_2 h_3 => ?_)
  rcases h_3 with ⟨k2, b2, rfl, rfl⟩ | ⟨rfl, b2⟩
  · skip
    rw [show va_rf (pf k2) = .ref (pa k2) from by rw [(hpl k2 b2).1]; rfl]
    have hX2 : PP G [((pa k2), ob 4 [.ref (pw k2), .ref (pd k2), .int (nI (cO k2)), .int (mO k2), .int (aO k2), .int (rO k2), .int (pO k2)]), ((pw k2), iA G 10 (fun j => nI ((wy k2) j))), ((pd k2), iA G 24 (fun j => nI ((ad k2) j)))] s.heap := hP.tl (hpl k2 b2).2
    refine lv_astore_n (lv' := [(3, .ref (pa k2)), (0, .ref o), (1, .int (nI k2)), (2, .int y)]) hx hb dX7_adds_5 rfl hl (by decide) rfl (fun ls hl => ?_)
    refine lv_aload_n hx hb dX7_adds_6 rfl (lv_at hl 0 rfl) ?_
    refine lv_ifnull hx hb dX7_adds_7 ?_
    refine lv_aload_n hx hb dX7_adds_10 rfl (lv_at hl 1 rfl) ?_
    refine lv_iload_n hx hb dX7_adds_11 rfl (lv_at hl 3 rfl) ?_
    have hP_4 : PP G [(o, ob 7 fs), (qc, ob 1 gs)] s.heap := hP.sub [0, 1] rfl
    refine csi (va_runV (As := [.int y]) (rest := []) ⟨hx, hb, hml, hown, hts⟩ (c_X7_isCall G l o qc n fs gs y f0 g2 (by omega)) (cwV 1 hts gX7_adds_X7_isCall rfl rfl rfl (by decide +kernel) ⟨Nat.le_of_ble_eq_true rfl, Nat.le_of_ble_eq_true rfl⟩) (preRV hK hP_4 0 7 rfl rfl) rfl rfl hl.1 rfl (lv_room (Nat.le_of_ble_eq_true rfl)) dX7_adds_12 ⟨Nat.zero_le _, Nat.zero_le _⟩) (fun r_5 h_6 => ?_)
    rcases h_6 with ⟨rfl, k12, b12, rfl⟩ | ⟨rfl, b12⟩
    · skip
      refine lv_if_ne (tgt := 20) hx hb dX7_adds_15 (by decide) (fun _ => ?_) (fun c9 => absurd c9 (by decide))
      refine lv_aload_n hx hb dX7_adds_20 rfl (lv_at hl 0 rfl) ?_
      refine va_getN (D := G.1) (ci := 4) (v := .int (pO k2)) (C := RX4) (T := TX4) (N := 7) hx hb hts (by decide +kernel) hown hK.1 hX2 0 rfl rfl 6 (by decide) (hK.2.1.f 36 rfl) (fun _ h9 => h9) rfl dX7_adds_21 ?_
      refine lv_iload_n hx hb dX7_adds_24 rfl (lv_at hl 3 rfl) ?_
      have hP_7 : PP G [] s.heap := hP.sub [] rfl
      refine csi (va_runS (As := [.int (pO k2), .int (nI k12)]) (rest := []) ⟨hx, hb, hml, hown, hts⟩ (c_X7_has G l (pO k2) k12) (va_cwS 2 hts gX7_adds_X7_has rfl rfl rfl (by decide +kernel) ⟨Nat.le_of_ble_eq_true rfl, Nat.le_of_ble_eq_true rfl⟩) (preR hK hP_7) rfl rfl hl.1 rfl (lv_room (Nat.le_of_ble_eq_true rfl)) dX7_adds_25 ⟨Nat.zero_le _, Nat.zero_le _⟩) (fun r_8 h_9 => ?_)
      rcases h_9 with ⟨rfl, g25⟩ | ⟨rfl, g25⟩
      · skip
        refine lv_if_eq (tgt := 40) hx hb dX7_adds_28 (by decide) (fun c9 => absurd c9 (by decide)) (fun _ => ?_)
        refine lv_aload_n hx hb dX7_adds_31 rfl (lv_at hl 0 rfl) ?_
        refine va_getN (D := G.1) (ci := 4) (v := .ref (pd k2)) (C := RX4) (T := TX4) (N := 7) hx hb hts (by decide +kernel) hown hK.1 hX2 0 rfl rfl 1 (by decide) (hK.2.1.f 29 rfl) (fun _ h9 => h9) rfl dX7_adds_32 ?_
        refine lv_iload_n hx hb dX7_adds_35 rfl (lv_at hl 3 rfl) ?_
        refine ialdN (k := k12) (f := (ad k2)) hx hb hK.1 hX2 2 0 rfl rfl (rfl) (by omega) (Nat.le_of_ble_eq_true rfl) dX7_adds_36 ?_
        refine lv_goto (tgt := 42) hx hb dX7_adds_37 (by decide) ?_
        exact W.iret (v := nI ((ad k2) k12)) hx hb hr (fun t ht _ => ⟨_, rfl, by simp [A_adds, ix_in (k := k2) (n := np) (by omega) (by omega), ix_in (k := k12) (n := n) (by omega) (by omega), g25], ht⟩) (fun _ h9 => by cases h9) dX7_adds_42
      · skip
        refine lv_if_eq (tgt := 40) hx hb dX7_adds_28 (by decide) (fun _ => ?_) (fun c9 => absurd c9 (by decide))
        refine lv_bipush (v := (-9)) hx hb dX7_adds_40 (by decide) ?_
        exact W.iret (v := (-9)) hx hb hr (fun t ht _ => ⟨_, rfl, by simp [A_adds, ix_in (k := k2) (n := np) (by omega) (by omega), ix_in (k := k12) (n := n) (by omega) (by omega), g25], ht⟩) (fun _ h9 => by cases h9) dX7_adds_42
    · skip
      refine lv_if_ne (tgt := 20) hx hb dX7_adds_15 (by decide) (fun c9 => absurd c9 (by decide)) (fun _ => ?_)
      refine lv_iconst (v := (-1)) hx hb dX7_adds_18 (by decide) ?_
      exact W.iret (v := (-1)) hx hb hr (fun t ht _ => ⟨_, rfl, by simp [A_adds, ix_in (k := k2) (n := np) (by omega) (by omega), ix_out b12], ht⟩) (fun _ h9 => by cases h9) dX7_adds_19
  · skip
    refine lv_astore_nN (lv' := [(3, .null), (0, .ref o), (1, .int x), (2, .int y)]) hx hb dX7_adds_5 rfl hl (by decide) rfl (fun ls hl => ?_)
    refine lv_aload_nN hx hb dX7_adds_6 rfl (lv_at hl 0 rfl) ?_
    refine lv_ifnullN (tgt := 18) hx hb dX7_adds_7 (by decide) ?_
    refine lv_iconst (v := (-1)) hx hb dX7_adds_18 (by decide) ?_
    exact W.iret (v := (-1)) hx hb hr (fun t ht _ => ⟨_, rfl, by simp [A_adds, ix_out b2], ht⟩) (fun _ h9 => by cases h9) dX7_adds_19
set_option maxHeartbeats 4000000 in
set_option maxRecDepth 100000 in
theorem c_X7_ways (G : GG) (l : Launch) (o : Nat) (fs : List Value) (qp np : Nat) (pf : Nat → Option Nat) (pa pw pd cO : Nat → Nat) (mO aO rO pO : Nat → Int32) (wy ad : Nat → Nat → Nat) (tl : va_W) (hp : np ≤ 8) (hpl : ∀ k, k < np → pf k = some (pa k) ∧ PlC G tl pa pw pd cO mO aO rO pO wy ad k) (x : Int32) (y : Int32) (f1 : fs[1]? = some (.ref qp)) (f7 : fs[7]? = some (.int (nI np))) : Met l yX7_ways wsX7_ways { frames := 1, cells := 0, slots := 0, locals := 21 } (RPc G [.ref o, .int x, .int y] ([(o, ob 7 fs), (qp, pA G 8 pf)] ++ tl)) (vp_Si (fun r => r = A_ways np wy x y)) 0 0 (fun _ => False) := by
  refine Met.ofW (cc := cX7_ways) (maxL := 4) (ret := (some .int)) (by decide) rfl ?_
  intro p e s m args below meth c s₁ B hml hv
  obtain ⟨rfl, hP, hK⟩ := hv
  have hx := B.exec
  have hb := B.bytes
  have hr := B.returns
  have hts := atoms_spec (ws := wsX7_ways) B.pre
  have hown : s.vm.findClass RX7 = some m.cls := findClass_of_methodNamed B.named
  have hlocks := B.notSynchronized
  have hl := lv_entry ([.ref o, .int x, .int y]) (n := 4) (Nat.le_of_ble_eq_true rfl)
  rw [lg_entry_eq]
  generalize (lg_sl ([.ref o, .int x, .int y]) ++ List.replicate (4 - (lg_sl ([.ref o, .int x, .int y])).length) Slot.unset).toArray = ls at hl ⊢
  have hl : lv_has ls 4 [(0, .ref o), (1, .int x), (2, .int y)] := hl
  refine lv_aload_n hx hb dX7_ways_0 rfl (lv_at hl 0 rfl) ?_
  refine lv_iload_n hx hb dX7_ways_1 rfl (lv_at hl 1 rfl) ?_
  have hP_1 : PP G [(o, ob 7 fs), (qp, pA G 8 pf)] s.heap := hP.sub [0, 1] rfl
  refine csq (va_runV (As := [.int x]) (rest := []) ⟨hx, hb, hml, hown, hts⟩ (c_X7_planOf G l o qp np fs x pf f1 f7 (by omega)) (cwV 1 hts gX7_ways_X7_planOf rfl rfl rfl (by decide +kernel) ⟨Nat.le_of_ble_eq_true rfl, Nat.le_of_ble_eq_true rfl⟩) (preRV hK hP_1 0 7 rfl rfl) rfl rfl hl.1 rfl (lv_room (Nat.le_of_ble_eq_true rfl)) dX7_ways_2 ⟨Nat.zero_le _, Nat.zero_le _⟩) (fun r_2 h_3 => ?_)
  rcases h_3 with ⟨k2, b2, rfl, rfl⟩ | ⟨rfl, b2⟩
  · skip
    rw [show va_rf (pf k2) = .ref (pa k2) from by rw [(hpl k2 b2).1]; rfl]
    have hX2 : PP G [((pa k2), ob 4 [.ref (pw k2), .ref (pd k2), .int (nI (cO k2)), .int (mO k2), .int (aO k2), .int (rO k2), .int (pO k2)]), ((pw k2), iA G 10 (fun j => nI ((wy k2) j))), ((pd k2), iA G 24 (fun j => nI ((ad k2) j)))] s.heap := hP.tl (hpl k2 b2).2
    refine lv_astore_n (lv' := [(3, .ref (pa k2)), (0, .ref o), (1, .int (nI k2)), (2, .int y)]) hx hb dX7_ways_5 rfl hl (by decide) rfl (fun ls hl => ?_)
    refine lv_aload_n hx hb dX7_ways_6 rfl (lv_at hl 0 rfl) ?_
    refine lv_ifnull hx hb dX7_ways_7 ?_
    refine lv_iload_n hx hb dX7_ways_10 rfl (lv_at hl 3 rfl) ?_
    have hP_4 : PP G [] s.heap := hP.sub [] rfl
    refine csi (va_runS (As := [.int y]) (rest := []) ⟨hx, hb, hml, hown, hts⟩ (c_X7_isRoutine G l y) (va_cwS 1 hts gX7_ways_X7_isRoutine rfl rfl rfl (by decide +kernel) ⟨Nat.le_of_ble_eq_true rfl, Nat.le_of_ble_eq_true rfl⟩) (preR hK hP_4) rfl rfl hl.1 rfl (lv_room (Nat.le_of_ble_eq_true rfl)) dX7_ways_11 ⟨Nat.zero_le _, Nat.zero_le _⟩) (fun r_5 h_6 => ?_)
    rcases h_6 with ⟨rfl, k11, b11, rfl⟩ | ⟨rfl, b11⟩
    · skip
      refine lv_if_ne (tgt := 19) hx hb dX7_ways_14 (by decide) (fun _ => ?_) (fun c9 => absurd c9 (by decide))
      refine lv_aload_n hx hb dX7_ways_19 rfl (lv_at hl 0 rfl) ?_
      refine va_getN (D := G.1) (ci := 4) (v := .ref (pw k2)) (C := RX4) (T := TX4) (N := 7) hx hb hts (by decide +kernel) hown hK.1 hX2 0 rfl rfl 0 (by decide) (hK.2.1.f 26 rfl) (fun _ h9 => h9) rfl dX7_ways_20 ?_
      refine lv_iload_n hx hb dX7_ways_23 rfl (lv_at hl 3 rfl) ?_
      refine ialdN (k := k11) (f := (wy k2)) hx hb hK.1 hX2 1 0 rfl rfl (rfl) (by omega) (Nat.le_of_ble_eq_true rfl) dX7_ways_24 ?_
      exact W.iret (v := nI ((wy k2) k11)) hx hb hr (fun t ht _ => ⟨_, rfl, by simp [A_ways, ix_in (k := k2) (n := np) (by omega) (by omega), ix_in (k := k11) (n := 10) (by omega) (by omega)], ht⟩) (fun _ h9 => by cases h9) dX7_ways_25
    · skip
      refine lv_if_ne (tgt := 19) hx hb dX7_ways_14 (by decide) (fun c9 => absurd c9 (by decide)) (fun _ => ?_)
      refine lv_iconst (v := (-1)) hx hb dX7_ways_17 (by decide) ?_
      exact W.iret (v := (-1)) hx hb hr (fun t ht _ => ⟨_, rfl, by simp [A_ways, ix_in (k := k2) (n := np) (by omega) (by omega), ix_out b11], ht⟩) (fun _ h9 => by cases h9) dX7_ways_18
  · skip
    refine lv_astore_nN (lv' := [(3, .null), (0, .ref o), (1, .int x), (2, .int y)]) hx hb dX7_ways_5 rfl hl (by decide) rfl (fun ls hl => ?_)
    refine lv_aload_nN hx hb dX7_ways_6 rfl (lv_at hl 0 rfl) ?_
    refine lv_ifnullN (tgt := 17) hx hb dX7_ways_7 (by decide) ?_
    refine lv_iconst (v := (-1)) hx hb dX7_ways_17 (by decide) ?_
    exact W.iret (v := (-1)) hx hb hr (fun t ht _ => ⟨_, rfl, by simp [A_ways, ix_out b2], ht⟩) (fun _ h9 => by cases h9) dX7_ways_18
set_option maxHeartbeats 4000000 in
set_option maxRecDepth 100000 in
theorem c_X7_ofPlan (G : GG) (l : Launch) (o : Nat) (fs : List Value) (qp np : Nat) (pf : Nat → Option Nat) (pa pw pd cO : Nat → Nat) (mO aO rO pO : Nat → Int32) (wy ad : Nat → Nat → Nat) (tl : va_W) (hp : np ≤ 8) (hpl : ∀ k, k < np → pf k = some (pa k) ∧ PlC G tl pa pw pd cO mO aO rO pO wy ad k) (x : Int32) (y : Int32) (f1 : fs[1]? = some (.ref qp)) (f7 : fs[7]? = some (.int (nI np))) : Met l yX7_ofPlan wsX7_ofPlan { frames := 1, cells := 0, slots := 0, locals := 21 } (RPc G [.ref o, .int x, .int y] ([(o, ob 7 fs), (qp, pA G 8 pf)] ++ tl)) (vp_Si (fun r => r = A_ofPlan np mO aO rO pO x y)) 0 0 (fun _ => False) := by
  refine Met.ofW (cc := cX7_ofPlan) (maxL := 4) (ret := (some .int)) (by decide) rfl ?_
  intro p e s m args below meth c s₁ B hml hv
  obtain ⟨rfl, hP, hK⟩ := hv
  have hx := B.exec
  have hb := B.bytes
  have hr := B.returns
  have hts := atoms_spec (ws := wsX7_ofPlan) B.pre
  have hown : s.vm.findClass RX7 = some m.cls := findClass_of_methodNamed B.named
  have hlocks := B.notSynchronized
  have hl := lv_entry ([.ref o, .int x, .int y]) (n := 4) (Nat.le_of_ble_eq_true rfl)
  rw [lg_entry_eq]
  generalize (lg_sl ([.ref o, .int x, .int y]) ++ List.replicate (4 - (lg_sl ([.ref o, .int x, .int y])).length) Slot.unset).toArray = ls at hl ⊢
  have hl : lv_has ls 4 [(0, .ref o), (1, .int x), (2, .int y)] := hl
  refine lv_aload_n hx hb dX7_ofPlan_0 rfl (lv_at hl 0 rfl) ?_
  refine lv_iload_n hx hb dX7_ofPlan_1 rfl (lv_at hl 1 rfl) ?_
  have hP_1 : PP G [(o, ob 7 fs), (qp, pA G 8 pf)] s.heap := hP.sub [0, 1] rfl
  refine csq (va_runV (As := [.int x]) (rest := []) ⟨hx, hb, hml, hown, hts⟩ (c_X7_planOf G l o qp np fs x pf f1 f7 (by omega)) (cwV 1 hts gX7_ofPlan_X7_planOf rfl rfl rfl (by decide +kernel) ⟨Nat.le_of_ble_eq_true rfl, Nat.le_of_ble_eq_true rfl⟩) (preRV hK hP_1 0 7 rfl rfl) rfl rfl hl.1 rfl (lv_room (Nat.le_of_ble_eq_true rfl)) dX7_ofPlan_2 ⟨Nat.zero_le _, Nat.zero_le _⟩) (fun r_2 h_3 => ?_)
  rcases h_3 with ⟨k2, b2, rfl, rfl⟩ | ⟨rfl, b2⟩
  · skip
    rw [show va_rf (pf k2) = .ref (pa k2) from by rw [(hpl k2 b2).1]; rfl]
    have hX2 : PP G [((pa k2), ob 4 [.ref (pw k2), .ref (pd k2), .int (nI (cO k2)), .int (mO k2), .int (aO k2), .int (rO k2), .int (pO k2)]), ((pw k2), iA G 10 (fun j => nI ((wy k2) j))), ((pd k2), iA G 24 (fun j => nI ((ad k2) j)))] s.heap := hP.tl (hpl k2 b2).2
    refine lv_astore_n (lv' := [(3, .ref (pa k2)), (0, .ref o), (1, .int (nI k2)), (2, .int y)]) hx hb dX7_ofPlan_5 rfl hl (by decide) rfl (fun ls hl => ?_)
    refine lv_aload_n hx hb dX7_ofPlan_6 rfl (lv_at hl 0 rfl) ?_
    refine lv_ifnonnull (tgt := 12) hx hb dX7_ofPlan_7 (by decide) ?_
    refine lv_iload_n hx hb dX7_ofPlan_12 rfl (lv_at hl 3 rfl) ?_
    by_cases w13_0 : y = nI 0
    · skip
      subst w13_0
      refine lv_tableIn (tgt := 44) hx hb dX7_ofPlan_13 (by decide) (by decide) (off := 31) rfl (by decide) ?_
      refine lv_aload_n hx hb dX7_ofPlan_44 rfl (lv_at hl 0 rfl) ?_
      refine va_getN (D := G.1) (ci := 4) (v := .int (mO k2)) (C := RX4) (T := TX4) (N := 7) hx hb hts (by decide +kernel) hown hK.1 hX2 0 rfl rfl 3 (by decide) (hK.2.1.f 31 rfl) (fun _ h9 => h9) rfl dX7_ofPlan_45 ?_
      exact W.iret (v := (mO k2)) hx hb hr (fun t ht _ => ⟨_, rfl, by simp [A_ofPlan, ix_in (k := k2) (n := np) (by omega) (by omega), nI_ne, sw0], ht⟩) (fun _ h9 => by cases h9) dX7_ofPlan_48
    · skip
      by_cases w13_1 : y = nI 1
      · skip
        subst w13_1
        refine lv_tableIn (tgt := 49) hx hb dX7_ofPlan_13 (by decide) (by decide) (off := 36) rfl (by decide) ?_
        refine lv_aload_n hx hb dX7_ofPlan_49 rfl (lv_at hl 0 rfl) ?_
        refine va_getN (D := G.1) (ci := 4) (v := .int (aO k2)) (C := RX4) (T := TX4) (N := 7) hx hb hts (by decide +kernel) hown hK.1 hX2 0 rfl rfl 4 (by decide) (hK.2.1.f 32 rfl) (fun _ h9 => h9) rfl dX7_ofPlan_50 ?_
        exact W.iret (v := (aO k2)) hx hb hr (fun t ht _ => ⟨_, rfl, by simp [A_ofPlan, ix_in (k := k2) (n := np) (by omega) (by omega), nI_ne, sw0], ht⟩) (fun _ h9 => by cases h9) dX7_ofPlan_53
      · skip
        by_cases w13_2 : y = nI 2
        · skip
          subst w13_2
          refine lv_tableIn (tgt := 54) hx hb dX7_ofPlan_13 (by decide) (by decide) (off := 41) rfl (by decide) ?_
          refine lv_aload_n hx hb dX7_ofPlan_54 rfl (lv_at hl 0 rfl) ?_
          refine va_getN (D := G.1) (ci := 4) (v := .int (rO k2)) (C := RX4) (T := TX4) (N := 7) hx hb hts (by decide +kernel) hown hK.1 hX2 0 rfl rfl 5 (by decide) (hK.2.1.f 33 rfl) (fun _ h9 => h9) rfl dX7_ofPlan_55 ?_
          exact W.iret (v := (rO k2)) hx hb hr (fun t ht _ => ⟨_, rfl, by simp [A_ofPlan, ix_in (k := k2) (n := np) (by omega) (by omega), nI_ne, sw0], ht⟩) (fun _ h9 => by cases h9) dX7_ofPlan_58
        · skip
          by_cases w13_3 : y = nI 3
          · skip
            subst w13_3
            refine lv_tableIn (tgt := 59) hx hb dX7_ofPlan_13 (by decide) (by decide) (off := 46) rfl (by decide) ?_
            refine lv_aload_n hx hb dX7_ofPlan_59 rfl (lv_at hl 0 rfl) ?_
            refine va_getN (D := G.1) (ci := 4) (v := .int (pO k2)) (C := RX4) (T := TX4) (N := 7) hx hb hts (by decide +kernel) hown hK.1 hX2 0 rfl rfl 6 (by decide) (hK.2.1.f 36 rfl) (fun _ h9 => h9) rfl dX7_ofPlan_60 ?_
            exact W.iret (v := (pO k2)) hx hb hr (fun t ht _ => ⟨_, rfl, by simp [A_ofPlan, ix_in (k := k2) (n := np) (by omega) (by omega), nI_ne, sw0], ht⟩) (fun _ h9 => by cases h9) dX7_ofPlan_63
          · skip
            refine lv_tableOut (tgt := 64) hx hb dX7_ofPlan_13 (tb_out y 3 rfl (fun k hk => by rcases (show k = 0 ∨ k = 1 ∨ k = 2 ∨ k = 3 by omega) with rfl | rfl | rfl | rfl <;> assumption) (by decide)) (by decide) ?_
            refine lv_bipush (v := (-2)) hx hb dX7_ofPlan_64 (by decide) ?_
            exact W.iret (v := (-2)) hx hb hr (fun t ht _ => ⟨_, rfl, by simp [A_ofPlan, ix_in (k := k2) (n := np) (by omega) (by omega), w13_0, w13_1, w13_2, w13_3, nI_ne, sw0], ht⟩) (fun _ h9 => by cases h9) dX7_ofPlan_66
  · skip
    refine lv_astore_nN (lv' := [(3, .null), (0, .ref o), (1, .int x), (2, .int y)]) hx hb dX7_ofPlan_5 rfl hl (by decide) rfl (fun ls hl => ?_)
    refine lv_aload_nN hx hb dX7_ofPlan_6 rfl (lv_at hl 0 rfl) ?_
    refine lv_ifnonnullN hx hb dX7_ofPlan_7 ?_
    refine lv_iconst (v := (-1)) hx hb dX7_ofPlan_10 (by decide) ?_
    exact W.iret (v := (-1)) hx hb hr (fun t ht _ => ⟨_, rfl, by simp [A_ofPlan, ix_out b2, nI_ne, sw0], ht⟩) (fun _ h9 => by cases h9) dX7_ofPlan_11
set_option maxHeartbeats 4000000 in
set_option maxRecDepth 100000 in
theorem c_X7_running (G : GG) (l : Launch) (o : Nat) (fs : List Value) (qs : Nat) (hs : List Value) (qr dp : Nat) (row : Nat → Nat) (h0 : hs[0]? = some (.ref qr)) (h1 : hs[1]? = some (.int (nI dp))) (hd : dp ≤ 30) (x : Int32) (f2 : fs[2]? = some (.ref qs)) : Met l yX7_running wsX7_running { frames := 0, cells := 0, slots := 0, locals := 0 } (RPc G [.ref o, .int x] [(o, ob 7 fs), (qs, ob 0 hs), (qr, iA G 30 (fun j => nI (row j)))]) (vp_Si (fun r => r = A_running dp row x)) 0 0 (fun _ => False) := by
  refine Met.ofW (cc := cX7_running) (maxL := 2) (ret := (some .int)) (by decide) rfl ?_
  intro p e s m args below meth c s₁ B hml hv
  obtain ⟨rfl, hP, hK⟩ := hv
  have hx := B.exec
  have hb := B.bytes
  have hr := B.returns
  have hts := atoms_spec (ws := wsX7_running) B.pre
  have hown : s.vm.findClass RX7 = some m.cls := findClass_of_methodNamed B.named
  have hlocks := B.notSynchronized
  have hl := lv_entry ([.ref o, .int x]) (n := 2) (Nat.le_of_ble_eq_true rfl)
  rw [lg_entry_eq]
  generalize (lg_sl ([.ref o, .int x]) ++ List.replicate (2 - (lg_sl ([.ref o, .int x])).length) Slot.unset).toArray = ls at hl ⊢
  have hl : lv_has ls 2 [(0, .ref o), (1, .int x)] := hl
  refine lv_iload_n hx hb dX7_running_0 rfl (lv_at hl 1 rfl) ?_
  refine lv_if_ge (tgt := 7) hx hb dX7_running_1 (by decide) (fun c1 => ?_) (fun c1 => ?_)
  · skip
    refine lv_iload_n hx hb dX7_running_7 rfl (lv_at hl 1 rfl) ?_
    refine lv_aload_n hx hb dX7_running_8 rfl (lv_at hl 0 rfl) ?_
    refine va_get (D := G.1) (ci := 7) (v := .ref qs) (C := RX7) (T := TX7) (N := 10) hx hb hts (by decide +kernel) hown hK.1 hP 0 rfl rfl 2 (by decide) (hts (.fieldLink RX7 25 "CallNumbers" "stack" "LCallNumbers$CallStack;") (by decide +kernel)) (fun _ h9 => h9) f2 dX7_running_9 ?_
    refine va_getN (D := G.1) (ci := 0) (v := .int (nI dp)) (C := RX0) (T := TX0) (N := 2) hx hb hts (by decide +kernel) hown hK.1 hP 1 rfl rfl 1 (by decide) (hK.2.1.f 18 rfl) (fun _ h9 => h9) h1 dX7_running_12 ?_
    refine lv_icmp_ge (tgt := 30) hx hb dX7_running_15 (by decide) (fun c15 => ?_) (fun c15 => ?_)
    · skip
      refine lv_bipush (v := (-9)) hx hb dX7_running_30 (by decide) ?_
      exact W.iret (v := (-9)) hx hb hr (fun t ht _ => ⟨_, rfl, by simp [A_running, Int32.not_lt.mpr c1, ix_out (out_g c15 (Nat.le_refl _) (by omega))], ht⟩) (fun _ h9 => by cases h9) dX7_running_32
    · skip
      obtain ⟨k, hk, rfl⟩ : ∃ k, k < dp ∧ x = nI k := by obtain ⟨j, a, b, -⟩ := pk_mu (Int32.not_lt.mpr c1) c15 (by omega); exact ⟨j, a, b⟩
      refine lv_aload_n hx hb dX7_running_18 rfl (lv_at hl 0 rfl) ?_
      refine va_get (D := G.1) (ci := 7) (v := .ref qs) (C := RX7) (T := TX7) (N := 10) hx hb hts (by decide +kernel) hown hK.1 hP 0 rfl rfl 2 (by decide) (hts (.fieldLink RX7 25 "CallNumbers" "stack" "LCallNumbers$CallStack;") (by decide +kernel)) (fun _ h9 => h9) f2 dX7_running_19 ?_
      refine va_getN (D := G.1) (ci := 0) (v := .ref qr) (C := RX0) (T := TX0) (N := 2) hx hb hts (by decide +kernel) hown hK.1 hP 1 rfl rfl 0 (by decide) (hK.2.1.f 15 rfl) (fun _ h9 => h9) h0 dX7_running_22 ?_
      refine lv_iload_n hx hb dX7_running_25 rfl (lv_at hl 1 rfl) ?_
      refine ialdN (k := k) (f := row) hx hb hK.1 hP 2 0 rfl rfl (rfl) (by omega) (Nat.le_of_ble_eq_true rfl) dX7_running_26 ?_
      refine lv_goto (tgt := 32) hx hb dX7_running_27 (by decide) ?_
      exact W.iret (v := nI (row k)) hx hb hr (fun t ht _ => ⟨_, rfl, by simp [A_running, Int32.not_lt.mpr c1, ix_in hk (show dp < 2 ^ 31 by omega)], ht⟩) (fun _ h9 => by cases h9) dX7_running_32
  · skip
    refine lv_bipush (v := (-2)) hx hb dX7_running_4 (by decide) ?_
    exact W.iret (v := (-2)) hx hb hr (fun t ht _ => ⟨_, rfl, by simp [A_running, Int32.not_le.mp c1], ht⟩) (fun _ h9 => by cases h9) dX7_running_6
set_option maxHeartbeats 4000000 in
set_option maxRecDepth 100000 in
theorem c_X7_ofSnap (G : GG) (l : Launch) (o : Nat) (fs : List Value) (qn ns : Nat) (sf : Nat → Option Nat) (sa sr sP sH sC sL sD : Nat → Nat) (sw : Nat → Nat → Nat) (tl : va_W) (hs : ns ≤ 10) (hsn : ∀ k, k < ns → sf k = some (sa k) ∧ SnC G tl sa sr sP sH sC sL sD sw k ∧ sD k ≤ 30) (x : Int32) (y : Int32) (f3 : fs[3]? = some (.ref qn)) (f8 : fs[8]? = some (.int (nI ns))) : Met l yX7_ofSnap wsX7_ofSnap { frames := 1, cells := 0, slots := 0, locals := 21 } (RPc G [.ref o, .int x, .int y] ([(o, ob 7 fs), (qn, sA G 10 sf)] ++ tl)) (vp_Si (fun r => r = A_ofSnap ns sP sH sC sL sD x y)) 0 0 (fun _ => False) := by
  refine Met.ofW (cc := cX7_ofSnap) (maxL := 4) (ret := (some .int)) (by decide) rfl ?_
  intro p e s m args below meth c s₁ B hml hv
  obtain ⟨rfl, hP, hK⟩ := hv
  have hx := B.exec
  have hb := B.bytes
  have hr := B.returns
  have hts := atoms_spec (ws := wsX7_ofSnap) B.pre
  have hown : s.vm.findClass RX7 = some m.cls := findClass_of_methodNamed B.named
  have hlocks := B.notSynchronized
  have hl := lv_entry ([.ref o, .int x, .int y]) (n := 4) (Nat.le_of_ble_eq_true rfl)
  rw [lg_entry_eq]
  generalize (lg_sl ([.ref o, .int x, .int y]) ++ List.replicate (4 - (lg_sl ([.ref o, .int x, .int y])).length) Slot.unset).toArray = ls at hl ⊢
  have hl : lv_has ls 4 [(0, .ref o), (1, .int x), (2, .int y)] := hl
  refine lv_aload_n hx hb dX7_ofSnap_0 rfl (lv_at hl 0 rfl) ?_
  refine lv_iload_n hx hb dX7_ofSnap_1 rfl (lv_at hl 1 rfl) ?_
  have hP_1 : PP G [(o, ob 7 fs), (qn, sA G 10 sf)] s.heap := hP.sub [0, 1] rfl
  refine csq (va_runV (As := [.int x]) (rest := []) ⟨hx, hb, hml, hown, hts⟩ (c_X7_snapOf G l o qn ns fs x sf f3 f8 (by omega)) (cwV 1 hts gX7_ofSnap_X7_snapOf rfl rfl rfl (by decide +kernel) ⟨Nat.le_of_ble_eq_true rfl, Nat.le_of_ble_eq_true rfl⟩) (preRV hK hP_1 0 7 rfl rfl) rfl rfl hl.1 rfl (lv_room (Nat.le_of_ble_eq_true rfl)) dX7_ofSnap_2 ⟨Nat.zero_le _, Nat.zero_le _⟩) (fun r_2 h_3 => ?_)
  rcases h_3 with ⟨k2, b2, rfl, rfl⟩ | ⟨rfl, b2⟩
  · skip
    rw [show va_rf (sf k2) = .ref (sa k2) from by rw [(hsn k2 b2).1]; rfl]
    have hX2 : PP G [((sa k2), ob 5 [.int (nI (sP k2)), .int (nI (sH k2)), .int (nI (sC k2)), .int (nI (sL k2)), .ref (sr k2)]), ((sr k2), iA G (sD k2) (fun j => nI ((sw k2) j)))] s.heap := hP.tl (hsn k2 b2).2.1
    have hsd2 := (hsn k2 b2).2.2
    refine lv_astore_n (lv' := [(3, .ref (sa k2)), (0, .ref o), (1, .int (nI k2)), (2, .int y)]) hx hb dX7_ofSnap_5 rfl hl (by decide) rfl (fun ls hl => ?_)
    refine lv_aload_n hx hb dX7_ofSnap_6 rfl (lv_at hl 0 rfl) ?_
    refine lv_ifnonnull (tgt := 12) hx hb dX7_ofSnap_7 (by decide) ?_
    refine lv_iload_n hx hb dX7_ofSnap_12 rfl (lv_at hl 3 rfl) ?_
    by_cases w13_0 : y = nI 0
    · skip
      subst w13_0
      refine lv_tableIn (tgt := 48) hx hb dX7_ofSnap_13 (by decide) (by decide) (off := 35) rfl (by decide) ?_
      refine lv_aload_n hx hb dX7_ofSnap_48 rfl (lv_at hl 0 rfl) ?_
      refine va_getN (D := G.1) (ci := 5) (v := .int (nI (sP k2))) (C := RX5) (T := TX5) (N := 5) hx hb hts (by decide +kernel) hown hK.1 hX2 0 rfl rfl 0 (by decide) (hK.2.1.f 41 rfl) (fun _ h9 => h9) rfl dX7_ofSnap_49 ?_
      exact W.iret (v := nI (sP k2)) hx hb hr (fun t ht _ => ⟨_, rfl, by simp [A_ofSnap, ix_in (k := k2) (n := ns) (by omega) (by omega), nI_ne, sw0], ht⟩) (fun _ h9 => by cases h9) dX7_ofSnap_52
    · skip
      by_cases w13_1 : y = nI 1
      · skip
        subst w13_1
        refine lv_tableIn (tgt := 53) hx hb dX7_ofSnap_13 (by decide) (by decide) (off := 40) rfl (by decide) ?_
        refine lv_aload_n hx hb dX7_ofSnap_53 rfl (lv_at hl 0 rfl) ?_
        refine va_getN (D := G.1) (ci := 5) (v := .int (nI (sH k2))) (C := RX5) (T := TX5) (N := 5) hx hb hts (by decide +kernel) hown hK.1 hX2 0 rfl rfl 1 (by decide) (hK.2.1.f 42 rfl) (fun _ h9 => h9) rfl dX7_ofSnap_54 ?_
        exact W.iret (v := nI (sH k2)) hx hb hr (fun t ht _ => ⟨_, rfl, by simp [A_ofSnap, ix_in (k := k2) (n := ns) (by omega) (by omega), nI_ne, sw0], ht⟩) (fun _ h9 => by cases h9) dX7_ofSnap_57
      · skip
        by_cases w13_2 : y = nI 2
        · skip
          subst w13_2
          refine lv_tableIn (tgt := 58) hx hb dX7_ofSnap_13 (by decide) (by decide) (off := 45) rfl (by decide) ?_
          refine lv_aload_n hx hb dX7_ofSnap_58 rfl (lv_at hl 0 rfl) ?_
          refine va_getN (D := G.1) (ci := 5) (v := .int (nI (sC k2))) (C := RX5) (T := TX5) (N := 5) hx hb hts (by decide +kernel) hown hK.1 hX2 0 rfl rfl 2 (by decide) (hK.2.1.f 43 rfl) (fun _ h9 => h9) rfl dX7_ofSnap_59 ?_
          exact W.iret (v := nI (sC k2)) hx hb hr (fun t ht _ => ⟨_, rfl, by simp [A_ofSnap, ix_in (k := k2) (n := ns) (by omega) (by omega), nI_ne, sw0], ht⟩) (fun _ h9 => by cases h9) dX7_ofSnap_62
        · skip
          by_cases w13_3 : y = nI 3
          · skip
            subst w13_3
            refine lv_tableIn (tgt := 63) hx hb dX7_ofSnap_13 (by decide) (by decide) (off := 50) rfl (by decide) ?_
            refine lv_aload_n hx hb dX7_ofSnap_63 rfl (lv_at hl 0 rfl) ?_
            refine va_getN (D := G.1) (ci := 5) (v := .int (nI (sL k2))) (C := RX5) (T := TX5) (N := 5) hx hb hts (by decide +kernel) hown hK.1 hX2 0 rfl rfl 3 (by decide) (hK.2.1.f 44 rfl) (fun _ h9 => h9) rfl dX7_ofSnap_64 ?_
            exact W.iret (v := nI (sL k2)) hx hb hr (fun t ht _ => ⟨_, rfl, by simp [A_ofSnap, ix_in (k := k2) (n := ns) (by omega) (by omega), nI_ne, sw0], ht⟩) (fun _ h9 => by cases h9) dX7_ofSnap_67
          · skip
            by_cases w13_4 : y = nI 4
            · skip
              subst w13_4
              refine lv_tableIn (tgt := 68) hx hb dX7_ofSnap_13 (by decide) (by decide) (off := 55) rfl (by decide) ?_
              refine lv_aload_n hx hb dX7_ofSnap_68 rfl (lv_at hl 0 rfl) ?_
              refine va_getN (D := G.1) (ci := 5) (v := .ref (sr k2)) (C := RX5) (T := TX5) (N := 5) hx hb hts (by decide +kernel) hown hK.1 hX2 0 rfl rfl 4 (by decide) (hK.2.1.f 45 rfl) (fun _ h9 => h9) rfl dX7_ofSnap_69 ?_
              refine va_alen (v := nI (sD k2)) hx hb hK.1 hX2 1 0 rfl rfl rfl dX7_ofSnap_72 ?_
              exact W.iret (v := nI (sD k2)) hx hb hr (fun t ht _ => ⟨_, rfl, by simp [A_ofSnap, ix_in (k := k2) (n := ns) (by omega) (by omega), nI_ne, sw0], ht⟩) (fun _ h9 => by cases h9) dX7_ofSnap_73
            · skip
              refine lv_tableOut (tgt := 74) hx hb dX7_ofSnap_13 (tb_out y 4 rfl (fun k hk => by rcases (show k = 0 ∨ k = 1 ∨ k = 2 ∨ k = 3 ∨ k = 4 by omega) with rfl | rfl | rfl | rfl | rfl <;> assumption) (by decide)) (by decide) ?_
              refine lv_bipush (v := (-2)) hx hb dX7_ofSnap_74 (by decide) ?_
              exact W.iret (v := (-2)) hx hb hr (fun t ht _ => ⟨_, rfl, by simp [A_ofSnap, ix_in (k := k2) (n := ns) (by omega) (by omega), w13_0, w13_1, w13_2, w13_3, w13_4, nI_ne, sw0], ht⟩) (fun _ h9 => by cases h9) dX7_ofSnap_76
  · skip
    refine lv_astore_nN (lv' := [(3, .null), (0, .ref o), (1, .int x), (2, .int y)]) hx hb dX7_ofSnap_5 rfl hl (by decide) rfl (fun ls hl => ?_)
    refine lv_aload_nN hx hb dX7_ofSnap_6 rfl (lv_at hl 0 rfl) ?_
    refine lv_ifnonnullN hx hb dX7_ofSnap_7 ?_
    refine lv_iconst (v := (-1)) hx hb dX7_ofSnap_10 (by decide) ?_
    exact W.iret (v := (-1)) hx hb hr (fun t ht _ => ⟨_, rfl, by simp [A_ofSnap, ix_out b2, nI_ne, sw0], ht⟩) (fun _ h9 => by cases h9) dX7_ofSnap_11
set_option maxHeartbeats 4000000 in
set_option maxRecDepth 100000 in
theorem c_X7_snapped (G : GG) (l : Launch) (o : Nat) (fs : List Value) (qn ns : Nat) (sf : Nat → Option Nat) (sa sr sP sH sC sL sD : Nat → Nat) (sw : Nat → Nat → Nat) (tl : va_W) (hs : ns ≤ 10) (hsn : ∀ k, k < ns → sf k = some (sa k) ∧ SnC G tl sa sr sP sH sC sL sD sw k ∧ sD k ≤ 30) (x : Int32) (y : Int32) (f3 : fs[3]? = some (.ref qn)) (f8 : fs[8]? = some (.int (nI ns))) : Met l yX7_snapped wsX7_snapped { frames := 1, cells := 0, slots := 0, locals := 21 } (RPc G [.ref o, .int x, .int y] ([(o, ob 7 fs), (qn, sA G 10 sf)] ++ tl)) (vp_Si (fun r => r = A_snapped ns sD sw x y)) 0 0 (fun _ => False) := by
  refine Met.ofW (cc := cX7_snapped) (maxL := 4) (ret := (some .int)) (by decide) rfl ?_
  intro p e s m args below meth c s₁ B hml hv
  obtain ⟨rfl, hP, hK⟩ := hv
  have hx := B.exec
  have hb := B.bytes
  have hr := B.returns
  have hts := atoms_spec (ws := wsX7_snapped) B.pre
  have hown : s.vm.findClass RX7 = some m.cls := findClass_of_methodNamed B.named
  have hlocks := B.notSynchronized
  have hl := lv_entry ([.ref o, .int x, .int y]) (n := 4) (Nat.le_of_ble_eq_true rfl)
  rw [lg_entry_eq]
  generalize (lg_sl ([.ref o, .int x, .int y]) ++ List.replicate (4 - (lg_sl ([.ref o, .int x, .int y])).length) Slot.unset).toArray = ls at hl ⊢
  have hl : lv_has ls 4 [(0, .ref o), (1, .int x), (2, .int y)] := hl
  refine lv_aload_n hx hb dX7_snapped_0 rfl (lv_at hl 0 rfl) ?_
  refine lv_iload_n hx hb dX7_snapped_1 rfl (lv_at hl 1 rfl) ?_
  have hP_1 : PP G [(o, ob 7 fs), (qn, sA G 10 sf)] s.heap := hP.sub [0, 1] rfl
  refine csq (va_runV (As := [.int x]) (rest := []) ⟨hx, hb, hml, hown, hts⟩ (c_X7_snapOf G l o qn ns fs x sf f3 f8 (by omega)) (cwV 1 hts gX7_snapped_X7_snapOf rfl rfl rfl (by decide +kernel) ⟨Nat.le_of_ble_eq_true rfl, Nat.le_of_ble_eq_true rfl⟩) (preRV hK hP_1 0 7 rfl rfl) rfl rfl hl.1 rfl (lv_room (Nat.le_of_ble_eq_true rfl)) dX7_snapped_2 ⟨Nat.zero_le _, Nat.zero_le _⟩) (fun r_2 h_3 => ?_)
  rcases h_3 with ⟨k2, b2, rfl, rfl⟩ | ⟨rfl, b2⟩
  · skip
    rw [show va_rf (sf k2) = .ref (sa k2) from by rw [(hsn k2 b2).1]; rfl]
    have hX2 : PP G [((sa k2), ob 5 [.int (nI (sP k2)), .int (nI (sH k2)), .int (nI (sC k2)), .int (nI (sL k2)), .ref (sr k2)]), ((sr k2), iA G (sD k2) (fun j => nI ((sw k2) j)))] s.heap := hP.tl (hsn k2 b2).2.1
    have hsd2 := (hsn k2 b2).2.2
    refine lv_astore_n (lv' := [(3, .ref (sa k2)), (0, .ref o), (1, .int (nI k2)), (2, .int y)]) hx hb dX7_snapped_5 rfl hl (by decide) rfl (fun ls hl => ?_)
    refine lv_aload_n hx hb dX7_snapped_6 rfl (lv_at hl 0 rfl) ?_
    refine lv_ifnonnull (tgt := 12) hx hb dX7_snapped_7 (by decide) ?_
    refine lv_iload_n hx hb dX7_snapped_12 rfl (lv_at hl 3 rfl) ?_
    refine lv_if_ge (tgt := 19) hx hb dX7_snapped_13 (by decide) (fun c13 => ?_) (fun c13 => ?_)
    · skip
      refine lv_iload_n hx hb dX7_snapped_19 rfl (lv_at hl 3 rfl) ?_
      refine lv_aload_n hx hb dX7_snapped_20 rfl (lv_at hl 0 rfl) ?_
      refine va_getN (D := G.1) (ci := 5) (v := .ref (sr k2)) (C := RX5) (T := TX5) (N := 5) hx hb hts (by decide +kernel) hown hK.1 hX2 0 rfl rfl 4 (by decide) (hK.2.1.f 45 rfl) (fun _ h9 => h9) rfl dX7_snapped_21 ?_
      refine va_alen (v := nI (sD k2)) hx hb hK.1 hX2 1 0 rfl rfl rfl dX7_snapped_24 ?_
      refine lv_icmp_ge (tgt := 37) hx hb dX7_snapped_25 (by decide) (fun c25 => ?_) (fun c25 => ?_)
      · skip
        refine lv_bipush (v := (-9)) hx hb dX7_snapped_37 (by decide) ?_
        exact W.iret (v := (-9)) hx hb hr (fun t ht _ => ⟨_, rfl, by simp [A_snapped, ix_in b2 (show ns < 2 ^ 31 by omega), Int32.not_lt.mpr c13, ix_out (out_g c25 (Nat.le_refl _) (by omega))], ht⟩) (fun _ h9 => by cases h9) dX7_snapped_39
      · skip
        obtain ⟨k, hk, rfl⟩ : ∃ k, k < sD k2 ∧ y = nI k := by obtain ⟨j, a, b, -⟩ := pk_mu (Int32.not_lt.mpr c13) c25 (by omega); exact ⟨j, a, b⟩
        refine lv_aload_n hx hb dX7_snapped_28 rfl (lv_at hl 0 rfl) ?_
        refine va_getN (D := G.1) (ci := 5) (v := .ref (sr k2)) (C := RX5) (T := TX5) (N := 5) hx hb hts (by decide +kernel) hown hK.1 hX2 0 rfl rfl 4 (by decide) (hK.2.1.f 45 rfl) (fun _ h9 => h9) rfl dX7_snapped_29 ?_
        refine lv_iload_n hx hb dX7_snapped_32 rfl (lv_at hl 3 rfl) ?_
        refine ialdN (k := k) (f := (sw k2)) hx hb hK.1 hX2 1 0 rfl rfl (rfl) (by omega) (by omega) dX7_snapped_33 ?_
        refine lv_goto (tgt := 39) hx hb dX7_snapped_34 (by decide) ?_
        exact W.iret (v := nI ((sw k2) k)) hx hb hr (fun t ht _ => ⟨_, rfl, by simp [A_snapped, ix_in b2 (show ns < 2 ^ 31 by omega), Int32.not_lt.mpr c13, ix_in hk (show sD k2 < 2 ^ 31 by omega)], ht⟩) (fun _ h9 => by cases h9) dX7_snapped_39
    · skip
      refine lv_bipush (v := (-2)) hx hb dX7_snapped_16 (by decide) ?_
      exact W.iret (v := (-2)) hx hb hr (fun t ht _ => ⟨_, rfl, by simp [A_snapped, ix_in b2 (show ns < 2 ^ 31 by omega), Int32.not_le.mp c13], ht⟩) (fun _ h9 => by cases h9) dX7_snapped_18
  · skip
    refine lv_astore_nN (lv' := [(3, .null), (0, .ref o), (1, .int x), (2, .int y)]) hx hb dX7_snapped_5 rfl hl (by decide) rfl (fun ls hl => ?_)
    refine lv_aload_nN hx hb dX7_snapped_6 rfl (lv_at hl 0 rfl) ?_
    refine lv_ifnonnullN hx hb dX7_snapped_7 ?_
    refine lv_iconst (v := (-1)) hx hb dX7_snapped_10 (by decide) ?_
    exact W.iret (v := (-1)) hx hb hr (fun t ht _ => ⟨_, rfl, by simp [A_snapped, ix_out b2], ht⟩) (fun _ h9 => by cases h9) dX7_snapped_11
set_option maxHeartbeats 4000000 in
set_option maxRecDepth 100000 in
theorem c_X7_sameRows (G : GG) (l : Launch) (qa qb n1 n2 : Nat) (ra rb : Nat → Nat) (hn1 : n1 ≤ 1000) (hn2 : n2 ≤ 1000) (h24 : ∀ j, j < n1 → ra j < 24) (h25 : ∀ j, j < n2 → rb j < 24) : Met l yX7_sameRows wsX7_sameRows { frames := 0, cells := 0, slots := 0, locals := 0 } (RPc G [.ref qa, .ref qb] [(qa, iA G n1 (fun j => nI (ra j))), (qb, iA G n2 (fun j => nI (rb j)))]) (vp_Si (fun r => (r = nI 1 ∧ sameF n1 n2 ra rb = true) ∨ (r = nI 0 ∧ sameF n1 n2 ra rb = false))) 0 0 (fun _ => False) := by
  refine Met.ofW (cc := cX7_sameRows) (maxL := 3) (ret := (some .boolean)) (by decide) rfl ?_
  intro p e s m args below meth c s₁ B hml hv
  obtain ⟨rfl, hP, hK⟩ := hv
  have hx := B.exec
  have hb := B.bytes
  have hr := B.returns
  have hts := atoms_spec (ws := wsX7_sameRows) B.pre
  have hown : s.vm.findClass RX7 = some m.cls := findClass_of_methodNamed B.named
  have hlocks := B.notSynchronized
  have hl := lv_entry ([.ref qa, .ref qb]) (n := 3) (Nat.le_of_ble_eq_true rfl)
  rw [lg_entry_eq]
  generalize (lg_sl ([.ref qa, .ref qb]) ++ List.replicate (3 - (lg_sl ([.ref qa, .ref qb])).length) Slot.unset).toArray = ls at hl ⊢
  have hl : lv_has ls 3 [(0, .ref qa), (1, .ref qb)] := hl
  refine lv_aload_n hx hb dX7_sameRows_0 rfl (lv_at hl 0 rfl) ?_
  refine va_alen (v := nI n1) hx hb hK.1 hP 0 0 rfl rfl rfl dX7_sameRows_1 ?_
  refine lv_aload_n hx hb dX7_sameRows_2 rfl (lv_at hl 1 rfl) ?_
  refine va_alen (v := nI n2) hx hb hK.1 hP 1 0 rfl rfl rfl dX7_sameRows_3 ?_
  refine lv_icmp_eq (tgt := 9) hx hb dX7_sameRows_4 (by decide) (fun c4 => ?_) (fun c4 => ?_)
  · skip
    have c4 := (nI_eq (a := n1) (b := n2) (by omega) (by omega)).mp c4
    refine lv_iconst (v := nI 0) hx hb dX7_sameRows_9 (by decide) ?_
    refine lv_istore_n (lv' := [(2, .int (nI 0)), (0, .ref qa), (1, .ref qb)]) hx hb dX7_sameRows_10 rfl hl (by decide) rfl (fun ls hl => ?_)
    have loop_1 : ∀ (N : Nat) (i : Nat), (i ≤ n1) → (∀ j, j < i → ra j = rb j) → (n1 - i) < N → ∀ (ls : Array Slot), lv_has ls 3 [(0, .ref qa), (1, .ref qb), (2, .int (nI i))] → W p l e (headSpec wsX7_sameRows { frames := 0, cells := 0, slots := 0, locals := 0 }).room s m ([.ref qa, .ref qb]).toArray below meth c s.heap [] 0 0 (MQ below (vp_Si (fun r => (r = nI 1 ∧ sameF n1 n2 ra rb = true) ∨ (r = nI 0 ∧ sameF n1 n2 ra rb = false))) ([.ref qa, .ref qb]).toArray s 0 0 (fun _ => False)) (F0 m 11 ls []) := by
      intro N
      induction N with
      | zero =>
        intro i hi hf hm
        exact absurd hm (Nat.not_lt_zero _)
      | succ N ih =>
        intro i hi hf hm ls hl
        refine lv_iload_n hx hb dX7_sameRows_11 rfl (lv_at hl 2 rfl) ?_
        refine lv_aload_n hx hb dX7_sameRows_12 rfl (lv_at hl 0 rfl) ?_
        refine va_alen (v := nI n1) hx hb hK.1 hP 0 0 rfl rfl rfl dX7_sameRows_13 ?_
        refine lv_icmp_ge (tgt := 34) hx hb dX7_sameRows_14 (by decide) (fun c14 => ?_) (fun c14 => ?_)
        · skip
          have c14 := Nat.not_lt.mpr ((nI_leI (a := n1) (b := i) (by omega) (by omega)).mp c14)
          refine lv_iconst (v := nI 1) hx hb dX7_sameRows_34 (by decide) ?_
          exact W.zret (v := nI 1) hx hb hr (by rfl) (fun t ht _ => ⟨_, rfl, Or.inl ⟨rfl, sameF_yes c4 (fun j hj => hf j (by omega))⟩, ht⟩) (fun _ h9 => by cases h9) dX7_sameRows_35
        · skip
          have c14 := Nat.not_le.mp (mt (nI_leI (a := n1) (b := i) (by omega) (by omega)).mpr c14)
          have ha9 := h24 i (by omega)
          have hb9 := h25 i (by omega)
          refine lv_aload_n hx hb dX7_sameRows_17 rfl (lv_at hl 0 rfl) ?_
          refine lv_iload_n hx hb dX7_sameRows_18 rfl (lv_at hl 2 rfl) ?_
          refine ialdN (k := i) (f := ra) hx hb hK.1 hP 0 0 rfl rfl (rfl) (by omega) (by omega) dX7_sameRows_19 ?_
          refine lv_aload_n hx hb dX7_sameRows_20 rfl (lv_at hl 1 rfl) ?_
          refine lv_iload_n hx hb dX7_sameRows_21 rfl (lv_at hl 2 rfl) ?_
          refine ialdN (k := i) (f := rb) hx hb hK.1 hP 1 0 rfl rfl (rfl) (by omega) (by omega) dX7_sameRows_22 ?_
          refine lv_icmp_eq (tgt := 28) hx hb dX7_sameRows_23 (by decide) (fun c23 => ?_) (fun c23 => ?_)
          · skip
            have c23 := (nI_eq (a := ra i) (b := rb i) (by omega) (by omega)).mp c23
            refine lv_iinc (v := nI (i + 1)) (lv' := [(2, .int (nI (i + 1))), (0, .ref qa), (1, .ref qb)]) hx hb dX7_sameRows_28 hl (k := 2) rfl (iinc1 i) (by decide) rfl (fun ls hl => ?_)
            refine lv_goto (tgt := 11) hx hb dX7_sameRows_31 (by decide) ?_
            exact ih (i + 1) (by omega) (lt_s hf c23) (by omega) ls (lv_sub hl [1, 2, 0] rfl)
          · skip
            have c23 := mt (nI_eq (a := ra i) (b := rb i) (by omega) (by omega)).mpr c23
            refine lv_iconst (v := nI 0) hx hb dX7_sameRows_26 (by decide) ?_
            exact W.zret (v := nI 0) hx hb hr (by rfl) (fun t ht _ => ⟨_, rfl, Or.inr ⟨rfl, sameF_no (by omega) c23⟩, ht⟩) (fun _ h9 => by cases h9) dX7_sameRows_27
    exact loop_1 _ 0 (Nat.zero_le _) (lt_0) (Nat.lt_succ_self _) ls (lv_sub hl [1, 2, 0] rfl)
  · skip
    have c4 := mt (nI_eq (a := n1) (b := n2) (by omega) (by omega)).mpr c4
    refine lv_iconst (v := nI 0) hx hb dX7_sameRows_7 (by decide) ?_
    exact W.zret (v := nI 0) hx hb hr (by rfl) (fun t ht _ => ⟨_, rfl, Or.inr ⟨rfl, sameF_ne c4⟩, ht⟩) (fun _ h9 => by cases h9) dX7_sameRows_8
set_option maxHeartbeats 4000000 in
set_option maxRecDepth 100000 in
theorem c_X7_same (G : GG) (l : Launch) (o : Nat) (fs : List Value) (qn ns : Nat) (sf : Nat → Option Nat) (sa sr sP sH sC sL sD : Nat → Nat) (sw : Nat → Nat → Nat) (tl : va_W) (hs : ns ≤ 10) (hsn : ∀ k, k < ns → sf k = some (sa k) ∧ SnC G tl sa sr sP sH sC sL sD sw k ∧ sD k ≤ 30) (hsw : ∀ k, k < ns → ∀ j, j < sD k → sw k j < 24) (x : Int32) (y : Int32) (f3 : fs[3]? = some (.ref qn)) (f8 : fs[8]? = some (.int (nI ns))) : Met l yX7_same wsX7_same { frames := 1, cells := 0, slots := 0, locals := 22 } (RPc G [.ref o, .int x, .int y] ([(o, ob 7 fs), (qn, sA G 10 sf)] ++ tl)) (vp_Si (fun r => r = A_same ns sD sw x y)) 0 0 (fun _ => False) := by
  refine Met.ofW (cc := cX7_same) (maxL := 5) (ret := (some .int)) (by decide) rfl ?_
  intro p e s m args below meth c s₁ B hml hv
  obtain ⟨rfl, hP, hK⟩ := hv
  have hx := B.exec
  have hb := B.bytes
  have hr := B.returns
  have hts := atoms_spec (ws := wsX7_same) B.pre
  have hown : s.vm.findClass RX7 = some m.cls := findClass_of_methodNamed B.named
  have hlocks := B.notSynchronized
  have hl := lv_entry ([.ref o, .int x, .int y]) (n := 5) (Nat.le_of_ble_eq_true rfl)
  rw [lg_entry_eq]
  generalize (lg_sl ([.ref o, .int x, .int y]) ++ List.replicate (5 - (lg_sl ([.ref o, .int x, .int y])).length) Slot.unset).toArray = ls at hl ⊢
  have hl : lv_has ls 5 [(0, .ref o), (1, .int x), (2, .int y)] := hl
  refine lv_aload_n hx hb dX7_same_0 rfl (lv_at hl 0 rfl) ?_
  refine lv_iload_n hx hb dX7_same_1 rfl (lv_at hl 1 rfl) ?_
  have hP_1 : PP G [(o, ob 7 fs), (qn, sA G 10 sf)] s.heap := hP.sub [0, 1] rfl
  refine csq (va_runV (As := [.int x]) (rest := []) ⟨hx, hb, hml, hown, hts⟩ (c_X7_snapOf G l o qn ns fs x sf f3 f8 (by omega)) (cwV 1 hts gX7_same_X7_snapOf rfl rfl rfl (by decide +kernel) ⟨Nat.le_of_ble_eq_true rfl, Nat.le_of_ble_eq_true rfl⟩) (preRV hK hP_1 0 7 rfl rfl) rfl rfl hl.1 rfl (lv_room (Nat.le_of_ble_eq_true rfl)) dX7_same_2 ⟨Nat.zero_le _, Nat.zero_le _⟩) (fun r_2 h_3 => ?_)
  rcases h_3 with ⟨k2, b2, rfl, rfl⟩ | ⟨rfl, b2⟩
  · skip
    rw [show va_rf (sf k2) = .ref (sa k2) from by rw [(hsn k2 b2).1]; rfl]
    have hX2 : PP G [((sa k2), ob 5 [.int (nI (sP k2)), .int (nI (sH k2)), .int (nI (sC k2)), .int (nI (sL k2)), .ref (sr k2)]), ((sr k2), iA G (sD k2) (fun j => nI ((sw k2) j)))] s.heap := hP.tl (hsn k2 b2).2.1
    have hsd2 := (hsn k2 b2).2.2
    refine lv_astore_n (lv' := [(3, .ref (sa k2)), (0, .ref o), (1, .int (nI k2)), (2, .int y)]) hx hb dX7_same_5 rfl hl (by decide) rfl (fun ls hl => ?_)
    refine lv_aload_n hx hb dX7_same_6 rfl (lv_at hl 1 rfl) ?_
    refine lv_iload_n hx hb dX7_same_7 rfl (lv_at hl 3 rfl) ?_
    have hP_4 : PP G [(o, ob 7 fs), (qn, sA G 10 sf)] s.heap := hP.sub [0, 1] rfl
    refine csq (va_runV (As := [.int y]) (rest := []) ⟨hx, hb, hml, hown, hts⟩ (c_X7_snapOf G l o qn ns fs y sf f3 f8 (by omega)) (cwV 1 hts gX7_same_X7_snapOf rfl rfl rfl (by decide +kernel) ⟨Nat.le_of_ble_eq_true rfl, Nat.le_of_ble_eq_true rfl⟩) (preRV hK hP_4 0 7 rfl rfl) rfl rfl hl.1 rfl (lv_room (Nat.le_of_ble_eq_true rfl)) dX7_same_8 ⟨Nat.zero_le _, Nat.zero_le _⟩) (fun r_5 h_6 => ?_)
    rcases h_6 with ⟨k8, b8, rfl, rfl⟩ | ⟨rfl, b8⟩
    · skip
      rw [show va_rf (sf k8) = .ref (sa k8) from by rw [(hsn k8 b8).1]; rfl]
      have hX8 : PP G [((sa k8), ob 5 [.int (nI (sP k8)), .int (nI (sH k8)), .int (nI (sC k8)), .int (nI (sL k8)), .ref (sr k8)]), ((sr k8), iA G (sD k8) (fun j => nI ((sw k8) j)))] s.heap := hP.tl (hsn k8 b8).2.1
      have hsd8 := (hsn k8 b8).2.2
      refine lv_astore (lv' := [(4, .ref (sa k8)), (3, .ref (sa k2)), (0, .ref o), (1, .int (nI k2)), (2, .int (nI k8))]) hx hb dX7_same_11 hl (by decide) rfl (fun ls hl => ?_)
      refine lv_aload_n hx hb dX7_same_13 rfl (lv_at hl 1 rfl) ?_
      refine lv_ifnull hx hb dX7_same_14 ?_
      refine lv_aload hx hb dX7_same_17 (lv_at hl 0 rfl) ?_
      refine lv_ifnonnull (tgt := 24) hx hb dX7_same_19 (by decide) ?_
      refine lv_aload_n hx hb dX7_same_24 rfl (lv_at hl 1 rfl) ?_
      refine va_getN (D := G.1) (ci := 5) (v := .ref (sr k2)) (C := RX5) (T := TX5) (N := 5) hx hb hts (by decide +kernel) hown hK.1 hX2 0 rfl rfl 4 (by decide) (hK.2.1.f 45 rfl) (fun _ h9 => h9) rfl dX7_same_25 ?_
      refine lv_aload hx hb dX7_same_28 (lv_at hl 0 rfl) ?_
      refine va_getN (D := G.1) (ci := 5) (v := .ref (sr k8)) (C := RX5) (T := TX5) (N := 5) hx hb hts (by decide +kernel) hown hK.1 hX8 0 rfl rfl 4 (by decide) (hK.2.1.f 45 rfl) (fun _ h9 => h9) rfl dX7_same_30 ?_
      have hY33 : PP G [((sr k2), iA G (sD k2) (fun j => nI ((sw k2) j))), ((sr k8), iA G (sD k8) (fun j => nI ((sw k8) j)))] s.heap := va_P.app (hX2.sub [1] rfl) (hX8.sub [1] rfl)
      refine csi (va_runS (As := [.ref (sr k2), .ref (sr k8)]) (rest := []) ⟨hx, hb, hml, hown, hts⟩ (c_X7_sameRows G l (sr k2) (sr k8) (sD k2) (sD k8) (sw k2) (sw k8) (by omega) (by omega) (hsw k2 b2) (hsw k8 b8)) (va_cwS 2 hts gX7_same_X7_sameRows rfl rfl rfl (by decide +kernel) ⟨Nat.le_of_ble_eq_true rfl, Nat.le_of_ble_eq_true rfl⟩) (preR hK hY33) rfl rfl hl.1 rfl (lv_room (Nat.le_of_ble_eq_true rfl)) dX7_same_33 ⟨Nat.zero_le _, Nat.zero_le _⟩) (fun r_7 h_8 => ?_)
      rcases h_8 with ⟨rfl, g33⟩ | ⟨rfl, g33⟩
      · skip
        refine lv_if_eq (tgt := 43) hx hb dX7_same_36 (by decide) (fun c9 => absurd c9 (by decide)) (fun _ => ?_)
        refine lv_iconst (v := nI 1) hx hb dX7_same_39 (by decide) ?_
        refine lv_goto (tgt := 44) hx hb dX7_same_40 (by decide) ?_
        exact W.iret (v := nI 1) hx hb hr (fun t ht _ => ⟨_, rfl, by simp [A_same, ix_in (k := k2) (n := ns) (by omega) (by omega), ix_in (k := k8) (n := ns) (by omega) (by omega), g33], ht⟩) (fun _ h9 => by cases h9) dX7_same_44
      · skip
        refine lv_if_eq (tgt := 43) hx hb dX7_same_36 (by decide) (fun _ => ?_) (fun c9 => absurd c9 (by decide))
        refine lv_iconst (v := nI 0) hx hb dX7_same_43 (by decide) ?_
        exact W.iret (v := nI 0) hx hb hr (fun t ht _ => ⟨_, rfl, by simp [A_same, ix_in (k := k2) (n := ns) (by omega) (by omega), ix_in (k := k8) (n := ns) (by omega) (by omega), g33], ht⟩) (fun _ h9 => by cases h9) dX7_same_44
    · skip
      refine lv_astoreN (lv' := [(4, .null), (3, .ref (sa k2)), (0, .ref o), (1, .int (nI k2)), (2, .int y)]) hx hb dX7_same_11 hl (by decide) rfl (fun ls hl => ?_)
      refine lv_aload_n hx hb dX7_same_13 rfl (lv_at hl 1 rfl) ?_
      refine lv_ifnull hx hb dX7_same_14 ?_
      refine lv_aloadN hx hb dX7_same_17 (lv_at hl 0 rfl) ?_
      refine lv_ifnonnullN hx hb dX7_same_19 ?_
      refine lv_iconst (v := (-1)) hx hb dX7_same_22 (by decide) ?_
      exact W.iret (v := (-1)) hx hb hr (fun t ht _ => ⟨_, rfl, by simp [A_same, ix_in (k := k2) (n := ns) (by omega) (by omega), ix_out b8], ht⟩) (fun _ h9 => by cases h9) dX7_same_23
  · skip
    refine lv_astore_nN (lv' := [(3, .null), (0, .ref o), (1, .int x), (2, .int y)]) hx hb dX7_same_5 rfl hl (by decide) rfl (fun ls hl => ?_)
    refine lv_aload_n hx hb dX7_same_6 rfl (lv_at hl 1 rfl) ?_
    refine lv_iload_n hx hb dX7_same_7 rfl (lv_at hl 3 rfl) ?_
    have hP_9 : PP G [(o, ob 7 fs), (qn, sA G 10 sf)] s.heap := hP.sub [0, 1] rfl
    refine csq (va_runV (As := [.int y]) (rest := []) ⟨hx, hb, hml, hown, hts⟩ (c_X7_snapOf G l o qn ns fs y sf f3 f8 (by omega)) (cwV 1 hts gX7_same_X7_snapOf rfl rfl rfl (by decide +kernel) ⟨Nat.le_of_ble_eq_true rfl, Nat.le_of_ble_eq_true rfl⟩) (preRV hK hP_9 0 7 rfl rfl) rfl rfl hl.1 rfl (lv_room (Nat.le_of_ble_eq_true rfl)) dX7_same_8 ⟨Nat.zero_le _, Nat.zero_le _⟩) (fun r_10 h_11 => ?_)
    rcases h_11 with ⟨k8, b8, rfl, rfl⟩ | ⟨rfl, b8⟩
    · skip
      rw [show va_rf (sf k8) = .ref (sa k8) from by rw [(hsn k8 b8).1]; rfl]
      have hX8 : PP G [((sa k8), ob 5 [.int (nI (sP k8)), .int (nI (sH k8)), .int (nI (sC k8)), .int (nI (sL k8)), .ref (sr k8)]), ((sr k8), iA G (sD k8) (fun j => nI ((sw k8) j)))] s.heap := hP.tl (hsn k8 b8).2.1
      have hsd8 := (hsn k8 b8).2.2
      refine lv_astore (lv' := [(4, .ref (sa k8)), (3, .null), (0, .ref o), (1, .int x), (2, .int (nI k8))]) hx hb dX7_same_11 hl (by decide) rfl (fun ls hl => ?_)
      refine lv_aload_nN hx hb dX7_same_13 rfl (lv_at hl 1 rfl) ?_
      refine lv_ifnullN (tgt := 22) hx hb dX7_same_14 (by decide) ?_
      refine lv_iconst (v := (-1)) hx hb dX7_same_22 (by decide) ?_
      exact W.iret (v := (-1)) hx hb hr (fun t ht _ => ⟨_, rfl, by simp [A_same, ix_out b2, ix_in (k := k8) (n := ns) (by omega) (by omega)], ht⟩) (fun _ h9 => by cases h9) dX7_same_23
    · skip
      refine lv_astoreN (lv' := [(4, .null), (3, .null), (0, .ref o), (1, .int x), (2, .int y)]) hx hb dX7_same_11 hl (by decide) rfl (fun ls hl => ?_)
      refine lv_aload_nN hx hb dX7_same_13 rfl (lv_at hl 1 rfl) ?_
      refine lv_ifnullN (tgt := 22) hx hb dX7_same_14 (by decide) ?_
      refine lv_iconst (v := (-1)) hx hb dX7_same_22 (by decide) ?_
      exact W.iret (v := (-1)) hx hb hr (fun t ht _ => ⟨_, rfl, by simp [A_same, ix_out b2, ix_out b8], ht⟩) (fun _ h9 => by cases h9) dX7_same_23
set_option maxHeartbeats 4000000 in
set_option maxRecDepth 100000 in
theorem c_X7_many (G : GG) (l : Launch) (o : Nat) (fs : List Value) (qc : Nat) (gs : List Value) (qf qt n : Nat) (fr to : Nat → Nat) (g0 : gs[0]? = some (.ref qf)) (g1 : gs[1]? = some (.ref qt)) (g2 : gs[2]? = some (.int (nI n))) (hn : n ≤ 24) (np ns lim : Nat) (qs : Nat) (hs : List Value) (qr dp : Nat) (row : Nat → Nat) (h0 : hs[0]? = some (.ref qr)) (h1 : hs[1]? = some (.int (nI dp))) (hd : dp ≤ 30) (hrow : ∀ j, j < dp → row j < 24) (x : Int32) (f0 : fs[0]? = some (.ref qc)) (f2 : fs[2]? = some (.ref qs)) (f7 : fs[7]? = some (.int (nI np))) (f8 : fs[8]? = some (.int (nI ns))) (f9 : fs[9]? = some (.int (nI lim))) : Met l yX7_many wsX7_many { frames := 1, cells := 0, slots := 0, locals := 21 } (RPc G [.ref o, .int x] [(o, ob 7 fs), (qc, ob 1 gs), (qf, iA G 24 (fun j => nI (fr j))), (qt, iA G 24 (fun j => nI (to j))), (qs, ob 0 hs), (qr, iA G 30 (fun j => nI (row j)))]) (vp_Si (fun r => r = A_many n np dp ns lim to row x)) 0 0 (fun _ => False) := by
  refine Met.ofW (cc := cX7_many) (maxL := 2) (ret := (some .int)) (by decide) rfl ?_
  intro p e s m args below meth c s₁ B hml hv
  obtain ⟨rfl, hP, hK⟩ := hv
  have hx := B.exec
  have hb := B.bytes
  have hr := B.returns
  have hts := atoms_spec (ws := wsX7_many) B.pre
  have hown : s.vm.findClass RX7 = some m.cls := findClass_of_methodNamed B.named
  have hlocks := B.notSynchronized
  have hl := lv_entry ([.ref o, .int x]) (n := 2) (Nat.le_of_ble_eq_true rfl)
  rw [lg_entry_eq]
  generalize (lg_sl ([.ref o, .int x]) ++ List.replicate (2 - (lg_sl ([.ref o, .int x])).length) Slot.unset).toArray = ls at hl ⊢
  have hl : lv_has ls 2 [(0, .ref o), (1, .int x)] := hl
  refine lv_iload_n hx hb dX7_many_0 rfl (lv_at hl 1 rfl) ?_
  by_cases w1_0 : x = nI 0
  · skip
    subst w1_0
    refine lv_tableIn (tgt := 40) hx hb dX7_many_1 (by decide) (by decide) (off := 39) rfl (by decide) ?_
    refine lv_aload_n hx hb dX7_many_40 rfl (lv_at hl 0 rfl) ?_
    refine va_get (D := G.1) (ci := 7) (v := .ref qc) (C := RX7) (T := TX7) (N := 10) hx hb hts (by decide +kernel) hown hK.1 hP 0 rfl rfl 0 (by decide) (hts (.fieldLink RX7 10 "CallNumbers" "calls" "LCallNumbers$Calls;") (by decide +kernel)) (fun _ h9 => h9) f0 dX7_many_41 ?_
    refine va_getN (D := G.1) (ci := 1) (v := .int (nI n)) (C := RX1) (T := TX1) (N := 3) hx hb hts (by decide +kernel) hown hK.1 hP 1 rfl rfl 2 (by decide) (hK.2.1.f 11 rfl) (fun _ h9 => h9) g2 dX7_many_44 ?_
    exact W.iret (v := nI n) hx hb hr (fun t ht _ => ⟨_, rfl, by simp [A_many, nI_ne, sw0], ht⟩) (fun _ h9 => by cases h9) dX7_many_47
  · skip
    by_cases w1_1 : x = nI 1
    · skip
      subst w1_1
      refine lv_tableIn (tgt := 48) hx hb dX7_many_1 (by decide) (by decide) (off := 47) rfl (by decide) ?_
      refine lv_aload_n hx hb dX7_many_48 rfl (lv_at hl 0 rfl) ?_
      refine va_get (D := G.1) (ci := 7) (v := .int (nI np)) (C := RX7) (T := TX7) (N := 10) hx hb hts (by decide +kernel) hown hK.1 hP 0 rfl rfl 7 (by decide) (hts (.fieldLink RX7 62 "CallNumbers" "planCount" "I") (by decide +kernel)) (fun _ h9 => h9) f7 dX7_many_49 ?_
      exact W.iret (v := nI np) hx hb hr (fun t ht _ => ⟨_, rfl, by simp [A_many, nI_ne, sw0], ht⟩) (fun _ h9 => by cases h9) dX7_many_52
    · skip
      by_cases w1_2 : x = nI 2
      · skip
        subst w1_2
        refine lv_tableIn (tgt := 53) hx hb dX7_many_1 (by decide) (by decide) (off := 52) rfl (by decide) ?_
        refine lv_aload_n hx hb dX7_many_53 rfl (lv_at hl 0 rfl) ?_
        refine va_get (D := G.1) (ci := 7) (v := .ref qs) (C := RX7) (T := TX7) (N := 10) hx hb hts (by decide +kernel) hown hK.1 hP 0 rfl rfl 2 (by decide) (hts (.fieldLink RX7 25 "CallNumbers" "stack" "LCallNumbers$CallStack;") (by decide +kernel)) (fun _ h9 => h9) f2 dX7_many_54 ?_
        refine va_getN (D := G.1) (ci := 0) (v := .int (nI dp)) (C := RX0) (T := TX0) (N := 2) hx hb hts (by decide +kernel) hown hK.1 hP 4 rfl rfl 1 (by decide) (hK.2.1.f 18 rfl) (fun _ h9 => h9) h1 dX7_many_57 ?_
        exact W.iret (v := nI dp) hx hb hr (fun t ht _ => ⟨_, rfl, by simp [A_many, nI_ne, sw0], ht⟩) (fun _ h9 => by cases h9) dX7_many_60
      · skip
        by_cases w1_3 : x = nI 3
        · skip
          subst w1_3
          refine lv_tableIn (tgt := 61) hx hb dX7_many_1 (by decide) (by decide) (off := 60) rfl (by decide) ?_
          refine lv_aload_n hx hb dX7_many_61 rfl (lv_at hl 0 rfl) ?_
          refine va_get (D := G.1) (ci := 7) (v := .int (nI ns)) (C := RX7) (T := TX7) (N := 10) hx hb hts (by decide +kernel) hown hK.1 hP 0 rfl rfl 8 (by decide) (hts (.fieldLink RX7 145 "CallNumbers" "snapCount" "I") (by decide +kernel)) (fun _ h9 => h9) f8 dX7_many_62 ?_
          exact W.iret (v := nI ns) hx hb hr (fun t ht _ => ⟨_, rfl, by simp [A_many, nI_ne, sw0], ht⟩) (fun _ h9 => by cases h9) dX7_many_65
        · skip
          by_cases w1_4 : x = nI 4
          · skip
            subst w1_4
            refine lv_tableIn (tgt := 66) hx hb dX7_many_1 (by decide) (by decide) (off := 65) rfl (by decide) ?_
            refine lv_aload_n hx hb dX7_many_66 rfl (lv_at hl 0 rfl) ?_
            refine va_get (D := G.1) (ci := 7) (v := .ref qs) (C := RX7) (T := TX7) (N := 10) hx hb hts (by decide +kernel) hown hK.1 hP 0 rfl rfl 2 (by decide) (hts (.fieldLink RX7 25 "CallNumbers" "stack" "LCallNumbers$CallStack;") (by decide +kernel)) (fun _ h9 => h9) f2 dX7_many_67 ?_
            refine lv_aload_n hx hb dX7_many_70 rfl (lv_at hl 0 rfl) ?_
            refine va_get (D := G.1) (ci := 7) (v := .ref qc) (C := RX7) (T := TX7) (N := 10) hx hb hts (by decide +kernel) hown hK.1 hP 0 rfl rfl 0 (by decide) (hts (.fieldLink RX7 10 "CallNumbers" "calls" "LCallNumbers$Calls;") (by decide +kernel)) (fun _ h9 => h9) f0 dX7_many_71 ?_
            have hP_1 : PP G [(qs, ob 0 hs), (qr, iA G 30 (fun j => nI (row j))), (qc, ob 1 gs), (qt, iA G 24 (fun j => nI (to j)))] s.heap := hP.sub [4, 5, 1, 3] rfl
            refine csi (va_runVN (As := [.ref qc]) (rest := []) ⟨hx, hb, hml, hown, hts⟩ (c_X0_here G l qs qr qc qt dp hs gs row to h0 h1 g1 (by omega) (hrow)) (⟨va_cnB 1 hts gX7_many_X0_here_n123 rfl rfl rfl (hK.2.1.m 14 rfl) (hts (.initialized RX0) (by decide +kernel)) (by decide +kernel) ⟨Nat.le_of_ble_eq_true rfl, Nat.le_of_ble_eq_true rfl⟩, hts (.instanceMethod yX0_here) (by decide +kernel), hts (.selects RX0 yX0_here yX0_here) (by decide +kernel)⟩) (preRV hK hP_1 0 0 rfl rfl) rfl rfl hl.1 rfl (lv_room (Nat.le_of_ble_eq_true rfl)) dX7_many_74 ⟨Nat.zero_le _, Nat.zero_le _⟩) (fun r_2 h_3 => ?_)
            obtain rfl : r_2 = nI (hereF to row dp) := h_3
            exact W.iret (v := nI (hereF to row dp)) hx hb hr (fun t ht _ => ⟨_, rfl, by simp [A_many, nI_ne, sw0], ht⟩) (fun _ h9 => by cases h9) dX7_many_77
          · skip
            by_cases w1_5 : x = nI 5
            · skip
              subst w1_5
              refine lv_tableIn (tgt := 78) hx hb dX7_many_1 (by decide) (by decide) (off := 77) rfl (by decide) ?_
              refine lv_aload_n hx hb dX7_many_78 rfl (lv_at hl 0 rfl) ?_
              refine va_get (D := G.1) (ci := 7) (v := .int (nI lim)) (C := RX7) (T := TX7) (N := 10) hx hb hts (by decide +kernel) hown hK.1 hP 0 rfl rfl 9 (by decide) (hts (.fieldLink RX7 49 "CallNumbers" "limit" "I") (by decide +kernel)) (fun _ h9 => h9) f9 dX7_many_79 ?_
              exact W.iret (v := nI lim) hx hb hr (fun t ht _ => ⟨_, rfl, by simp [A_many, nI_ne, sw0], ht⟩) (fun _ h9 => by cases h9) dX7_many_82
            · skip
              refine lv_tableOut (tgt := 83) hx hb dX7_many_1 (tb_out x 5 rfl (fun k hk => by rcases (show k = 0 ∨ k = 1 ∨ k = 2 ∨ k = 3 ∨ k = 4 ∨ k = 5 by omega) with rfl | rfl | rfl | rfl | rfl | rfl <;> assumption) (by decide)) (by decide) ?_
              refine lv_bipush (v := (-2)) hx hb dX7_many_83 (by decide) ?_
              exact W.iret (v := (-2)) hx hb hr (fun t ht _ => ⟨_, rfl, by simp [A_many, w1_0, w1_1, w1_2, w1_3, w1_4, w1_5, nI_ne, sw0], ht⟩) (fun _ h9 => by cases h9) dX7_many_85
set_option maxHeartbeats 4000000 in
set_option maxRecDepth 100000 in
theorem c_X4_waysOfPlainCallsTo (G : GG) (l : Launch) (q qc qf qt qw sn r0 : Nat) (fs gs : List Value) (fr to wy : Nat → Nat) (pl : Int32) (f0 : fs[0]? = some (.ref qw)) (f2 : fs[2]? = some (.int (nI sn))) (f6 : fs[6]? = some (.int pl)) (g0 : gs[0]? = some (.ref qf)) (g1 : gs[1]? = some (.ref qt)) (hs : sn ≤ 24) (hr0 : r0 < 10) (hfr : ∀ j, j < sn → fr j < 10) (hto : ∀ j, j < sn → to j < 10) : Met l yX4_waysOfPlainCallsTo wsX4_waysOfPlainCallsTo { frames := 1, cells := 0, slots := 0, locals := 21 } (RPc G [.ref q, .ref qc, .int (nI r0)] [(q, ob 4 fs), (qc, ob 1 gs), (qf, iA G 24 (fun j => nI (fr j))), (qt, iA G 24 (fun j => nI (to j))), (qw, iA G 10 (fun j => nI (wy j)))]) (vp_Si (fun r => r = nI (sumF (fun j => hbt pl j && to j == r0) (fun j => wy (fr j)) sn))) 0 0 (fun _ => False) := by
  refine Met.ofW (cc := cX4_waysOfPlainCallsTo) (maxL := 5) (ret := (some .int)) (by decide) rfl ?_
  intro p e s m args below meth c s₁ B hml hv
  obtain ⟨rfl, hP, hK⟩ := hv
  have hx := B.exec
  have hb := B.bytes
  have hr := B.returns
  have hts := atoms_spec (ws := wsX4_waysOfPlainCallsTo) B.pre
  have hown : s.vm.findClass RX4 = some m.cls := findClass_of_methodNamed B.named
  have hlocks := B.notSynchronized
  have hl := lv_entry ([.ref q, .ref qc, .int (nI r0)]) (n := 5) (Nat.le_of_ble_eq_true rfl)
  rw [lg_entry_eq]
  generalize (lg_sl ([.ref q, .ref qc, .int (nI r0)]) ++ List.replicate (5 - (lg_sl ([.ref q, .ref qc, .int (nI r0)])).length) Slot.unset).toArray = ls at hl ⊢
  have hl : lv_has ls 5 [(0, .ref q), (1, .ref qc), (2, .int (nI r0))] := hl
  refine lv_iconst (v := nI 0) hx hb dX4_waysOfPlainCallsTo_0 (by decide) ?_
  refine lv_istore_n (lv' := [(3, .int (nI 0)), (0, .ref q), (1, .ref qc), (2, .int (nI r0))]) hx hb dX4_waysOfPlainCallsTo_1 rfl hl (by decide) rfl (fun ls hl => ?_)
  refine lv_iconst (v := nI 0) hx hb dX4_waysOfPlainCallsTo_2 (by decide) ?_
  refine lv_istore (lv' := [(4, .int (nI 0)), (3, .int (nI 0)), (0, .ref q), (1, .ref qc), (2, .int (nI r0))]) hx hb dX4_waysOfPlainCallsTo_3 hl (by decide) rfl (fun ls hl => ?_)
  have loop_1 : ∀ (N : Nat) (i : Nat) (acc : Nat), (i ≤ sn) → (acc = sumF (fun j => hbt pl j && to j == r0) (fun j => wy (fr j)) i) → (sn - i) < N → ∀ (ls : Array Slot), lv_has ls 5 [(0, .ref q), (1, .ref qc), (2, .int (nI r0)), (3, .int (nI acc)), (4, .int (nI i))] → W p l e (headSpec wsX4_waysOfPlainCallsTo { frames := 1, cells := 0, slots := 0, locals := 21 }).room s m ([.ref q, .ref qc, .int (nI r0)]).toArray below meth c s.heap [] 0 0 (MQ below (vp_Si (fun r => r = nI (sumF (fun j => hbt pl j && to j == r0) (fun j => wy (fr j)) sn))) ([.ref q, .ref qc, .int (nI r0)]).toArray s 0 0 (fun _ => False)) (F0 m 5 ls []) := by
    intro N
    induction N with
    | zero =>
      intro i acc hi hacc hm
      exact absurd hm (Nat.not_lt_zero _)
    | succ N ih =>
      intro i acc hi hacc hm ls hl
      refine lv_iload hx hb dX4_waysOfPlainCallsTo_5 (lv_at hl 4 rfl) ?_
      refine lv_aload_n hx hb dX4_waysOfPlainCallsTo_7 rfl (lv_at hl 0 rfl) ?_
      refine va_get (D := G.1) (ci := 4) (v := .int (nI sn)) (C := RX4) (T := TX4) (N := 7) hx hb hts (by decide +kernel) hown hK.1 hP 0 rfl rfl 2 (by decide) (hts (.fieldLink RX4 31 "CallNumbers$Plan" "seen" "I") (by decide +kernel)) (fun _ h9 => h9) f2 dX4_waysOfPlainCallsTo_8 ?_
      refine lv_icmp_ge (tgt := 58) hx hb dX4_waysOfPlainCallsTo_11 (by decide) (fun c11 => ?_) (fun c11 => ?_)
      · skip
        have c11 := Nat.not_lt.mpr ((nI_leI (a := sn) (b := i) (by omega) (by omega)).mp c11)
        refine lv_iload_n hx hb dX4_waysOfPlainCallsTo_58 rfl (lv_at hl 3 rfl) ?_
        exact W.iret (v := nI acc) hx hb hr (fun t ht _ => ⟨_, rfl, by rw [hacc]; rw [show i = sn by omega], ht⟩) (fun _ h9 => by cases h9) dX4_waysOfPlainCallsTo_59
      · skip
        have c11 := Nat.not_le.mp (mt (nI_leI (a := sn) (b := i) (by omega) (by omega)).mpr c11)
        have hfi := hfr i (by omega)
        have hti := hto i (by omega)
        refine lv_aload_n hx hb dX4_waysOfPlainCallsTo_14 rfl (lv_at hl 0 rfl) ?_
        refine va_get (D := G.1) (ci := 4) (v := .int pl) (C := RX4) (T := TX4) (N := 7) hx hb hts (by decide +kernel) hown hK.1 hP 0 rfl rfl 6 (by decide) (hts (.fieldLink RX4 68 "CallNumbers$Plan" "plain" "I") (by decide +kernel)) (fun _ h9 => h9) f6 dX4_waysOfPlainCallsTo_15 ?_
        refine lv_iload hx hb dX4_waysOfPlainCallsTo_18 (lv_at hl 4 rfl) ?_
        have hP_2 : PP G [] s.heap := hP.sub [] rfl
        refine csi (va_runSN (As := [.int pl, .int (nI i)]) (rest := []) ⟨hx, hb, hml, hown, hts⟩ (c_X7_has G l pl i) (⟨va_cnB 2 hts gX4_waysOfPlainCallsTo_X7_has_n74 rfl rfl rfl (hK.2.1.m 9 rfl) (hts (.initialized RX7) (by decide +kernel)) (by decide +kernel) ⟨Nat.le_of_ble_eq_true rfl, Nat.le_of_ble_eq_true rfl⟩, hts (.static yX7_has) (by decide +kernel), trivial⟩) (preR hK hP_2) rfl rfl hl.1 rfl (lv_room (Nat.le_of_ble_eq_true rfl)) dX4_waysOfPlainCallsTo_20 ⟨Nat.zero_le _, Nat.zero_le _⟩) (fun r_3 h_4 => ?_)
        rcases h_4 with ⟨rfl, g20⟩ | ⟨rfl, g20⟩
        · skip
          refine lv_if_eq (tgt := 52) hx hb dX4_waysOfPlainCallsTo_23 (by decide) (fun c9 => absurd c9 (by decide)) (fun _ => ?_)
          refine lv_aload_n hx hb dX4_waysOfPlainCallsTo_26 rfl (lv_at hl 1 rfl) ?_
          refine va_getN (D := G.1) (ci := 1) (v := .ref qt) (C := RX1) (T := TX1) (N := 3) hx hb hts (by decide +kernel) hown hK.1 hP 1 rfl rfl 1 (by decide) (hK.2.1.f 8 rfl) (fun _ h9 => h9) g1 dX4_waysOfPlainCallsTo_27 ?_
          refine lv_iload hx hb dX4_waysOfPlainCallsTo_30 (lv_at hl 4 rfl) ?_
          refine ialdN (k := i) (f := to) hx hb hK.1 hP 3 0 rfl rfl (rfl) (by omega) (Nat.le_of_ble_eq_true rfl) dX4_waysOfPlainCallsTo_32 ?_
          refine lv_iload_n hx hb dX4_waysOfPlainCallsTo_33 rfl (lv_at hl 2 rfl) ?_
          refine lv_icmp_ne (tgt := 52) hx hb dX4_waysOfPlainCallsTo_34 (by decide) (fun c34 => ?_) (fun c34 => ?_)
          · skip
            have c34 := mt (nI_eq (a := to i) (b := r0) (by omega) (by omega)).mpr c34
            refine lv_iinc (v := nI (i + 1)) (lv' := [(4, .int (nI (i + 1))), (0, .ref q), (1, .ref qc), (2, .int (nI r0)), (3, .int (nI acc))]) hx hb dX4_waysOfPlainCallsTo_52 hl (k := 4) rfl (iinc1 i) (by decide) rfl (fun ls hl => ?_)
            refine lv_goto (tgt := 5) hx hb dX4_waysOfPlainCallsTo_55 (by decide) ?_
            exact ih (i + 1) acc (by omega) (by rw [hacc]; simp [sumF, g20, c34]) (by omega) ls (lv_sub hl [1, 2, 3, 4, 0] rfl)
          · skip
            have c34 := (nI_eq (a := to i) (b := r0) (by omega) (by omega)).mp c34
            refine lv_iload_n hx hb dX4_waysOfPlainCallsTo_37 rfl (lv_at hl 3 rfl) ?_
            refine lv_aload_n hx hb dX4_waysOfPlainCallsTo_38 rfl (lv_at hl 0 rfl) ?_
            refine va_get (D := G.1) (ci := 4) (v := .ref qw) (C := RX4) (T := TX4) (N := 7) hx hb hts (by decide +kernel) hown hK.1 hP 0 rfl rfl 0 (by decide) (hts (.fieldLink RX4 9 "CallNumbers$Plan" "ways" "[I") (by decide +kernel)) (fun _ h9 => h9) f0 dX4_waysOfPlainCallsTo_39 ?_
            refine lv_aload_n hx hb dX4_waysOfPlainCallsTo_42 rfl (lv_at hl 1 rfl) ?_
            refine va_getN (D := G.1) (ci := 1) (v := .ref qf) (C := RX1) (T := TX1) (N := 3) hx hb hts (by decide +kernel) hown hK.1 hP 1 rfl rfl 0 (by decide) (hK.2.1.f 3 rfl) (fun _ h9 => h9) g0 dX4_waysOfPlainCallsTo_43 ?_
            refine lv_iload hx hb dX4_waysOfPlainCallsTo_46 (lv_at hl 4 rfl) ?_
            refine ialdN (k := i) (f := fr) hx hb hK.1 hP 2 0 rfl rfl (rfl) (by omega) (Nat.le_of_ble_eq_true rfl) dX4_waysOfPlainCallsTo_48 ?_
            refine ialdN (k := fr i) (f := wy) hx hb hK.1 hP 4 0 rfl rfl (rfl) (by omega) (Nat.le_of_ble_eq_true rfl) dX4_waysOfPlainCallsTo_49 ?_
            refine lv_iadd hx hb dX4_waysOfPlainCallsTo_50 ?_
            refine lv_topi (fun v ev => ?_)
            obtain rfl : v = nI (acc + (wy (fr i))) := ev.trans (nI_add _ _)
            refine lv_istore_n (lv' := [(3, .int (nI (acc + (wy (fr i))))), (0, .ref q), (1, .ref qc), (2, .int (nI r0)), (4, .int (nI i))]) hx hb dX4_waysOfPlainCallsTo_51 rfl hl (by decide) rfl (fun ls hl => ?_)
            refine lv_iinc (v := nI (i + 1)) (lv' := [(4, .int (nI (i + 1))), (3, .int (nI (acc + (wy (fr i))))), (0, .ref q), (1, .ref qc), (2, .int (nI r0))]) hx hb dX4_waysOfPlainCallsTo_52 hl (k := 4) rfl (iinc1 i) (by decide) rfl (fun ls hl => ?_)
            refine lv_goto (tgt := 5) hx hb dX4_waysOfPlainCallsTo_55 (by decide) ?_
            exact ih (i + 1) (acc + (wy (fr i))) (by omega) (by rw [hacc]; simp [sumF, g20, c34]) (by omega) ls (lv_sub hl [2, 3, 4, 1, 0] rfl)
        · skip
          refine lv_if_eq (tgt := 52) hx hb dX4_waysOfPlainCallsTo_23 (by decide) (fun _ => ?_) (fun c9 => absurd c9 (by decide))
          refine lv_iinc (v := nI (i + 1)) (lv' := [(4, .int (nI (i + 1))), (0, .ref q), (1, .ref qc), (2, .int (nI r0)), (3, .int (nI acc))]) hx hb dX4_waysOfPlainCallsTo_52 hl (k := 4) rfl (iinc1 i) (by decide) rfl (fun ls hl => ?_)
          refine lv_goto (tgt := 5) hx hb dX4_waysOfPlainCallsTo_55 (by decide) ?_
          exact ih (i + 1) acc (by omega) (by rw [hacc]; simp [sumF, g20]) (by omega) ls (lv_sub hl [1, 2, 3, 4, 0] rfl)
  exact loop_1 _ 0 0 (Nat.zero_le _) (rfl) (Nat.lt_succ_self _) ls (lv_sub hl [2, 3, 4, 1, 0] rfl)
set_option maxHeartbeats 4000000 in
set_option maxRecDepth 100000 in
theorem c_X3_lastCall (G : GG) (l : Launch) (q qc qf qt qw qa sn r0 num : Nat) (fs gs : List Value) (fr to wy ad : Nat → Nat) (pl : Int32) (f0 : fs[0]? = some (.ref qw)) (f1 : fs[1]? = some (.ref qa)) (f2 : fs[2]? = some (.int (nI sn))) (f6 : fs[6]? = some (.int pl)) (g0 : gs[0]? = some (.ref qf)) (g1 : gs[1]? = some (.ref qt)) (hs : sn ≤ 24) (hr0 : r0 < 10) (hfr : ∀ j, j < sn → fr j < 10) (hto : ∀ j, j < sn → to j < 10) (had : ∀ j, j < sn → ad j ≤ 24000000) (hwy : ∀ j, j < 10 → wy j ≤ 1000000) (hnum : num ≤ 1000000000) : Met l yX3_lastCall wsX3_lastCall { frames := 1, cells := 0, slots := 0, locals := 21 } (RPc G [.ref q, .ref qc, .int (nI r0), .int (nI num)] [(q, ob 4 fs), (qc, ob 1 gs), (qf, iA G 24 (fun j => nI (fr j))), (qt, iA G 24 (fun j => nI (to j))), (qw, iA G 10 (fun j => nI (wy j))), (qa, iA G 24 (fun j => nI (ad j)))]) (vp_Si (fun r => (∃ k, firstF (lastP pl ad wy fr to r0 num) sn = some k ∧ r = nI k) ∨ (firstF (lastP pl ad wy fr to r0 num) sn = none ∧ r = -9))) 0 0 (fun _ => False) := by
  refine Met.ofW (cc := cX3_lastCall) (maxL := 6) (ret := (some .int)) (by decide) rfl ?_
  intro p e s m args below meth c s₁ B hml hv
  obtain ⟨rfl, hP, hK⟩ := hv
  have hx := B.exec
  have hb := B.bytes
  have hr := B.returns
  have hts := atoms_spec (ws := wsX3_lastCall) B.pre
  have hown : s.vm.findClass RX3 = some m.cls := findClass_of_methodNamed B.named
  have hlocks := B.notSynchronized
  have hl := lv_entry ([.ref q, .ref qc, .int (nI r0), .int (nI num)]) (n := 6) (Nat.le_of_ble_eq_true rfl)
  rw [lg_entry_eq]
  generalize (lg_sl ([.ref q, .ref qc, .int (nI r0), .int (nI num)]) ++ List.replicate (6 - (lg_sl ([.ref q, .ref qc, .int (nI r0), .int (nI num)])).length) Slot.unset).toArray = ls at hl ⊢
  have hl : lv_has ls 6 [(0, .ref q), (1, .ref qc), (2, .int (nI r0)), (3, .int (nI num))] := hl
  refine lv_iconst (v := nI 0) hx hb dX3_lastCall_0 (by decide) ?_
  refine lv_istore (lv' := [(4, .int (nI 0)), (0, .ref q), (1, .ref qc), (2, .int (nI r0)), (3, .int (nI num))]) hx hb dX3_lastCall_1 hl (by decide) rfl (fun ls hl => ?_)
  have loop_1 : ∀ (N : Nat) (i : Nat), (i ≤ sn) → (∀ j, j < i → lastP pl ad wy fr to r0 num j = false) → (sn - i) < N → ∀ (ls : Array Slot), lv_has ls 6 [(0, .ref q), (1, .ref qc), (2, .int (nI r0)), (3, .int (nI num)), (4, .int (nI i))] → W p l e (headSpec wsX3_lastCall { frames := 1, cells := 0, slots := 0, locals := 21 }).room s m ([.ref q, .ref qc, .int (nI r0), .int (nI num)]).toArray below meth c s.heap [] 0 0 (MQ below (vp_Si (fun r => (∃ k, firstF (lastP pl ad wy fr to r0 num) sn = some k ∧ r = nI k) ∨ (firstF (lastP pl ad wy fr to r0 num) sn = none ∧ r = -9))) ([.ref q, .ref qc, .int (nI r0), .int (nI num)]).toArray s 0 0 (fun _ => False)) (F0 m 3 ls []) := by
    intro N
    induction N with
    | zero =>
      intro i hi hf hm
      exact absurd hm (Nat.not_lt_zero _)
    | succ N ih =>
      intro i hi hf hm ls hl
      refine lv_iload hx hb dX3_lastCall_3 (lv_at hl 4 rfl) ?_
      refine lv_aload_n hx hb dX3_lastCall_5 rfl (lv_at hl 0 rfl) ?_
      refine va_getN (D := G.1) (ci := 4) (v := .int (nI sn)) (C := RX4) (T := TX4) (N := 7) hx hb hts (by decide +kernel) hown hK.1 hP 0 rfl rfl 2 (by decide) (hK.2.1.f 30 rfl) (fun _ h9 => h9) f2 dX3_lastCall_6 ?_
      refine lv_icmp_ge (tgt := 77) hx hb dX3_lastCall_9 (by decide) (fun c9 => ?_) (fun c9 => ?_)
      · skip
        have c9 := Nat.not_lt.mpr ((nI_leI (a := sn) (b := i) (by omega) (by omega)).mp c9)
        refine lv_bipush (v := (-9)) hx hb dX3_lastCall_77 (by decide) ?_
        exact W.iret (v := (-9)) hx hb hr (fun t ht _ => ⟨_, rfl, Or.inr ⟨firstF_none (fun j hj => hf j (by omega)), rfl⟩, ht⟩) (fun _ h9 => by cases h9) dX3_lastCall_79
      · skip
        have c9 := Nat.not_le.mp (mt (nI_leI (a := sn) (b := i) (by omega) (by omega)).mpr c9)
        have hfi := hfr i (by omega)
        have hti := hto i (by omega)
        have hai := had i (by omega)
        have hwi := hwy (fr i) hfi
        refine lv_aload_n hx hb dX3_lastCall_12 rfl (lv_at hl 0 rfl) ?_
        refine va_getN (D := G.1) (ci := 4) (v := .int pl) (C := RX4) (T := TX4) (N := 7) hx hb hts (by decide +kernel) hown hK.1 hP 0 rfl rfl 6 (by decide) (hK.2.1.f 35 rfl) (fun _ h9 => h9) f6 dX3_lastCall_13 ?_
        refine lv_iload hx hb dX3_lastCall_16 (lv_at hl 4 rfl) ?_
        have hP_2 : PP G [] s.heap := hP.sub [] rfl
        refine csi (va_runSN (As := [.int pl, .int (nI i)]) (rest := []) ⟨hx, hb, hml, hown, hts⟩ (c_X7_has G l pl i) (⟨va_cnB 2 hts gX3_lastCall_X7_has_n39 rfl rfl rfl (hK.2.1.m 12 rfl) (hts (.initialized RX7) (by decide +kernel)) (by decide +kernel) ⟨Nat.le_of_ble_eq_true rfl, Nat.le_of_ble_eq_true rfl⟩, hts (.static yX7_has) (by decide +kernel), trivial⟩) (preR hK hP_2) rfl rfl hl.1 rfl (lv_room (Nat.le_of_ble_eq_true rfl)) dX3_lastCall_18 ⟨Nat.zero_le _, Nat.zero_le _⟩) (fun r_3 h_4 => ?_)
        rcases h_4 with ⟨rfl, g18⟩ | ⟨rfl, g18⟩
        · skip
          refine lv_if_eq (tgt := 71) hx hb dX3_lastCall_21 (by decide) (fun c9 => absurd c9 (by decide)) (fun _ => ?_)
          refine lv_aload_n hx hb dX3_lastCall_24 rfl (lv_at hl 1 rfl) ?_
          refine va_getN (D := G.1) (ci := 1) (v := .ref qt) (C := RX1) (T := TX1) (N := 3) hx hb hts (by decide +kernel) hown hK.1 hP 1 rfl rfl 1 (by decide) (hK.2.1.f 9 rfl) (fun _ h9 => h9) g1 dX3_lastCall_25 ?_
          refine lv_iload hx hb dX3_lastCall_28 (lv_at hl 4 rfl) ?_
          refine ialdN (k := i) (f := to) hx hb hK.1 hP 3 0 rfl rfl (rfl) (by omega) (Nat.le_of_ble_eq_true rfl) dX3_lastCall_30 ?_
          refine lv_iload_n hx hb dX3_lastCall_31 rfl (lv_at hl 2 rfl) ?_
          refine lv_icmp_ne (tgt := 71) hx hb dX3_lastCall_32 (by decide) (fun c32 => ?_) (fun c32 => ?_)
          · skip
            have c32 := mt (nI_eq (a := to i) (b := r0) (by omega) (by omega)).mpr c32
            refine lv_iinc (v := nI (i + 1)) (lv' := [(4, .int (nI (i + 1))), (0, .ref q), (1, .ref qc), (2, .int (nI r0)), (3, .int (nI num))]) hx hb dX3_lastCall_71 hl (k := 4) rfl (iinc1 i) (by decide) rfl (fun ls hl => ?_)
            refine lv_goto (tgt := 3) hx hb dX3_lastCall_74 (by decide) ?_
            exact ih (i + 1) (by omega) (lt_s hf (by simp [lastP, g18, c32])) (by omega) ls (lv_sub hl [1, 2, 3, 4, 0] rfl)
          · skip
            have c32 := (nI_eq (a := to i) (b := r0) (by omega) (by omega)).mp c32
            refine lv_iload_n hx hb dX3_lastCall_35 rfl (lv_at hl 3 rfl) ?_
            refine lv_aload_n hx hb dX3_lastCall_36 rfl (lv_at hl 0 rfl) ?_
            refine va_getN (D := G.1) (ci := 4) (v := .ref qa) (C := RX4) (T := TX4) (N := 7) hx hb hts (by decide +kernel) hown hK.1 hP 0 rfl rfl 1 (by decide) (hK.2.1.f 28 rfl) (fun _ h9 => h9) f1 dX3_lastCall_37 ?_
            refine lv_iload hx hb dX3_lastCall_40 (lv_at hl 4 rfl) ?_
            refine ialdN (k := i) (f := ad) hx hb hK.1 hP 5 0 rfl rfl (rfl) (by omega) (Nat.le_of_ble_eq_true rfl) dX3_lastCall_42 ?_
            refine lv_isub hx hb dX3_lastCall_43 ?_
            refine lv_istore (lv' := [(5, .int (nI num - nI (ad i))), (0, .ref q), (1, .ref qc), (2, .int (nI r0)), (3, .int (nI num)), (4, .int (nI i))]) hx hb dX3_lastCall_44 hl (by decide) rfl (fun ls hl => ?_)
            refine lv_iload hx hb dX3_lastCall_46 (lv_at hl 0 rfl) ?_
            refine lv_if_lt (tgt := 71) hx hb dX3_lastCall_48 (by decide) (fun c48 => ?_) (fun c48 => ?_)
            · skip
              have c48 := (left_neg (a := num) (b := (ad i)) (by omega) (by omega)).mp c48
              refine lv_iinc (v := nI (i + 1)) (lv' := [(4, .int (nI (i + 1))), (5, .int (nI num - nI (ad i))), (0, .ref q), (1, .ref qc), (2, .int (nI r0)), (3, .int (nI num))]) hx hb dX3_lastCall_71 hl (k := 5) rfl (iinc1 i) (by decide) rfl (fun ls hl => ?_)
              refine lv_goto (tgt := 3) hx hb dX3_lastCall_74 (by decide) ?_
              exact ih (i + 1) (by omega) (lt_s hf (by simp [lastP, g18, c32, c48])) (by omega) ls (lv_sub hl [2, 3, 4, 5, 0] rfl)
            · skip
              have c48 := mt (left_neg (a := num) (b := (ad i)) (by omega) (by omega)).mpr c48
              refine lv_iload hx hb dX3_lastCall_51 (lv_at hl 0 rfl) ?_
              refine lv_aload_n hx hb dX3_lastCall_53 rfl (lv_at hl 1 rfl) ?_
              refine va_getN (D := G.1) (ci := 4) (v := .ref qw) (C := RX4) (T := TX4) (N := 7) hx hb hts (by decide +kernel) hown hK.1 hP 0 rfl rfl 0 (by decide) (hK.2.1.f 25 rfl) (fun _ h9 => h9) f0 dX3_lastCall_54 ?_
              refine lv_aload_n hx hb dX3_lastCall_57 rfl (lv_at hl 2 rfl) ?_
              refine va_getN (D := G.1) (ci := 1) (v := .ref qf) (C := RX1) (T := TX1) (N := 3) hx hb hts (by decide +kernel) hown hK.1 hP 1 rfl rfl 0 (by decide) (hK.2.1.f 2 rfl) (fun _ h9 => h9) g0 dX3_lastCall_58 ?_
              refine lv_iload hx hb dX3_lastCall_61 (lv_at hl 5 rfl) ?_
              refine ialdN (k := i) (f := fr) hx hb hK.1 hP 2 0 rfl rfl (rfl) (by omega) (Nat.le_of_ble_eq_true rfl) dX3_lastCall_63 ?_
              refine ialdN (k := fr i) (f := wy) hx hb hK.1 hP 4 0 rfl rfl (rfl) (by omega) (Nat.le_of_ble_eq_true rfl) dX3_lastCall_64 ?_
              refine lv_icmp_ge (tgt := 71) hx hb dX3_lastCall_65 (by decide) (fun c65 => ?_) (fun c65 => ?_)
              · skip
                have c65 := (left_ge (a := num) (b := (ad i)) (w := wy (fr i)) (by omega) (by omega) (by omega)).mp c65
                refine lv_iinc (v := nI (i + 1)) (lv' := [(4, .int (nI (i + 1))), (5, .int (nI num - nI (ad i))), (0, .ref q), (1, .ref qc), (2, .int (nI r0)), (3, .int (nI num))]) hx hb dX3_lastCall_71 hl (k := 5) rfl (iinc1 i) (by decide) rfl (fun ls hl => ?_)
                refine lv_goto (tgt := 3) hx hb dX3_lastCall_74 (by decide) ?_
                exact ih (i + 1) (by omega) (lt_s hf (by simp [lastP, g18, c32, c48, c65])) (by omega) ls (lv_sub hl [2, 3, 4, 5, 0] rfl)
              · skip
                have c65 := mt (left_ge (a := num) (b := (ad i)) (w := wy (fr i)) (by omega) (by omega) (by omega)).mpr c65
                refine lv_iload hx hb dX3_lastCall_68 (lv_at hl 5 rfl) ?_
                exact W.iret (v := nI i) hx hb hr (fun t ht _ => ⟨_, rfl, Or.inl ⟨i, firstF_some (by omega) (by simp [lastP, g18, c32, c48, c65]) hf, rfl⟩, ht⟩) (fun _ h9 => by cases h9) dX3_lastCall_70
        · skip
          refine lv_if_eq (tgt := 71) hx hb dX3_lastCall_21 (by decide) (fun _ => ?_) (fun c9 => absurd c9 (by decide))
          refine lv_iinc (v := nI (i + 1)) (lv' := [(4, .int (nI (i + 1))), (0, .ref q), (1, .ref qc), (2, .int (nI r0)), (3, .int (nI num))]) hx hb dX3_lastCall_71 hl (k := 4) rfl (iinc1 i) (by decide) rfl (fun ls hl => ?_)
          refine lv_goto (tgt := 3) hx hb dX3_lastCall_74 (by decide) ?_
          exact ih (i + 1) (by omega) (lt_s hf (by simp [lastP, g18])) (by omega) ls (lv_sub hl [1, 2, 3, 4, 0] rfl)
  exact loop_1 _ 0 (Nat.zero_le _) (lt_0) (Nat.lt_succ_self _) ls (lv_sub hl [1, 2, 3, 4, 0] rfl)
end
section
theorem left_in {a b w : Nat} (h0 : ¬ nI a - nI b < nI 0) (h1 : ¬ nI (w - 1) < nI a - nI b) (ha : a < 2 ^ 30) (hb : b < 2 ^ 30) (hw : w < 2 ^ 30) (hw1 : 1 ≤ w) : ¬ a < b ∧ ¬ b + w ≤ a := by
  have h2 := mt (left_neg ha hb).mpr h0
  have h3 : ¬ (nI (w - 1)).toInt < (nI a - nI b).toInt := fun z => h1 (Int32.lt_iff_toInt_lt.mpr z)
  rw [pk_sub_toInt ha hb, nI_toInt (by omega)] at h3
  omega
theorem left_out {a b w : Nat} (h : nI a - nI b < nI 0 ∨ nI (w - 1) < nI a - nI b) (ha : a < 2 ^ 30) (hb : b < 2 ^ 30) (hw : w < 2 ^ 30) (hw1 : 1 ≤ w) : b ≤ a → b + w ≤ a := by
  rcases h with h | h
  · have := (left_neg ha hb).mp h
    omega
  · have h3 := Int32.lt_iff_toInt_lt.mp h
    rw [pk_sub_toInt ha hb, nI_toInt (by omega)] at h3
    omega
set_option maxHeartbeats 4000000 in
set_option maxRecDepth 100000 in
theorem c_X8_here (G : GG) (l : Launch) (o : Nat) (fs : List Value) (dp : Nat) (qa2 : Nat) (to : Nat → Nat) (qa19 : Nat) (sk : Nat → Nat) (f2 : fs[2]? = some (.ref qa2)) (f18 : fs[18]? = some (.int (nI dp))) (f19 : fs[19]? = some (.ref qa19))  (hd : dp ≤ 30) (hrow : ∀ j, j < dp → sk j < 24) : Met l yX8_here wsX8_here { frames := 0, cells := 0, slots := 0, locals := 0 } (RPc G [.ref o] [(o, ob 8 fs), (qa2, iA G 24 (fun j => nI (to j))), (qa19, iA G 30 (fun j => nI (sk j)))]) (vp_Si (fun r => r = nI (hereF to sk dp))) 0 0 (fun _ => False) := by
  refine Met.ofW (cc := cX8_here) (maxL := 1) (ret := (some .int)) (by decide) rfl ?_
  intro p e s m args below meth c s₁ B hml hv
  obtain ⟨rfl, hP, hK⟩ := hv
  have hx := B.exec
  have hb := B.bytes
  have hr := B.returns
  have hts := atoms_spec (ws := wsX8_here) B.pre
  have hown : s.vm.findClass RX8 = some m.cls := findClass_of_methodNamed B.named
  have hlocks := B.notSynchronized
  have hl := lv_entry ([.ref o]) (n := 1) (Nat.le_of_ble_eq_true rfl)
  rw [lg_entry_eq]
  generalize (lg_sl ([.ref o]) ++ List.replicate (1 - (lg_sl ([.ref o])).length) Slot.unset).toArray = ls at hl ⊢
  have hl : lv_has ls 1 [(0, .ref o)] := hl
  refine lv_aload_n hx hb dX8_here_0 rfl (lv_at hl 0 rfl) ?_
  refine va_get (D := G.1) (ci := 8) (v := .int (nI dp)) (C := RX8) (T := TX8) (N := 28) hx hb hts (by decide +kernel) hown hK.1 hP 0 rfl rfl 18 (by decide) (hts (.fieldLink RX8 143 "CallNumbersModel" "deep" "I") (by decide +kernel)) (fun _ h9 => h9) f18 dX8_here_1 ?_
  refine lv_if_ne (tgt := 11) hx hb dX8_here_4 (by decide) (fun c4 => ?_) (fun c4 => ?_)
  · skip
    have c4 := mt (z_eq (k := dp) (by omega)).mpr c4
    refine lv_aload_n hx hb dX8_here_11 rfl (lv_at hl 0 rfl) ?_
    refine va_get (D := G.1) (ci := 8) (v := .ref qa2) (C := RX8) (T := TX8) (N := 28) hx hb hts (by decide +kernel) hown hK.1 hP 0 rfl rfl 2 (by decide) (hts (.fieldLink RX8 13 "CallNumbersModel" "toOf" "[I") (by decide +kernel)) (fun _ h9 => h9) f2 dX8_here_12 ?_
    refine lv_aload_n hx hb dX8_here_15 rfl (lv_at hl 0 rfl) ?_
    refine va_get (D := G.1) (ci := 8) (v := .ref qa19) (C := RX8) (T := TX8) (N := 28) hx hb hts (by decide +kernel) hown hK.1 hP 0 rfl rfl 19 (by decide) (hts (.fieldLink RX8 50 "CallNumbersModel" "stack" "[I") (by decide +kernel)) (fun _ h9 => h9) f19 dX8_here_16 ?_
    refine lv_aload_n hx hb dX8_here_19 rfl (lv_at hl 0 rfl) ?_
    refine va_get (D := G.1) (ci := 8) (v := .int (nI dp)) (C := RX8) (T := TX8) (N := 28) hx hb hts (by decide +kernel) hown hK.1 hP 0 rfl rfl 18 (by decide) (hts (.fieldLink RX8 143 "CallNumbersModel" "deep" "I") (by decide +kernel)) (fun _ h9 => h9) f18 dX8_here_20 ?_
    refine lv_iconst (v := nI 1) hx hb dX8_here_23 (by decide) ?_
    refine lv_isub hx hb dX8_here_24 ?_
    refine lv_topi (fun v ev => ?_)
    obtain rfl : v = nI (dp - 1) := ev.trans (pk_sub (by omega))
    refine ialdN (k := dp - 1) (f := sk) hx hb hK.1 hP 2 0 rfl rfl (rfl) (by omega) (Nat.le_of_ble_eq_true rfl) dX8_here_25 ?_
    refine ialdN (k := sk (dp - 1)) (f := to) hx hb hK.1 hP 1 0 rfl rfl (rfl) (hrow _ (by omega)) (Nat.le_of_ble_eq_true rfl) dX8_here_26 ?_
    exact W.iret (v := nI (to (sk (dp - 1)))) hx hb hr (fun t ht _ => ⟨_, rfl, by rw [hereF, if_neg c4], ht⟩) (fun _ h9 => by cases h9) dX8_here_27
  · skip
    have c4 := (z_eq (k := dp) (by omega)).mp c4
    refine lv_iconst (v := nI 0) hx hb dX8_here_7 (by decide) ?_
    refine lv_goto (tgt := 27) hx hb dX8_here_8 (by decide) ?_
    exact W.iret (v := nI 0) hx hb hr (fun t ht _ => ⟨_, rfl, by rw [hereF, if_pos c4], ht⟩) (fun _ h9 => by cases h9) dX8_here_27
set_option maxHeartbeats 4000000 in
set_option maxRecDepth 100000 in
theorem c_X8_running (G : GG) (l : Launch) (o : Nat) (fs : List Value) (dp : Nat) (qa19 : Nat) (sk : Nat → Nat) (f18 : fs[18]? = some (.int (nI dp))) (f19 : fs[19]? = some (.ref qa19)) (x : Int32) (hd : dp ≤ 30) : Met l yX8_running wsX8_running { frames := 0, cells := 0, slots := 0, locals := 0 } (RPc G [.ref o, .int x] [(o, ob 8 fs), (qa19, iA G 30 (fun j => nI (sk j)))]) (vp_Si (fun r => r = A_running dp sk x)) 0 0 (fun _ => False) := by
  refine Met.ofW (cc := cX8_running) (maxL := 2) (ret := (some .int)) (by decide) rfl ?_
  intro p e s m args below meth c s₁ B hml hv
  obtain ⟨rfl, hP, hK⟩ := hv
  have hx := B.exec
  have hb := B.bytes
  have hr := B.returns
  have hts := atoms_spec (ws := wsX8_running) B.pre
  have hown : s.vm.findClass RX8 = some m.cls := findClass_of_methodNamed B.named
  have hlocks := B.notSynchronized
  have hl := lv_entry ([.ref o, .int x]) (n := 2) (Nat.le_of_ble_eq_true rfl)
  rw [lg_entry_eq]
  generalize (lg_sl ([.ref o, .int x]) ++ List.replicate (2 - (lg_sl ([.ref o, .int x])).length) Slot.unset).toArray = ls at hl ⊢
  have hl : lv_has ls 2 [(0, .ref o), (1, .int x)] := hl
  refine lv_iload_n hx hb dX8_running_0 rfl (lv_at hl 1 rfl) ?_
  refine lv_if_ge (tgt := 9) hx hb dX8_running_1 (by decide) (fun c1 => ?_) (fun c1 => ?_)
  · skip
    refine lv_iload_n hx hb dX8_running_9 rfl (lv_at hl 1 rfl) ?_
    refine lv_aload_n hx hb dX8_running_10 rfl (lv_at hl 0 rfl) ?_
    refine va_get (D := G.1) (ci := 8) (v := .int (nI dp)) (C := RX8) (T := TX8) (N := 28) hx hb hts (by decide +kernel) hown hK.1 hP 0 rfl rfl 18 (by decide) (hts (.fieldLink RX8 143 "CallNumbersModel" "deep" "I") (by decide +kernel)) (fun _ h9 => h9) f18 dX8_running_11 ?_
    refine lv_icmp_ge (tgt := 26) hx hb dX8_running_14 (by decide) (fun c14 => ?_) (fun c14 => ?_)
    · skip
      refine lv_bipush (v := (-9)) hx hb dX8_running_26 (by decide) ?_
      exact W.iret (v := (-9)) hx hb hr (fun t ht _ => ⟨_, rfl, by simp [A_running, Int32.not_lt.mpr c1, ix_out (out_g c14 (Nat.le_refl _) (by omega))], ht⟩) (fun _ h9 => by cases h9) dX8_running_28
    · skip
      obtain ⟨k, hk, rfl⟩ : ∃ k, k < dp ∧ x = nI k := by obtain ⟨j, a, b, -⟩ := pk_mu (Int32.not_lt.mpr c1) c14 (by omega); exact ⟨j, a, b⟩
      refine lv_aload_n hx hb dX8_running_17 rfl (lv_at hl 0 rfl) ?_
      refine va_get (D := G.1) (ci := 8) (v := .ref qa19) (C := RX8) (T := TX8) (N := 28) hx hb hts (by decide +kernel) hown hK.1 hP 0 rfl rfl 19 (by decide) (hts (.fieldLink RX8 50 "CallNumbersModel" "stack" "[I") (by decide +kernel)) (fun _ h9 => h9) f19 dX8_running_18 ?_
      refine lv_iload_n hx hb dX8_running_21 rfl (lv_at hl 1 rfl) ?_
      refine ialdN (k := k) (f := sk) hx hb hK.1 hP 1 0 rfl rfl (rfl) (by omega) (Nat.le_of_ble_eq_true rfl) dX8_running_22 ?_
      refine lv_goto (tgt := 28) hx hb dX8_running_23 (by decide) ?_
      exact W.iret (v := nI (sk k)) hx hb hr (fun t ht _ => ⟨_, rfl, by simp [A_running, Int32.not_lt.mpr c1, ix_in hk (show dp < 2 ^ 31 by omega)], ht⟩) (fun _ h9 => by cases h9) dX8_running_28
  · skip
    refine lv_bipush (v := (-2)) hx hb dX8_running_4 (by decide) ?_
    refine lv_goto (tgt := 28) hx hb dX8_running_6 (by decide) ?_
    exact W.iret (v := (-2)) hx hb hr (fun t ht _ => ⟨_, rfl, by simp [A_running, Int32.not_le.mp c1], ht⟩) (fun _ h9 => by cases h9) dX8_running_28
set_option maxHeartbeats 4000000 in
set_option maxRecDepth 100000 in
theorem c_X8_snapped (G : GG) (l : Launch) (o : Nat) (fs : List Value) (ns : Nat) (qa26 : Nat) (sD : Nat → Nat) (qa27 : Nat) (sS : Nat → Nat) (f24 : fs[24]? = some (.int (nI ns))) (f26 : fs[26]? = some (.ref qa26)) (f27 : fs[27]? = some (.ref qa27)) (x y : Int32) (hs : ns ≤ 10) (hsd : ∀ k, k < ns → sD k ≤ 30) : Met l yX8_snapped wsX8_snapped { frames := 2, cells := 0, slots := 0, locals := 43 } (RPc G [.ref o, .int x, .int y] [(o, ob 8 fs), (qa26, iA G 10 (fun j => nI (sD j))), (qa27, iA G 300 (fun j => nI (sS j)))]) (vp_Si (fun r => r = A_snapped ns sD (fun k j => sS (30 * k + j)) x y)) 0 0 (fun _ => False) := by
  refine Met.ofW (cc := cX8_snapped) (maxL := 3) (ret := (some .int)) (by decide) rfl ?_
  intro p e s m args below meth c s₁ B hml hv
  obtain ⟨rfl, hP, hK⟩ := hv
  have hx := B.exec
  have hb := B.bytes
  have hr := B.returns
  have hts := atoms_spec (ws := wsX8_snapped) B.pre
  have hown : s.vm.findClass RX8 = some m.cls := findClass_of_methodNamed B.named
  have hlocks := B.notSynchronized
  have hl := lv_entry ([.ref o, .int x, .int y]) (n := 3) (Nat.le_of_ble_eq_true rfl)
  rw [lg_entry_eq]
  generalize (lg_sl ([.ref o, .int x, .int y]) ++ List.replicate (3 - (lg_sl ([.ref o, .int x, .int y])).length) Slot.unset).toArray = ls at hl ⊢
  have hl : lv_has ls 3 [(0, .ref o), (1, .int x), (2, .int y)] := hl
  refine lv_aload_n hx hb dX8_snapped_0 rfl (lv_at hl 0 rfl) ?_
  refine lv_iload_n hx hb dX8_snapped_1 rfl (lv_at hl 1 rfl) ?_
  have hP_1 : PP G [(o, ob 8 fs)] s.heap := hP.sub [0] rfl
  refine csi (va_runV (As := [.int x]) (rest := []) ⟨hx, hb, hml, hown, hts⟩ (c_X8_isSnap G l o fs ns f24 x (by omega)) (cwV 1 hts gX8_snapped_X8_isSnap rfl rfl rfl (by decide +kernel) ⟨Nat.le_of_ble_eq_true rfl, Nat.le_of_ble_eq_true rfl⟩) (preRV hK hP_1 0 8 rfl rfl) rfl rfl hl.1 rfl (lv_room (Nat.le_of_ble_eq_true rfl)) dX8_snapped_2 ⟨Nat.zero_le _, Nat.zero_le _⟩) (fun r_2 h_3 => ?_)
  rcases h_3 with ⟨rfl, k2, b2, rfl⟩ | ⟨rfl, b2⟩
  · skip
    refine lv_if_ne (tgt := 10) hx hb dX8_snapped_5 (by decide) (fun _ => ?_) (fun c9 => absurd c9 (by decide))
    have hsd9 := hsd k2 b2
    refine lv_iload_n hx hb dX8_snapped_10 rfl (lv_at hl 2 rfl) ?_
    refine lv_if_ge (tgt := 19) hx hb dX8_snapped_11 (by decide) (fun c11 => ?_) (fun c11 => ?_)
    · skip
      refine lv_iload_n hx hb dX8_snapped_19 rfl (lv_at hl 2 rfl) ?_
      refine lv_aload_n hx hb dX8_snapped_20 rfl (lv_at hl 0 rfl) ?_
      refine va_get (D := G.1) (ci := 8) (v := .ref qa26) (C := RX8) (T := TX8) (N := 28) hx hb hts (by decide +kernel) hown hK.1 hP 0 rfl rfl 26 (by decide) (hts (.fieldLink RX8 65 "CallNumbersModel" "snapDeep" "[I") (by decide +kernel)) (fun _ h9 => h9) f26 dX8_snapped_21 ?_
      refine lv_iload_n hx hb dX8_snapped_24 rfl (lv_at hl 1 rfl) ?_
      refine ialdN (k := k2) (f := sD) hx hb hK.1 hP 1 0 rfl rfl (rfl) (by omega) (Nat.le_of_ble_eq_true rfl) dX8_snapped_25 ?_
      refine lv_icmp_ge (tgt := 43) hx hb dX8_snapped_26 (by decide) (fun c26 => ?_) (fun c26 => ?_)
      · skip
        refine lv_bipush (v := (-9)) hx hb dX8_snapped_43 (by decide) ?_
        exact W.iret (v := (-9)) hx hb hr (fun t ht _ => ⟨_, rfl, by simp [A_snapped, ix_in b2 (show ns < 2 ^ 31 by omega), Int32.not_lt.mpr c11, ix_out (out_g c26 (Nat.le_refl _) (by omega))], ht⟩) (fun _ h9 => by cases h9) dX8_snapped_45
      · skip
        obtain ⟨k, hk, rfl⟩ : ∃ k, k < sD k2 ∧ y = nI k := by obtain ⟨j, a, b, -⟩ := pk_mu (Int32.not_lt.mpr c11) c26 (by omega); exact ⟨j, a, b⟩
        refine lv_aload_n hx hb dX8_snapped_29 rfl (lv_at hl 0 rfl) ?_
        refine va_get (D := G.1) (ci := 8) (v := .ref qa27) (C := RX8) (T := TX8) (N := 28) hx hb hts (by decide +kernel) hown hK.1 hP 0 rfl rfl 27 (by decide) (hts (.fieldLink RX8 68 "CallNumbersModel" "snapStack" "[I") (by decide +kernel)) (fun _ h9 => h9) f27 dX8_snapped_30 ?_
        refine lv_bipush (v := nI 30) hx hb dX8_snapped_33 (by decide) ?_
        refine lv_iload_n hx hb dX8_snapped_35 rfl (lv_at hl 1 rfl) ?_
        refine lv_imul hx hb dX8_snapped_36 ?_
        refine lv_topi (fun v ev => ?_)
        obtain rfl : v = nI (30 * k2) := ev.trans (pk_mul _ _)
        refine lv_iload_n hx hb dX8_snapped_37 rfl (lv_at hl 2 rfl) ?_
        refine lv_iadd hx hb dX8_snapped_38 ?_
        refine lv_topi (fun v ev => ?_)
        obtain rfl : v = nI ((30 * k2) + k) := ev.trans (nI_add _ _)
        refine ialdN (k := (30 * k2) + k) (f := sS) hx hb hK.1 hP 2 0 rfl rfl (rfl) (by omega) (Nat.le_of_ble_eq_true rfl) dX8_snapped_39 ?_
        refine lv_goto (tgt := 45) hx hb dX8_snapped_40 (by decide) ?_
        exact W.iret (v := nI (sS ((30 * k2) + k))) hx hb hr (fun t ht _ => ⟨_, rfl, by simp [A_snapped, ix_in b2 (show ns < 2 ^ 31 by omega), Int32.not_lt.mpr c11, ix_in hk (show sD k2 < 2 ^ 31 by omega)], ht⟩) (fun _ h9 => by cases h9) dX8_snapped_45
    · skip
      refine lv_bipush (v := (-2)) hx hb dX8_snapped_14 (by decide) ?_
      refine lv_goto (tgt := 45) hx hb dX8_snapped_16 (by decide) ?_
      exact W.iret (v := (-2)) hx hb hr (fun t ht _ => ⟨_, rfl, by simp [A_snapped, ix_in b2 (show ns < 2 ^ 31 by omega), Int32.not_le.mp c11], ht⟩) (fun _ h9 => by cases h9) dX8_snapped_45
  · skip
    refine lv_if_ne (tgt := 10) hx hb dX8_snapped_5 (by decide) (fun c9 => absurd c9 (by decide)) (fun _ => ?_)
    refine lv_iconst (v := (-1)) hx hb dX8_snapped_8 (by decide) ?_
    exact W.iret (v := (-1)) hx hb hr (fun t ht _ => ⟨_, rfl, by simp [A_snapped, ix_out b2], ht⟩) (fun _ h9 => by cases h9) dX8_snapped_9
set_option maxHeartbeats 4000000 in
set_option maxRecDepth 100000 in
theorem c_X8_same (G : GG) (l : Launch) (o : Nat) (fs : List Value) (ns : Nat) (qa26 : Nat) (sD : Nat → Nat) (qa27 : Nat) (sS : Nat → Nat) (f24 : fs[24]? = some (.int (nI ns))) (f26 : fs[26]? = some (.ref qa26)) (f27 : fs[27]? = some (.ref qa27)) (x y : Int32) (hs : ns ≤ 10) (hsd : ∀ k, k < ns → sD k ≤ 30) (hss : ∀ j, j < 300 → sS j < 24) : Met l yX8_same wsX8_same { frames := 2, cells := 0, slots := 0, locals := 43 } (RPc G [.ref o, .int x, .int y] [(o, ob 8 fs), (qa26, iA G 10 (fun j => nI (sD j))), (qa27, iA G 300 (fun j => nI (sS j)))]) (vp_Si (fun r => r = A_same ns sD (fun k j => sS (30 * k + j)) x y)) 0 0 (fun _ => False) := by
  refine Met.ofW (cc := cX8_same) (maxL := 5) (ret := (some .int)) (by decide) rfl ?_
  intro p e s m args below meth c s₁ B hml hv
  obtain ⟨rfl, hP, hK⟩ := hv
  have hx := B.exec
  have hb := B.bytes
  have hr := B.returns
  have hts := atoms_spec (ws := wsX8_same) B.pre
  have hown : s.vm.findClass RX8 = some m.cls := findClass_of_methodNamed B.named
  have hlocks := B.notSynchronized
  have hl := lv_entry ([.ref o, .int x, .int y]) (n := 5) (Nat.le_of_ble_eq_true rfl)
  rw [lg_entry_eq]
  generalize (lg_sl ([.ref o, .int x, .int y]) ++ List.replicate (5 - (lg_sl ([.ref o, .int x, .int y])).length) Slot.unset).toArray = ls at hl ⊢
  have hl : lv_has ls 5 [(0, .ref o), (1, .int x), (2, .int y)] := hl
  refine lv_aload_n hx hb dX8_same_0 rfl (lv_at hl 0 rfl) ?_
  refine lv_iload_n hx hb dX8_same_1 rfl (lv_at hl 1 rfl) ?_
  have hP_1 : PP G [(o, ob 8 fs)] s.heap := hP.sub [0] rfl
  refine csi (va_runV (As := [.int x]) (rest := []) ⟨hx, hb, hml, hown, hts⟩ (c_X8_isSnap G l o fs ns f24 x (by omega)) (cwV 1 hts gX8_same_X8_isSnap rfl rfl rfl (by decide +kernel) ⟨Nat.le_of_ble_eq_true rfl, Nat.le_of_ble_eq_true rfl⟩) (preRV hK hP_1 0 8 rfl rfl) rfl rfl hl.1 rfl (lv_room (Nat.le_of_ble_eq_true rfl)) dX8_same_2 ⟨Nat.zero_le _, Nat.zero_le _⟩) (fun r_2 h_3 => ?_)
  rcases h_3 with ⟨rfl, k2, b2, rfl⟩ | ⟨rfl, b2⟩
  · skip
    refine lv_if_eq (tgt := 16) hx hb dX8_same_5 (by decide) (fun c9 => absurd c9 (by decide)) (fun _ => ?_)
    refine lv_aload_n hx hb dX8_same_8 rfl (lv_at hl 0 rfl) ?_
    refine lv_iload_n hx hb dX8_same_9 rfl (lv_at hl 2 rfl) ?_
    have hP_4 : PP G [(o, ob 8 fs)] s.heap := hP.sub [0] rfl
    refine csi (va_runV (As := [.int y]) (rest := []) ⟨hx, hb, hml, hown, hts⟩ (c_X8_isSnap G l o fs ns f24 y (by omega)) (cwV 1 hts gX8_same_X8_isSnap rfl rfl rfl (by decide +kernel) ⟨Nat.le_of_ble_eq_true rfl, Nat.le_of_ble_eq_true rfl⟩) (preRV hK hP_4 0 8 rfl rfl) rfl rfl hl.1 rfl (lv_room (Nat.le_of_ble_eq_true rfl)) dX8_same_10 ⟨Nat.zero_le _, Nat.zero_le _⟩) (fun r_5 h_6 => ?_)
    rcases h_6 with ⟨rfl, k10, b10, rfl⟩ | ⟨rfl, b10⟩
    · skip
      refine lv_if_ne (tgt := 18) hx hb dX8_same_13 (by decide) (fun _ => ?_) (fun c9 => absurd c9 (by decide))
      have hsd2 := hsd k2 b2
      have hsd10 := hsd k10 b10
      refine lv_aload_n hx hb dX8_same_18 rfl (lv_at hl 0 rfl) ?_
      refine va_get (D := G.1) (ci := 8) (v := .ref qa26) (C := RX8) (T := TX8) (N := 28) hx hb hts (by decide +kernel) hown hK.1 hP 0 rfl rfl 26 (by decide) (hts (.fieldLink RX8 65 "CallNumbersModel" "snapDeep" "[I") (by decide +kernel)) (fun _ h9 => h9) f26 dX8_same_19 ?_
      refine lv_iload_n hx hb dX8_same_22 rfl (lv_at hl 1 rfl) ?_
      refine ialdN (k := k2) (f := sD) hx hb hK.1 hP 1 0 rfl rfl (rfl) (by omega) (Nat.le_of_ble_eq_true rfl) dX8_same_23 ?_
      refine lv_aload_n hx hb dX8_same_24 rfl (lv_at hl 0 rfl) ?_
      refine va_get (D := G.1) (ci := 8) (v := .ref qa26) (C := RX8) (T := TX8) (N := 28) hx hb hts (by decide +kernel) hown hK.1 hP 0 rfl rfl 26 (by decide) (hts (.fieldLink RX8 65 "CallNumbersModel" "snapDeep" "[I") (by decide +kernel)) (fun _ h9 => h9) f26 dX8_same_25 ?_
      refine lv_iload_n hx hb dX8_same_28 rfl (lv_at hl 2 rfl) ?_
      refine ialdN (k := k10) (f := sD) hx hb hK.1 hP 1 0 rfl rfl (rfl) (by omega) (Nat.le_of_ble_eq_true rfl) dX8_same_29 ?_
      refine lv_icmp_ne (tgt := 37) hx hb dX8_same_30 (by decide) (fun c30 => ?_) (fun c30 => ?_)
      · skip
        have c30 := mt (nI_eq (a := sD k2) (b := sD k10) (by omega) (by omega)).mpr c30
        refine lv_iconst (v := nI 0) hx hb dX8_same_37 (by decide) ?_
        refine lv_istore_n (lv' := [(3, .int (nI 0)), (0, .ref o), (1, .int (nI k2)), (2, .int (nI k10))]) hx hb dX8_same_38 rfl hl (by decide) rfl (fun ls hl => ?_)
        refine lv_iconst (v := nI 0) hx hb dX8_same_39 (by decide) ?_
        refine lv_istore (lv' := [(4, .int (nI 0)), (3, .int (nI 0)), (0, .ref o), (1, .int (nI k2)), (2, .int (nI k10))]) hx hb dX8_same_40 hl (by decide) rfl (fun ls hl => ?_)
        have loop_7 : ∀ (N : Nat) (i : Nat) (fl : Nat), (i ≤ sD k2) → (fl ≤ 1) → ((fl = 1 ∧ sD k2 = sD k10 ∧ ∀ j, j < i → sS (30 * k2 + j) = sS (30 * k10 + j)) ∨ (fl = 0 ∧ ¬ (sD k2 = sD k10 ∧ ∀ j, j < sD k2 → sS (30 * k2 + j) = sS (30 * k10 + j)))) → (sD k2 - i) < N → ∀ (ls : Array Slot), lv_has ls 5 [(0, .ref o), (1, .int (nI k2)), (2, .int (nI k10)), (3, .int (nI fl)), (4, .int (nI i))] → W p l e (headSpec wsX8_same { frames := 2, cells := 0, slots := 0, locals := 43 }).room s m ([.ref o, .int (nI k2), .int (nI k10)]).toArray below meth c s.heap [] 0 0 (MQ below (vp_Si (fun r => r = A_same ns sD (fun k j => sS (30 * k + j)) (nI k2) (nI k10))) ([.ref o, .int (nI k2), .int (nI k10)]).toArray s 0 0 (fun _ => False)) (F0 m 42 ls []) := by
          intro N
          induction N with
          | zero =>
            intro i fl hi hf1 hfl hm
            exact absurd hm (Nat.not_lt_zero _)
          | succ N ih =>
            intro i fl hi hf1 hfl hm ls hl
            refine lv_iload hx hb dX8_same_42 (lv_at hl 4 rfl) ?_
            refine lv_aload_n hx hb dX8_same_44 rfl (lv_at hl 0 rfl) ?_
            refine va_get (D := G.1) (ci := 8) (v := .ref qa26) (C := RX8) (T := TX8) (N := 28) hx hb hts (by decide +kernel) hown hK.1 hP 0 rfl rfl 26 (by decide) (hts (.fieldLink RX8 65 "CallNumbersModel" "snapDeep" "[I") (by decide +kernel)) (fun _ h9 => h9) f26 dX8_same_45 ?_
            refine lv_iload_n hx hb dX8_same_48 rfl (lv_at hl 1 rfl) ?_
            refine ialdN (k := k2) (f := sD) hx hb hK.1 hP 1 0 rfl rfl (rfl) (by omega) (Nat.le_of_ble_eq_true rfl) dX8_same_49 ?_
            refine lv_icmp_ge (tgt := 96) hx hb dX8_same_50 (by decide) (fun c50 => ?_) (fun c50 => ?_)
            · skip
              have c50 := Nat.not_lt.mpr ((nI_leI (a := sD k2) (b := i) (by omega) (by omega)).mp c50)
              refine lv_iload_n hx hb dX8_same_96 rfl (lv_at hl 3 rfl) ?_
              refine lv_if_eq (tgt := 104) hx hb dX8_same_97 (by decide) (fun c97 => ?_) (fun c97 => ?_)
              · skip
                have c97 := (z_eq (k := fl) (by omega)).mp c97
                refine lv_iconst (v := nI 0) hx hb dX8_same_104 (by decide) ?_
                exact W.iret (v := nI 0) hx hb hr (fun t ht _ => ⟨_, rfl, by rcases hfl with h9 | h9; exact absurd h9.1 (by omega); (have h8 : sameF (sD k2) (sD k10) (fun j => sS (30 * k2 + j)) (fun j => sS (30 * k10 + j)) = false := decide_eq_false h9.2; simp [A_same, ix_in (k := k2) (n := ns) (by omega) (by omega), ix_in (k := k10) (n := ns) (by omega) (by omega), h8]), ht⟩) (fun _ h9 => by cases h9) dX8_same_105
              · skip
                have c97 := mt (z_eq (k := fl) (by omega)).mpr c97
                refine lv_iconst (v := nI 1) hx hb dX8_same_100 (by decide) ?_
                refine lv_goto (tgt := 105) hx hb dX8_same_101 (by decide) ?_
                exact W.iret (v := nI 1) hx hb hr (fun t ht _ => ⟨_, rfl, by rcases hfl with h9 | h9; (have h8 := sameF_yes (ra := fun j => sS (30 * k2 + j)) (rb := fun j => sS (30 * k10 + j)) h9.2.1 (fun j hj => h9.2.2 j (by omega)); simp [A_same, ix_in (k := k2) (n := ns) (by omega) (by omega), ix_in (k := k10) (n := ns) (by omega) (by omega), h8]); exact absurd h9.1 (by omega), ht⟩) (fun _ h9 => by cases h9) dX8_same_105
            · skip
              have c50 := Nat.not_le.mp (mt (nI_leI (a := sD k2) (b := i) (by omega) (by omega)).mpr c50)
              refine lv_iload_n hx hb dX8_same_53 rfl (lv_at hl 3 rfl) ?_
              refine lv_if_eq (tgt := 88) hx hb dX8_same_54 (by decide) (fun c54 => ?_) (fun c54 => ?_)
              · skip
                have c54 := (z_eq (k := fl) (by omega)).mp c54
                refine lv_iconst (v := nI 0) hx hb dX8_same_88 (by decide) ?_
                refine lv_istore_n (lv' := [(3, .int (nI 0)), (0, .ref o), (1, .int (nI k2)), (2, .int (nI k10)), (4, .int (nI i))]) hx hb dX8_same_89 rfl hl (by decide) rfl (fun ls hl => ?_)
                refine lv_iinc (v := nI (i + 1)) (lv' := [(4, .int (nI (i + 1))), (3, .int (nI 0)), (0, .ref o), (1, .int (nI k2)), (2, .int (nI k10))]) hx hb dX8_same_90 hl (k := 4) rfl (iinc1 i) (by decide) rfl (fun ls hl => ?_)
                refine lv_goto (tgt := 42) hx hb dX8_same_93 (by decide) ?_
                exact ih (i + 1) 0 (by omega) (by omega) (Or.inr ⟨rfl, by rcases hfl with h9 | h9; exact absurd h9.1 (by omega); exact h9.2⟩) (by omega) ls (lv_sub hl [2, 3, 4, 1, 0] rfl)
              · skip
                have c54 := mt (z_eq (k := fl) (by omega)).mpr c54
                have hv1 := hss (30 * k2 + i) (by omega)
                have hv2 := hss (30 * k10 + i) (by omega)
                refine lv_aload_n hx hb dX8_same_57 rfl (lv_at hl 0 rfl) ?_
                refine va_get (D := G.1) (ci := 8) (v := .ref qa27) (C := RX8) (T := TX8) (N := 28) hx hb hts (by decide +kernel) hown hK.1 hP 0 rfl rfl 27 (by decide) (hts (.fieldLink RX8 68 "CallNumbersModel" "snapStack" "[I") (by decide +kernel)) (fun _ h9 => h9) f27 dX8_same_58 ?_
                refine lv_bipush (v := nI 30) hx hb dX8_same_61 (by decide) ?_
                refine lv_iload_n hx hb dX8_same_63 rfl (lv_at hl 1 rfl) ?_
                refine lv_imul hx hb dX8_same_64 ?_
                refine lv_topi (fun v ev => ?_)
                obtain rfl : v = nI (30 * k2) := ev.trans (pk_mul _ _)
                refine lv_iload hx hb dX8_same_65 (lv_at hl 4 rfl) ?_
                refine lv_iadd hx hb dX8_same_67 ?_
                refine lv_topi (fun v ev => ?_)
                obtain rfl : v = nI ((30 * k2) + i) := ev.trans (nI_add _ _)
                refine ialdN (k := (30 * k2) + i) (f := sS) hx hb hK.1 hP 2 0 rfl rfl (rfl) (by omega) (Nat.le_of_ble_eq_true rfl) dX8_same_68 ?_
                refine lv_aload_n hx hb dX8_same_69 rfl (lv_at hl 0 rfl) ?_
                refine va_get (D := G.1) (ci := 8) (v := .ref qa27) (C := RX8) (T := TX8) (N := 28) hx hb hts (by decide +kernel) hown hK.1 hP 0 rfl rfl 27 (by decide) (hts (.fieldLink RX8 68 "CallNumbersModel" "snapStack" "[I") (by decide +kernel)) (fun _ h9 => h9) f27 dX8_same_70 ?_
                refine lv_bipush (v := nI 30) hx hb dX8_same_73 (by decide) ?_
                refine lv_iload_n hx hb dX8_same_75 rfl (lv_at hl 2 rfl) ?_
                refine lv_imul hx hb dX8_same_76 ?_
                refine lv_topi (fun v ev => ?_)
                obtain rfl : v = nI (30 * k10) := ev.trans (pk_mul _ _)
                refine lv_iload hx hb dX8_same_77 (lv_at hl 4 rfl) ?_
                refine lv_iadd hx hb dX8_same_79 ?_
                refine lv_topi (fun v ev => ?_)
                obtain rfl : v = nI ((30 * k10) + i) := ev.trans (nI_add _ _)
                refine ialdN (k := (30 * k10) + i) (f := sS) hx hb hK.1 hP 2 0 rfl rfl (rfl) (by omega) (Nat.le_of_ble_eq_true rfl) dX8_same_80 ?_
                refine lv_icmp_ne (tgt := 88) hx hb dX8_same_81 (by decide) (fun c81 => ?_) (fun c81 => ?_)
                · skip
                  have c81 := mt (nI_eq (a := sS ((30 * k2) + i)) (b := sS ((30 * k10) + i)) (by omega) (by omega)).mpr c81
                  refine lv_iconst (v := nI 0) hx hb dX8_same_88 (by decide) ?_
                  refine lv_istore_n (lv' := [(3, .int (nI 0)), (0, .ref o), (1, .int (nI k2)), (2, .int (nI k10)), (4, .int (nI i))]) hx hb dX8_same_89 rfl hl (by decide) rfl (fun ls hl => ?_)
                  refine lv_iinc (v := nI (i + 1)) (lv' := [(4, .int (nI (i + 1))), (3, .int (nI 0)), (0, .ref o), (1, .int (nI k2)), (2, .int (nI k10))]) hx hb dX8_same_90 hl (k := 4) rfl (iinc1 i) (by decide) rfl (fun ls hl => ?_)
                  refine lv_goto (tgt := 42) hx hb dX8_same_93 (by decide) ?_
                  exact ih (i + 1) 0 (by omega) (by omega) (Or.inr ⟨rfl, fun h9 => c81 (h9.2 i (by omega))⟩) (by omega) ls (lv_sub hl [2, 3, 4, 1, 0] rfl)
                · skip
                  have c81 := (nI_eq (a := sS ((30 * k2) + i)) (b := sS ((30 * k10) + i)) (by omega) (by omega)).mp c81
                  refine lv_iconst (v := nI 1) hx hb dX8_same_84 (by decide) ?_
                  refine lv_goto (tgt := 89) hx hb dX8_same_85 (by decide) ?_
                  refine lv_istore_n (lv' := [(3, .int (nI 1)), (0, .ref o), (1, .int (nI k2)), (2, .int (nI k10)), (4, .int (nI i))]) hx hb dX8_same_89 rfl hl (by decide) rfl (fun ls hl => ?_)
                  refine lv_iinc (v := nI (i + 1)) (lv' := [(4, .int (nI (i + 1))), (3, .int (nI 1)), (0, .ref o), (1, .int (nI k2)), (2, .int (nI k10))]) hx hb dX8_same_90 hl (k := 4) rfl (iinc1 i) (by decide) rfl (fun ls hl => ?_)
                  refine lv_goto (tgt := 42) hx hb dX8_same_93 (by decide) ?_
                  exact ih (i + 1) 1 (by omega) (by omega) (Or.inl ⟨rfl, by rcases hfl with h9 | h9; exact h9.2.1; exact absurd h9.1 (by omega), by rcases hfl with h9 | h9; exact lt_s h9.2.2 c81; exact absurd h9.1 (by omega)⟩) (by omega) ls (lv_sub hl [2, 3, 4, 1, 0] rfl)
        exact loop_7 _ 0 0 (Nat.zero_le _) (by decide) (Or.inr ⟨rfl, fun h9 => c30 h9.1⟩) (Nat.lt_succ_self _) ls (lv_sub hl [2, 3, 4, 1, 0] rfl)
      · skip
        have c30 := (nI_eq (a := sD k2) (b := sD k10) (by omega) (by omega)).mp c30
        refine lv_iconst (v := nI 1) hx hb dX8_same_33 (by decide) ?_
        refine lv_goto (tgt := 38) hx hb dX8_same_34 (by decide) ?_
        refine lv_istore_n (lv' := [(3, .int (nI 1)), (0, .ref o), (1, .int (nI k2)), (2, .int (nI k10))]) hx hb dX8_same_38 rfl hl (by decide) rfl (fun ls hl => ?_)
        refine lv_iconst (v := nI 0) hx hb dX8_same_39 (by decide) ?_
        refine lv_istore (lv' := [(4, .int (nI 0)), (3, .int (nI 1)), (0, .ref o), (1, .int (nI k2)), (2, .int (nI k10))]) hx hb dX8_same_40 hl (by decide) rfl (fun ls hl => ?_)
        have loop_8 : ∀ (N : Nat) (i : Nat) (fl : Nat), (i ≤ sD k2) → (fl ≤ 1) → ((fl = 1 ∧ sD k2 = sD k10 ∧ ∀ j, j < i → sS (30 * k2 + j) = sS (30 * k10 + j)) ∨ (fl = 0 ∧ ¬ (sD k2 = sD k10 ∧ ∀ j, j < sD k2 → sS (30 * k2 + j) = sS (30 * k10 + j)))) → (sD k2 - i) < N → ∀ (ls : Array Slot), lv_has ls 5 [(0, .ref o), (1, .int (nI k2)), (2, .int (nI k10)), (3, .int (nI fl)), (4, .int (nI i))] → W p l e (headSpec wsX8_same { frames := 2, cells := 0, slots := 0, locals := 43 }).room s m ([.ref o, .int (nI k2), .int (nI k10)]).toArray below meth c s.heap [] 0 0 (MQ below (vp_Si (fun r => r = A_same ns sD (fun k j => sS (30 * k + j)) (nI k2) (nI k10))) ([.ref o, .int (nI k2), .int (nI k10)]).toArray s 0 0 (fun _ => False)) (F0 m 42 ls []) := by
          intro N
          induction N with
          | zero =>
            intro i fl hi hf1 hfl hm
            exact absurd hm (Nat.not_lt_zero _)
          | succ N ih =>
            intro i fl hi hf1 hfl hm ls hl
            refine lv_iload hx hb dX8_same_42 (lv_at hl 4 rfl) ?_
            refine lv_aload_n hx hb dX8_same_44 rfl (lv_at hl 0 rfl) ?_
            refine va_get (D := G.1) (ci := 8) (v := .ref qa26) (C := RX8) (T := TX8) (N := 28) hx hb hts (by decide +kernel) hown hK.1 hP 0 rfl rfl 26 (by decide) (hts (.fieldLink RX8 65 "CallNumbersModel" "snapDeep" "[I") (by decide +kernel)) (fun _ h9 => h9) f26 dX8_same_45 ?_
            refine lv_iload_n hx hb dX8_same_48 rfl (lv_at hl 1 rfl) ?_
            refine ialdN (k := k2) (f := sD) hx hb hK.1 hP 1 0 rfl rfl (rfl) (by omega) (Nat.le_of_ble_eq_true rfl) dX8_same_49 ?_
            refine lv_icmp_ge (tgt := 96) hx hb dX8_same_50 (by decide) (fun c50 => ?_) (fun c50 => ?_)
            · skip
              have c50 := Nat.not_lt.mpr ((nI_leI (a := sD k2) (b := i) (by omega) (by omega)).mp c50)
              refine lv_iload_n hx hb dX8_same_96 rfl (lv_at hl 3 rfl) ?_
              refine lv_if_eq (tgt := 104) hx hb dX8_same_97 (by decide) (fun c97 => ?_) (fun c97 => ?_)
              · skip
                have c97 := (z_eq (k := fl) (by omega)).mp c97
                refine lv_iconst (v := nI 0) hx hb dX8_same_104 (by decide) ?_
                exact W.iret (v := nI 0) hx hb hr (fun t ht _ => ⟨_, rfl, by rcases hfl with h9 | h9; exact absurd h9.1 (by omega); (have h8 : sameF (sD k2) (sD k10) (fun j => sS (30 * k2 + j)) (fun j => sS (30 * k10 + j)) = false := decide_eq_false h9.2; simp [A_same, ix_in (k := k2) (n := ns) (by omega) (by omega), ix_in (k := k10) (n := ns) (by omega) (by omega), h8]), ht⟩) (fun _ h9 => by cases h9) dX8_same_105
              · skip
                have c97 := mt (z_eq (k := fl) (by omega)).mpr c97
                refine lv_iconst (v := nI 1) hx hb dX8_same_100 (by decide) ?_
                refine lv_goto (tgt := 105) hx hb dX8_same_101 (by decide) ?_
                exact W.iret (v := nI 1) hx hb hr (fun t ht _ => ⟨_, rfl, by rcases hfl with h9 | h9; (have h8 := sameF_yes (ra := fun j => sS (30 * k2 + j)) (rb := fun j => sS (30 * k10 + j)) h9.2.1 (fun j hj => h9.2.2 j (by omega)); simp [A_same, ix_in (k := k2) (n := ns) (by omega) (by omega), ix_in (k := k10) (n := ns) (by omega) (by omega), h8]); exact absurd h9.1 (by omega), ht⟩) (fun _ h9 => by cases h9) dX8_same_105
            · skip
              have c50 := Nat.not_le.mp (mt (nI_leI (a := sD k2) (b := i) (by omega) (by omega)).mpr c50)
              refine lv_iload_n hx hb dX8_same_53 rfl (lv_at hl 3 rfl) ?_
              refine lv_if_eq (tgt := 88) hx hb dX8_same_54 (by decide) (fun c54 => ?_) (fun c54 => ?_)
              · skip
                have c54 := (z_eq (k := fl) (by omega)).mp c54
                refine lv_iconst (v := nI 0) hx hb dX8_same_88 (by decide) ?_
                refine lv_istore_n (lv' := [(3, .int (nI 0)), (0, .ref o), (1, .int (nI k2)), (2, .int (nI k10)), (4, .int (nI i))]) hx hb dX8_same_89 rfl hl (by decide) rfl (fun ls hl => ?_)
                refine lv_iinc (v := nI (i + 1)) (lv' := [(4, .int (nI (i + 1))), (3, .int (nI 0)), (0, .ref o), (1, .int (nI k2)), (2, .int (nI k10))]) hx hb dX8_same_90 hl (k := 4) rfl (iinc1 i) (by decide) rfl (fun ls hl => ?_)
                refine lv_goto (tgt := 42) hx hb dX8_same_93 (by decide) ?_
                exact ih (i + 1) 0 (by omega) (by omega) (Or.inr ⟨rfl, by rcases hfl with h9 | h9; exact absurd h9.1 (by omega); exact h9.2⟩) (by omega) ls (lv_sub hl [2, 3, 4, 1, 0] rfl)
              · skip
                have c54 := mt (z_eq (k := fl) (by omega)).mpr c54
                have hv1 := hss (30 * k2 + i) (by omega)
                have hv2 := hss (30 * k10 + i) (by omega)
                refine lv_aload_n hx hb dX8_same_57 rfl (lv_at hl 0 rfl) ?_
                refine va_get (D := G.1) (ci := 8) (v := .ref qa27) (C := RX8) (T := TX8) (N := 28) hx hb hts (by decide +kernel) hown hK.1 hP 0 rfl rfl 27 (by decide) (hts (.fieldLink RX8 68 "CallNumbersModel" "snapStack" "[I") (by decide +kernel)) (fun _ h9 => h9) f27 dX8_same_58 ?_
                refine lv_bipush (v := nI 30) hx hb dX8_same_61 (by decide) ?_
                refine lv_iload_n hx hb dX8_same_63 rfl (lv_at hl 1 rfl) ?_
                refine lv_imul hx hb dX8_same_64 ?_
                refine lv_topi (fun v ev => ?_)
                obtain rfl : v = nI (30 * k2) := ev.trans (pk_mul _ _)
                refine lv_iload hx hb dX8_same_65 (lv_at hl 4 rfl) ?_
                refine lv_iadd hx hb dX8_same_67 ?_
                refine lv_topi (fun v ev => ?_)
                obtain rfl : v = nI ((30 * k2) + i) := ev.trans (nI_add _ _)
                refine ialdN (k := (30 * k2) + i) (f := sS) hx hb hK.1 hP 2 0 rfl rfl (rfl) (by omega) (Nat.le_of_ble_eq_true rfl) dX8_same_68 ?_
                refine lv_aload_n hx hb dX8_same_69 rfl (lv_at hl 0 rfl) ?_
                refine va_get (D := G.1) (ci := 8) (v := .ref qa27) (C := RX8) (T := TX8) (N := 28) hx hb hts (by decide +kernel) hown hK.1 hP 0 rfl rfl 27 (by decide) (hts (.fieldLink RX8 68 "CallNumbersModel" "snapStack" "[I") (by decide +kernel)) (fun _ h9 => h9) f27 dX8_same_70 ?_
                refine lv_bipush (v := nI 30) hx hb dX8_same_73 (by decide) ?_
                refine lv_iload_n hx hb dX8_same_75 rfl (lv_at hl 2 rfl) ?_
                refine lv_imul hx hb dX8_same_76 ?_
                refine lv_topi (fun v ev => ?_)
                obtain rfl : v = nI (30 * k10) := ev.trans (pk_mul _ _)
                refine lv_iload hx hb dX8_same_77 (lv_at hl 4 rfl) ?_
                refine lv_iadd hx hb dX8_same_79 ?_
                refine lv_topi (fun v ev => ?_)
                obtain rfl : v = nI ((30 * k10) + i) := ev.trans (nI_add _ _)
                refine ialdN (k := (30 * k10) + i) (f := sS) hx hb hK.1 hP 2 0 rfl rfl (rfl) (by omega) (Nat.le_of_ble_eq_true rfl) dX8_same_80 ?_
                refine lv_icmp_ne (tgt := 88) hx hb dX8_same_81 (by decide) (fun c81 => ?_) (fun c81 => ?_)
                · skip
                  have c81 := mt (nI_eq (a := sS ((30 * k2) + i)) (b := sS ((30 * k10) + i)) (by omega) (by omega)).mpr c81
                  refine lv_iconst (v := nI 0) hx hb dX8_same_88 (by decide) ?_
                  refine lv_istore_n (lv' := [(3, .int (nI 0)), (0, .ref o), (1, .int (nI k2)), (2, .int (nI k10)), (4, .int (nI i))]) hx hb dX8_same_89 rfl hl (by decide) rfl (fun ls hl => ?_)
                  refine lv_iinc (v := nI (i + 1)) (lv' := [(4, .int (nI (i + 1))), (3, .int (nI 0)), (0, .ref o), (1, .int (nI k2)), (2, .int (nI k10))]) hx hb dX8_same_90 hl (k := 4) rfl (iinc1 i) (by decide) rfl (fun ls hl => ?_)
                  refine lv_goto (tgt := 42) hx hb dX8_same_93 (by decide) ?_
                  exact ih (i + 1) 0 (by omega) (by omega) (Or.inr ⟨rfl, fun h9 => c81 (h9.2 i (by omega))⟩) (by omega) ls (lv_sub hl [2, 3, 4, 1, 0] rfl)
                · skip
                  have c81 := (nI_eq (a := sS ((30 * k2) + i)) (b := sS ((30 * k10) + i)) (by omega) (by omega)).mp c81
                  refine lv_iconst (v := nI 1) hx hb dX8_same_84 (by decide) ?_
                  refine lv_goto (tgt := 89) hx hb dX8_same_85 (by decide) ?_
                  refine lv_istore_n (lv' := [(3, .int (nI 1)), (0, .ref o), (1, .int (nI k2)), (2, .int (nI k10)), (4, .int (nI i))]) hx hb dX8_same_89 rfl hl (by decide) rfl (fun ls hl => ?_)
                  refine lv_iinc (v := nI (i + 1)) (lv' := [(4, .int (nI (i + 1))), (3, .int (nI 1)), (0, .ref o), (1, .int (nI k2)), (2, .int (nI k10))]) hx hb dX8_same_90 hl (k := 4) rfl (iinc1 i) (by decide) rfl (fun ls hl => ?_)
                  refine lv_goto (tgt := 42) hx hb dX8_same_93 (by decide) ?_
                  exact ih (i + 1) 1 (by omega) (by omega) (Or.inl ⟨rfl, by rcases hfl with h9 | h9; exact h9.2.1; exact absurd h9.1 (by omega), by rcases hfl with h9 | h9; exact lt_s h9.2.2 c81; exact absurd h9.1 (by omega)⟩) (by omega) ls (lv_sub hl [2, 3, 4, 1, 0] rfl)
        exact loop_8 _ 0 1 (Nat.zero_le _) (by decide) (Or.inl ⟨rfl, c30, lt_0⟩) (Nat.lt_succ_self _) ls (lv_sub hl [2, 3, 4, 1, 0] rfl)
    · skip
      refine lv_if_ne (tgt := 18) hx hb dX8_same_13 (by decide) (fun c9 => absurd c9 (by decide)) (fun _ => ?_)
      refine lv_iconst (v := (-1)) hx hb dX8_same_16 (by decide) ?_
      exact W.iret (v := (-1)) hx hb hr (fun t ht _ => ⟨_, rfl, by simp [A_same, ix_in (k := k2) (n := ns) (by omega) (by omega), ix_out b10], ht⟩) (fun _ h9 => by cases h9) dX8_same_17
  · skip
    refine lv_if_eq (tgt := 16) hx hb dX8_same_5 (by decide) (fun _ => ?_) (fun c9 => absurd c9 (by decide))
    refine lv_iconst (v := (-1)) hx hb dX8_same_16 (by decide) ?_
    exact W.iret (v := (-1)) hx hb hr (fun t ht _ => ⟨_, rfl, by simp [A_same, ix_out b2], ht⟩) (fun _ h9 => by cases h9) dX8_same_17
set_option maxHeartbeats 4000000 in
set_option maxRecDepth 100000 in
theorem c_X8_many (G : GG) (l : Launch) (o : Nat) (fs : List Value) (n : Nat) (lim : Nat) (np : Nat) (dp : Nat) (ns : Nat) (qa2 : Nat) (to : Nat → Nat) (qa19 : Nat) (sk : Nat → Nat) (f0 : fs[0]? = some (.int (nI n))) (f2 : fs[2]? = some (.ref qa2)) (f3 : fs[3]? = some (.int (nI lim))) (f4 : fs[4]? = some (.int (nI np))) (f18 : fs[18]? = some (.int (nI dp))) (f19 : fs[19]? = some (.ref qa19)) (f24 : fs[24]? = some (.int (nI ns))) (x : Int32) (hd : dp ≤ 30) (hrow : ∀ j, j < dp → sk j < 24) : Met l yX8_many wsX8_many { frames := 1, cells := 0, slots := 0, locals := 20 } (RPc G [.ref o, .int x] [(o, ob 8 fs), (qa2, iA G 24 (fun j => nI (to j))), (qa19, iA G 30 (fun j => nI (sk j)))]) (vp_Si (fun r => r = A_many n np dp ns lim to sk x)) 0 0 (fun _ => False) := by
  refine Met.ofW (cc := cX8_many) (maxL := 2) (ret := (some .int)) (by decide) rfl ?_
  intro p e s m args below meth c s₁ B hml hv
  obtain ⟨rfl, hP, hK⟩ := hv
  have hx := B.exec
  have hb := B.bytes
  have hr := B.returns
  have hts := atoms_spec (ws := wsX8_many) B.pre
  have hown : s.vm.findClass RX8 = some m.cls := findClass_of_methodNamed B.named
  have hlocks := B.notSynchronized
  have hl := lv_entry ([.ref o, .int x]) (n := 2) (Nat.le_of_ble_eq_true rfl)
  rw [lg_entry_eq]
  generalize (lg_sl ([.ref o, .int x]) ++ List.replicate (2 - (lg_sl ([.ref o, .int x])).length) Slot.unset).toArray = ls at hl ⊢
  have hl : lv_has ls 2 [(0, .ref o), (1, .int x)] := hl
  refine lv_iload_n hx hb dX8_many_0 rfl (lv_at hl 1 rfl) ?_
  by_cases w1_0 : x = nI 0
  · skip
    subst w1_0
    refine lv_tableIn (tgt := 40) hx hb dX8_many_1 (by decide) (by decide) (off := 39) rfl (by decide) ?_
    refine lv_aload_n hx hb dX8_many_40 rfl (lv_at hl 0 rfl) ?_
    refine va_get (D := G.1) (ci := 8) (v := .int (nI n)) (C := RX8) (T := TX8) (N := 28) hx hb hts (by decide +kernel) hown hK.1 hP 0 rfl rfl 0 (by decide) (hts (.fieldLink RX8 78 "CallNumbersModel" "calls" "I") (by decide +kernel)) (fun _ h9 => h9) f0 dX8_many_41 ?_
    exact W.iret (v := nI n) hx hb hr (fun t ht _ => ⟨_, rfl, by simp [A_many, nI_ne, sw0], ht⟩) (fun _ h9 => by cases h9) dX8_many_44
  · skip
    by_cases w1_1 : x = nI 1
    · skip
      subst w1_1
      refine lv_tableIn (tgt := 45) hx hb dX8_many_1 (by decide) (by decide) (off := 44) rfl (by decide) ?_
      refine lv_aload_n hx hb dX8_many_45 rfl (lv_at hl 0 rfl) ?_
      refine va_get (D := G.1) (ci := 8) (v := .int (nI np)) (C := RX8) (T := TX8) (N := 28) hx hb hts (by decide +kernel) hown hK.1 hP 0 rfl rfl 4 (by decide) (hts (.fieldLink RX8 89 "CallNumbersModel" "plans" "I") (by decide +kernel)) (fun _ h9 => h9) f4 dX8_many_46 ?_
      exact W.iret (v := nI np) hx hb hr (fun t ht _ => ⟨_, rfl, by simp [A_many, nI_ne, sw0], ht⟩) (fun _ h9 => by cases h9) dX8_many_49
    · skip
      by_cases w1_2 : x = nI 2
      · skip
        subst w1_2
        refine lv_tableIn (tgt := 50) hx hb dX8_many_1 (by decide) (by decide) (off := 49) rfl (by decide) ?_
        refine lv_aload_n hx hb dX8_many_50 rfl (lv_at hl 0 rfl) ?_
        refine va_get (D := G.1) (ci := 8) (v := .int (nI dp)) (C := RX8) (T := TX8) (N := 28) hx hb hts (by decide +kernel) hown hK.1 hP 0 rfl rfl 18 (by decide) (hts (.fieldLink RX8 143 "CallNumbersModel" "deep" "I") (by decide +kernel)) (fun _ h9 => h9) f18 dX8_many_51 ?_
        exact W.iret (v := nI dp) hx hb hr (fun t ht _ => ⟨_, rfl, by simp [A_many, nI_ne, sw0], ht⟩) (fun _ h9 => by cases h9) dX8_many_54
      · skip
        by_cases w1_3 : x = nI 3
        · skip
          subst w1_3
          refine lv_tableIn (tgt := 55) hx hb dX8_many_1 (by decide) (by decide) (off := 54) rfl (by decide) ?_
          refine lv_aload_n hx hb dX8_many_55 rfl (lv_at hl 0 rfl) ?_
          refine va_get (D := G.1) (ci := 8) (v := .int (nI ns)) (C := RX8) (T := TX8) (N := 28) hx hb hts (by decide +kernel) hown hK.1 hP 0 rfl rfl 24 (by decide) (hts (.fieldLink RX8 160 "CallNumbersModel" "snaps" "I") (by decide +kernel)) (fun _ h9 => h9) f24 dX8_many_56 ?_
          exact W.iret (v := nI ns) hx hb hr (fun t ht _ => ⟨_, rfl, by simp [A_many, nI_ne, sw0], ht⟩) (fun _ h9 => by cases h9) dX8_many_59
        · skip
          by_cases w1_4 : x = nI 4
          · skip
            subst w1_4
            refine lv_tableIn (tgt := 60) hx hb dX8_many_1 (by decide) (by decide) (off := 59) rfl (by decide) ?_
            refine lv_aload_n hx hb dX8_many_60 rfl (lv_at hl 0 rfl) ?_
            have hP_1 : PP G [(o, ob 8 fs), (qa2, iA G 24 (fun j => nI (to j))), (qa19, iA G 30 (fun j => nI (sk j)))] s.heap := hP.sub [0, 1, 2] rfl
            refine csi (va_runV (As := []) (rest := []) ⟨hx, hb, hml, hown, hts⟩ (c_X8_here G l o fs dp qa2 to qa19 sk f2 f18 f19 (by omega) (hrow)) (cwV 0 hts gX8_many_X8_here rfl rfl rfl (by decide +kernel) ⟨Nat.le_of_ble_eq_true rfl, Nat.le_of_ble_eq_true rfl⟩) (preRV hK hP_1 0 8 rfl rfl) rfl rfl hl.1 rfl (lv_room (Nat.le_of_ble_eq_true rfl)) dX8_many_61 ⟨Nat.zero_le _, Nat.zero_le _⟩) (fun r_2 h_3 => ?_)
            obtain rfl : r_2 = nI (hereF to sk dp) := h_3
            exact W.iret (v := nI (hereF to sk dp)) hx hb hr (fun t ht _ => ⟨_, rfl, by simp [A_many, nI_ne, sw0], ht⟩) (fun _ h9 => by cases h9) dX8_many_64
          · skip
            by_cases w1_5 : x = nI 5
            · skip
              subst w1_5
              refine lv_tableIn (tgt := 65) hx hb dX8_many_1 (by decide) (by decide) (off := 64) rfl (by decide) ?_
              refine lv_aload_n hx hb dX8_many_65 rfl (lv_at hl 0 rfl) ?_
              refine va_get (D := G.1) (ci := 8) (v := .int (nI lim)) (C := RX8) (T := TX8) (N := 28) hx hb hts (by decide +kernel) hown hK.1 hP 0 rfl rfl 3 (by decide) (hts (.fieldLink RX8 16 "CallNumbersModel" "limitNow" "I") (by decide +kernel)) (fun _ h9 => h9) f3 dX8_many_66 ?_
              exact W.iret (v := nI lim) hx hb hr (fun t ht _ => ⟨_, rfl, by simp [A_many, nI_ne, sw0], ht⟩) (fun _ h9 => by cases h9) dX8_many_69
            · skip
              refine lv_tableOut (tgt := 70) hx hb dX8_many_1 (tb_out x 5 rfl (fun k hk => by rcases (show k = 0 ∨ k = 1 ∨ k = 2 ∨ k = 3 ∨ k = 4 ∨ k = 5 by omega) with rfl | rfl | rfl | rfl | rfl | rfl <;> assumption) (by decide)) (by decide) ?_
              refine lv_bipush (v := (-2)) hx hb dX8_many_70 (by decide) ?_
              exact W.iret (v := (-2)) hx hb hr (fun t ht _ => ⟨_, rfl, by simp [A_many, w1_0, w1_1, w1_2, w1_3, w1_4, w1_5, nI_ne, sw0], ht⟩) (fun _ h9 => by cases h9) dX8_many_72
set_option maxHeartbeats 4000000 in
set_option maxRecDepth 100000 in
theorem c_X8_lastTo (G : GG) (l : Launch) (o : Nat) (fs : List Value) (qa1 : Nat) (fr : Nat → Nat) (qa2 : Nat) (to : Nat → Nat) (qa5 : Nat) (cO : Nat → Nat) (qa9 : Nat) (pO : Nat → Int32) (qa10 : Nat) (wO : Nat → Nat) (qa11 : Nat) (dO : Nat → Nat) (f1 : fs[1]? = some (.ref qa1)) (f2 : fs[2]? = some (.ref qa2)) (f5 : fs[5]? = some (.ref qa5)) (f9 : fs[9]? = some (.ref qa9)) (f10 : fs[10]? = some (.ref qa10)) (f11 : fs[11]? = some (.ref qa11)) (k r0 num : Nat) (hk : k < 8) (hc : cO k ≤ 24) (hr0 : r0 < 10) (hfr : ∀ j, j < cO k → fr j < 10) (hto : ∀ j, j < cO k → to j < 10) (had : ∀ j, j < cO k → dO (24 * k + j) ≤ 24000000) (hwy : ∀ j, j < 10 → 1 ≤ wO (10 * k + j) ∧ wO (10 * k + j) ≤ 1000000) (hnum : num ≤ 1000000000) : Met l yX8_lastTo wsX8_lastTo { frames := 2, cells := 0, slots := 0, locals := 43 } (RPc G [.ref o, .int (nI k), .int (nI r0), .int (nI num)] [(o, ob 8 fs), (qa1, iA G 24 (fun j => nI (fr j))), (qa2, iA G 24 (fun j => nI (to j))), (qa5, iA G 8 (fun j => nI (cO j))), (qa9, iA G 8 pO), (qa10, iA G 80 (fun j => nI (wO j))), (qa11, iA G 192 (fun j => nI (dO j)))]) (vp_Si (fun r => (∃ j, firstF (lastP (pO k) (fun j => dO (24 * k + j)) (fun j => wO (10 * k + j)) fr to r0 num) (cO k) = some j ∧ r = nI j) ∨ (firstF (lastP (pO k) (fun j => dO (24 * k + j)) (fun j => wO (10 * k + j)) fr to r0 num) (cO k) = none ∧ r = -9))) 0 0 (fun _ => False) := by
  refine Met.ofW (cc := cX8_lastTo) (maxL := 6) (ret := (some .int)) (by decide) rfl ?_
  intro p e s m args below meth c s₁ B hml hv
  obtain ⟨rfl, hP, hK⟩ := hv
  have hx := B.exec
  have hb := B.bytes
  have hr := B.returns
  have hts := atoms_spec (ws := wsX8_lastTo) B.pre
  have hown : s.vm.findClass RX8 = some m.cls := findClass_of_methodNamed B.named
  have hlocks := B.notSynchronized
  have hl := lv_entry ([.ref o, .int (nI k), .int (nI r0), .int (nI num)]) (n := 6) (Nat.le_of_ble_eq_true rfl)
  rw [lg_entry_eq]
  generalize (lg_sl ([.ref o, .int (nI k), .int (nI r0), .int (nI num)]) ++ List.replicate (6 - (lg_sl ([.ref o, .int (nI k), .int (nI r0), .int (nI num)])).length) Slot.unset).toArray = ls at hl ⊢
  have hl : lv_has ls 6 [(0, .ref o), (1, .int (nI k)), (2, .int (nI r0)), (3, .int (nI num))] := hl
  refine lv_iconst (v := nI 0) hx hb dX8_lastTo_0 (by decide) ?_
  refine lv_istore (lv' := [(4, .int (nI 0)), (0, .ref o), (1, .int (nI k)), (2, .int (nI r0)), (3, .int (nI num))]) hx hb dX8_lastTo_1 hl (by decide) rfl (fun ls hl => ?_)
  have loop_1 : ∀ (N : Nat) (i : Nat), (i ≤ cO k) → (∀ j, j < i → lastP (pO k) (fun j => dO (24 * k + j)) (fun j => wO (10 * k + j)) fr to r0 num j = false) → (cO k - i) < N → ∀ (ls : Array Slot), lv_has ls 6 [(0, .ref o), (1, .int (nI k)), (2, .int (nI r0)), (3, .int (nI num)), (4, .int (nI i))] → W p l e (headSpec wsX8_lastTo { frames := 2, cells := 0, slots := 0, locals := 43 }).room s m ([.ref o, .int (nI k), .int (nI r0), .int (nI num)]).toArray below meth c s.heap [] 0 0 (MQ below (vp_Si (fun r => (∃ j, firstF (lastP (pO k) (fun j => dO (24 * k + j)) (fun j => wO (10 * k + j)) fr to r0 num) (cO k) = some j ∧ r = nI j) ∨ (firstF (lastP (pO k) (fun j => dO (24 * k + j)) (fun j => wO (10 * k + j)) fr to r0 num) (cO k) = none ∧ r = -9))) ([.ref o, .int (nI k), .int (nI r0), .int (nI num)]).toArray s 0 0 (fun _ => False)) (F0 m 3 ls []) := by
    intro N
    induction N with
    | zero =>
      intro i hi hf hm
      exact absurd hm (Nat.not_lt_zero _)
    | succ N ih =>
      intro i hi hf hm ls hl
      refine lv_iload hx hb dX8_lastTo_3 (lv_at hl 4 rfl) ?_
      refine lv_aload_n hx hb dX8_lastTo_5 rfl (lv_at hl 0 rfl) ?_
      refine va_get (D := G.1) (ci := 8) (v := .ref qa5) (C := RX8) (T := TX8) (N := 28) hx hb hts (by decide +kernel) hown hK.1 hP 0 rfl rfl 5 (by decide) (hts (.fieldLink RX8 20 "CallNumbersModel" "callsOf" "[I") (by decide +kernel)) (fun _ h9 => h9) f5 dX8_lastTo_6 ?_
      refine lv_iload_n hx hb dX8_lastTo_9 rfl (lv_at hl 1 rfl) ?_
      refine ialdN (k := k) (f := cO) hx hb hK.1 hP 3 0 rfl rfl (rfl) (by omega) (Nat.le_of_ble_eq_true rfl) dX8_lastTo_10 ?_
      refine lv_icmp_ge (tgt := 88) hx hb dX8_lastTo_11 (by decide) (fun c11 => ?_) (fun c11 => ?_)
      · skip
        have c11 := Nat.not_lt.mpr ((nI_leI (a := cO k) (b := i) (by omega) (by omega)).mp c11)
        refine lv_bipush (v := (-9)) hx hb dX8_lastTo_88 (by decide) ?_
        exact W.iret (v := (-9)) hx hb hr (fun t ht _ => ⟨_, rfl, Or.inr ⟨firstF_none (fun j hj => hf j (by omega)), rfl⟩, ht⟩) (fun _ h9 => by cases h9) dX8_lastTo_90
      · skip
        have c11 := Nat.not_le.mp (mt (nI_leI (a := cO k) (b := i) (by omega) (by omega)).mpr c11)
        have hfi := hfr i (by omega)
        have hti := hto i (by omega)
        have hai := had i (by omega)
        have hwi := hwy (fr i) hfi
        refine lv_iload_n hx hb dX8_lastTo_14 rfl (lv_at hl 3 rfl) ?_
        refine lv_aload_n hx hb dX8_lastTo_15 rfl (lv_at hl 0 rfl) ?_
        refine va_get (D := G.1) (ci := 8) (v := .ref qa11) (C := RX8) (T := TX8) (N := 28) hx hb hts (by decide +kernel) hown hK.1 hP 0 rfl rfl 11 (by decide) (hts (.fieldLink RX8 38 "CallNumbersModel" "addOf" "[I") (by decide +kernel)) (fun _ h9 => h9) f11 dX8_lastTo_16 ?_
        refine lv_bipush (v := nI 24) hx hb dX8_lastTo_19 (by decide) ?_
        refine lv_iload_n hx hb dX8_lastTo_21 rfl (lv_at hl 1 rfl) ?_
        refine lv_imul hx hb dX8_lastTo_22 ?_
        refine lv_topi (fun v ev => ?_)
        obtain rfl : v = nI (24 * k) := ev.trans (pk_mul _ _)
        refine lv_iload hx hb dX8_lastTo_23 (lv_at hl 4 rfl) ?_
        refine lv_iadd hx hb dX8_lastTo_25 ?_
        refine lv_topi (fun v ev => ?_)
        obtain rfl : v = nI ((24 * k) + i) := ev.trans (nI_add _ _)
        refine ialdN (k := (24 * k) + i) (f := dO) hx hb hK.1 hP 6 0 rfl rfl (rfl) (by omega) (Nat.le_of_ble_eq_true rfl) dX8_lastTo_26 ?_
        refine lv_isub hx hb dX8_lastTo_27 ?_
        refine lv_istore (lv' := [(5, .int (nI num - nI (dO ((24 * k) + i)))), (0, .ref o), (1, .int (nI k)), (2, .int (nI r0)), (3, .int (nI num)), (4, .int (nI i))]) hx hb dX8_lastTo_28 hl (by decide) rfl (fun ls hl => ?_)
        refine lv_aload_n hx hb dX8_lastTo_30 rfl (lv_at hl 1 rfl) ?_
        refine lv_iload_n hx hb dX8_lastTo_31 rfl (lv_at hl 2 rfl) ?_
        refine lv_iload hx hb dX8_lastTo_32 (lv_at hl 5 rfl) ?_
        have hP_2 : PP G [(o, ob 8 fs), (qa9, iA G 8 pO)] s.heap := hP.sub [0, 4] rfl
        refine csi (va_runV (As := [.int (nI k), .int (nI i)]) (rest := []) ⟨hx, hb, hml, hown, hts⟩ (c_X8_isPlain G l o fs qa9 pO f9 k i (by omega)) (cwV 2 hts gX8_lastTo_X8_isPlain rfl rfl rfl (by decide +kernel) ⟨Nat.le_of_ble_eq_true rfl, Nat.le_of_ble_eq_true rfl⟩) (preRV hK hP_2 0 8 rfl rfl) rfl rfl hl.1 rfl (lv_room (Nat.le_of_ble_eq_true rfl)) dX8_lastTo_34 ⟨Nat.zero_le _, Nat.zero_le _⟩) (fun r_3 h_4 => ?_)
        rcases h_4 with ⟨rfl, g34⟩ | ⟨rfl, g34⟩
        · skip
          refine lv_if_eq (tgt := 82) hx hb dX8_lastTo_37 (by decide) (fun c9 => absurd c9 (by decide)) (fun _ => ?_)
          refine lv_aload_n hx hb dX8_lastTo_40 rfl (lv_at hl 1 rfl) ?_
          refine va_get (D := G.1) (ci := 8) (v := .ref qa2) (C := RX8) (T := TX8) (N := 28) hx hb hts (by decide +kernel) hown hK.1 hP 0 rfl rfl 2 (by decide) (hts (.fieldLink RX8 13 "CallNumbersModel" "toOf" "[I") (by decide +kernel)) (fun _ h9 => h9) f2 dX8_lastTo_41 ?_
          refine lv_iload hx hb dX8_lastTo_44 (lv_at hl 5 rfl) ?_
          refine ialdN (k := i) (f := to) hx hb hK.1 hP 2 0 rfl rfl (rfl) (by omega) (Nat.le_of_ble_eq_true rfl) dX8_lastTo_46 ?_
          refine lv_iload_n hx hb dX8_lastTo_47 rfl (lv_at hl 3 rfl) ?_
          refine lv_icmp_ne (tgt := 82) hx hb dX8_lastTo_48 (by decide) (fun c48 => ?_) (fun c48 => ?_)
          · skip
            have c48 := mt (nI_eq (a := to i) (b := r0) (by omega) (by omega)).mpr c48
            refine lv_iinc (v := nI (i + 1)) (lv' := [(4, .int (nI (i + 1))), (5, .int (nI num - nI (dO ((24 * k) + i)))), (0, .ref o), (1, .int (nI k)), (2, .int (nI r0)), (3, .int (nI num))]) hx hb dX8_lastTo_82 hl (k := 5) rfl (iinc1 i) (by decide) rfl (fun ls hl => ?_)
            refine lv_goto (tgt := 3) hx hb dX8_lastTo_85 (by decide) ?_
            exact ih (i + 1) (by omega) (lt_s hf (by simp [lastP, g34, c48])) (by omega) ls (lv_sub hl [2, 3, 4, 5, 0] rfl)
          · skip
            have c48 := (nI_eq (a := to i) (b := r0) (by omega) (by omega)).mp c48
            refine lv_iload hx hb dX8_lastTo_51 (lv_at hl 0 rfl) ?_
            refine lv_iconst (v := nI 0) hx hb dX8_lastTo_53 (by decide) ?_
            refine lv_aload_n hx hb dX8_lastTo_54 rfl (lv_at hl 1 rfl) ?_
            refine va_get (D := G.1) (ci := 8) (v := .ref qa10) (C := RX8) (T := TX8) (N := 28) hx hb hts (by decide +kernel) hown hK.1 hP 0 rfl rfl 10 (by decide) (hts (.fieldLink RX8 35 "CallNumbersModel" "waysOf" "[I") (by decide +kernel)) (fun _ h9 => h9) f10 dX8_lastTo_55 ?_
            refine lv_bipush (v := nI 10) hx hb dX8_lastTo_58 (by decide) ?_
            refine lv_iload_n hx hb dX8_lastTo_60 rfl (lv_at hl 2 rfl) ?_
            refine lv_imul hx hb dX8_lastTo_61 ?_
            refine lv_topi (fun v ev => ?_)
            obtain rfl : v = nI (10 * k) := ev.trans (pk_mul _ _)
            refine lv_aload_n hx hb dX8_lastTo_62 rfl (lv_at hl 1 rfl) ?_
            refine va_get (D := G.1) (ci := 8) (v := .ref qa1) (C := RX8) (T := TX8) (N := 28) hx hb hts (by decide +kernel) hown hK.1 hP 0 rfl rfl 1 (by decide) (hts (.fieldLink RX8 7 "CallNumbersModel" "fromOf" "[I") (by decide +kernel)) (fun _ h9 => h9) f1 dX8_lastTo_63 ?_
            refine lv_iload hx hb dX8_lastTo_66 (lv_at hl 5 rfl) ?_
            refine ialdN (k := i) (f := fr) hx hb hK.1 hP 1 0 rfl rfl (rfl) (by omega) (Nat.le_of_ble_eq_true rfl) dX8_lastTo_68 ?_
            refine lv_iadd hx hb dX8_lastTo_69 ?_
            refine lv_topi (fun v ev => ?_)
            obtain rfl : v = nI ((10 * k) + (fr i)) := ev.trans (nI_add _ _)
            refine ialdN (k := (10 * k) + (fr i)) (f := wO) hx hb hK.1 hP 5 0 rfl rfl (rfl) (by omega) (Nat.le_of_ble_eq_true rfl) dX8_lastTo_70 ?_
            refine lv_iconst (v := nI 1) hx hb dX8_lastTo_71 (by decide) ?_
            refine lv_isub hx hb dX8_lastTo_72 ?_
            refine lv_topi (fun v ev => ?_)
            obtain rfl : v = nI ((wO ((10 * k) + (fr i))) - 1) := ev.trans (pk_sub (by omega))
            have hP_5 : PP G [] s.heap := hP.sub [] rfl
            refine csi (va_runS (As := [.int (nI num - nI (dO ((24 * k) + i))), .int (nI 0), .int (nI ((wO ((10 * k) + (fr i))) - 1))]) (rest := []) ⟨hx, hb, hml, hown, hts⟩ (c_X8_within G l (nI num - nI (dO ((24 * k) + i))) (nI 0) (nI ((wO ((10 * k) + (fr i))) - 1))) (va_cwS 3 hts gX8_lastTo_X8_within rfl rfl rfl (by decide +kernel) ⟨Nat.le_of_ble_eq_true rfl, Nat.le_of_ble_eq_true rfl⟩) (preR hK hP_5) rfl rfl hl.1 rfl (lv_room (Nat.le_of_ble_eq_true rfl)) dX8_lastTo_73 ⟨Nat.zero_le _, Nat.zero_le _⟩) (fun r_6 h_7 => ?_)
            rcases h_7 with ⟨rfl, g73, g73'⟩ | ⟨rfl, g73⟩
            · skip
              have lf := left_in g73 g73' (by omega) (by omega) (by omega) (by omega)
              refine lv_if_eq (tgt := 82) hx hb dX8_lastTo_76 (by decide) (fun c9 => absurd c9 (by decide)) (fun _ => ?_)
              refine lv_iload hx hb dX8_lastTo_79 (lv_at hl 5 rfl) ?_
              exact W.iret (v := nI i) hx hb hr (fun t ht _ => ⟨_, rfl, Or.inl ⟨i, firstF_some (by omega) (by simp [lastP, g34, c48, lf]) hf, rfl⟩, ht⟩) (fun _ h9 => by cases h9) dX8_lastTo_81
            · skip
              have lf := left_out g73 (by omega) (by omega) (by omega) (by omega)
              refine lv_if_eq (tgt := 82) hx hb dX8_lastTo_76 (by decide) (fun _ => ?_) (fun c9 => absurd c9 (by decide))
              refine lv_iinc (v := nI (i + 1)) (lv' := [(4, .int (nI (i + 1))), (5, .int (nI num - nI (dO ((24 * k) + i)))), (0, .ref o), (1, .int (nI k)), (2, .int (nI r0)), (3, .int (nI num))]) hx hb dX8_lastTo_82 hl (k := 5) rfl (iinc1 i) (by decide) rfl (fun ls hl => ?_)
              refine lv_goto (tgt := 3) hx hb dX8_lastTo_85 (by decide) ?_
              exact ih (i + 1) (by omega) (lt_s hf (by simp [lastP, g34, c48]; exact lf)) (by omega) ls (lv_sub hl [2, 3, 4, 5, 0] rfl)
        · skip
          refine lv_if_eq (tgt := 82) hx hb dX8_lastTo_37 (by decide) (fun _ => ?_) (fun c9 => absurd c9 (by decide))
          refine lv_iinc (v := nI (i + 1)) (lv' := [(4, .int (nI (i + 1))), (5, .int (nI num - nI (dO ((24 * k) + i)))), (0, .ref o), (1, .int (nI k)), (2, .int (nI r0)), (3, .int (nI num))]) hx hb dX8_lastTo_82 hl (k := 5) rfl (iinc1 i) (by decide) rfl (fun ls hl => ?_)
          refine lv_goto (tgt := 3) hx hb dX8_lastTo_85 (by decide) ?_
          exact ih (i + 1) (by omega) (lt_s hf (by simp [lastP, g34])) (by omega) ls (lv_sub hl [2, 3, 4, 5, 0] rfl)
  exact loop_1 _ 0 (Nat.zero_le _) (lt_0) (Nat.lt_succ_self _) ls (lv_sub hl [1, 2, 3, 4, 0] rfl)
end
section
section NAMES
variable {p : Program} {l : Launch} {e : Env} {R : Room} {s : State} {m : MethodId} {args : Array Value} {below : List Frame} {meth : Method} {c : Code} {H : Heap} {locs : List Loc} {cells slots : Nat} {Q : State → Prop} {g : JFrame}
theorem nameHL (k : ∀ (H' : Heap) (locs' : List Loc), H' = H → locs' = locs → W p l e R s m args below meth c H' locs' cells slots Q g) : W p l e R s m args below meth c H locs cells slots Q g := k H locs rfl rfl
end NAMES
/-- the model's object: its numbers, and where its rows are -/
abbrev mo (n lim np gm : Nat) (gs : Int32) (dm dp pm ns : Nat) (qa : Nat → Nat) : List Value := [.int (nI n), .ref (qa 1), .ref (qa 2), .int (nI lim), .int (nI np), .ref (qa 5), .ref (qa 6), .ref (qa 7), .ref (qa 8), .ref (qa 9), .ref (qa 10), .ref (qa 11), .int (nI gm), .ref (qa 13), .ref (qa 14), .int gs, .int (nI dm), .ref (qa 17), .int (nI dp), .ref (qa 19), .int (nI pm), .ref (qa 21), .ref (qa 22), .ref (qa 23), .int (nI ns), .ref (qa 25), .ref (qa 26), .ref (qa 27)]
abbrev bitI (r : Nat) : Int32 := nI 1 <<< (nI r &&& 31)
/-- what add answers and does -/
def AddR (n : Nat) (fr to : Nat → Nat) (x y r : Int32) (u : Nat × (Nat → Nat) × (Nat → Nat)) : Prop :=
  (∃ a b, a < 10 ∧ b < 10 ∧ n < 24 ∧ x = nI a ∧ y = nI b ∧ r = nI n ∧ u = (n + 1, va_up fr n a, va_up to n b)) ∨ (∃ a b, a < 10 ∧ b < 10 ∧ n = 24 ∧ x = nI a ∧ y = nI b ∧ r = -4 ∧ u = (n, fr, to)) ∨ (((∀ k, k < 10 → x ≠ nI k) ∨ (∀ k, k < 10 → y ≠ nI k)) ∧ r = -1 ∧ u = (n, fr, to))
/-- what limit answers and does -/
def LimR (lim : Nat) (x r : Int32) (u : Nat) : Prop := (∃ k, 1 ≤ k ∧ k ≤ 1000000 ∧ x = nI k ∧ r = nI lim ∧ u = k) ∨ ((∀ k, 1 ≤ k → k ≤ 1000000 → x ≠ nI k) ∧ r = -2 ∧ u = lim)
theorem lim_in {x : Int32} (h0 : ¬ x < nI 1) (h1 : ¬ nI 1000000 < x) : ∃ k, 1 ≤ k ∧ k ≤ 1000000 ∧ x = nI k := by
  have h2 : ¬ x < 0 := fun z => h0 (Int32.lt_iff_toInt_lt.mpr (by
    have h3 := Int32.lt_iff_toInt_lt.mp z
    have h4 : (0 : Int32).toInt = 0 := by decide
    have h5 : (nI 1).toInt = 1 := by decide
    omega))
  obtain ⟨j, hj, rfl⟩ := nI_of h2
  exact ⟨j, by have := mt (nI_ltI hj (by decide)).mpr h0; omega, by have := mt (nI_ltI (by decide) hj).mpr h1; omega, rfl⟩
theorem lim_out {x : Int32} (h : x < nI 1 ∨ nI 1000000 < x) : ∀ k, 1 ≤ k → k ≤ 1000000 → x ≠ nI k := by
  intro k h1 h2 e
  subst e
  rcases h with h | h
  · have := (nI_ltI (by omega) (by decide)).mp h
    omega
  · have := (nI_ltI (by decide) (by omega)).mp h
    omega
theorem hereF_lt {to row : Nat → Nat} {d : Nat} (hto : ∀ j, j < 24 → to j < 10) (hrow : ∀ j, j < d → row j < 24) : hereF to row d < 10 := by
  unfold hereF
  split
  · decide
  · exact hto _ (hrow _ (by omega))
/-- what call answers and does -/
def CallR (n : Nat) (fr to : Nat → Nat) (dp : Nat) (row : Nat → Nat) (x r : Int32) (u : Nat × (Nat → Nat)) : Prop :=
  (∃ k, k < n ∧ x = nI k ∧ fr k = hereF to row dp ∧ ¬ dp = 30 ∧ r = nI (hereF to (va_up row dp k) (dp + 1)) ∧ u = (dp + 1, va_up row dp k)) ∨ (∃ k, k < n ∧ x = nI k ∧ fr k = hereF to row dp ∧ dp = 30 ∧ r = -4 ∧ u = (dp, row)) ∨ (∃ k, k < n ∧ x = nI k ∧ ¬ fr k = hereF to row dp ∧ r = -3 ∧ u = (dp, row)) ∨ ((∀ k, k < n → x ≠ nI k) ∧ r = -1 ∧ u = (dp, row))
theorem CallR.ok {n : Nat} {fr to : Nat → Nat} {dp : Nat} {row : Nat → Nat} {k : Nat} (h : k < n) (h1 : fr k = hereF to row dp) (h2 : ¬ dp = 30) : CallR n fr to dp row (nI k) (nI (hereF to (va_up row dp k) (dp + 1))) (dp + 1, va_up row dp k) := Or.inl ⟨k, h, rfl, h1, h2, rfl, rfl⟩
theorem CallR.full {n : Nat} {fr to : Nat → Nat} {dp : Nat} {row : Nat → Nat} {k : Nat} (h : k < n) (h1 : fr k = hereF to row dp) (h2 : dp = 30) : CallR n fr to dp row (nI k) (-4) (dp, row) := Or.inr (Or.inl ⟨k, h, rfl, h1, h2, rfl, rfl⟩)
theorem CallR.state {n : Nat} {fr to : Nat → Nat} {dp : Nat} {row : Nat → Nat} {k : Nat} (h : k < n) (h1 : ¬ fr k = hereF to row dp) : CallR n fr to dp row (nI k) (-3) (dp, row) := Or.inr (Or.inr (Or.inl ⟨k, h, rfl, h1, rfl, rfl⟩))
theorem CallR.bad {n : Nat} {fr to : Nat → Nat} {dp : Nat} {row : Nat → Nat} {x : Int32} (h : ∀ k, k < n → x ≠ nI k) : CallR n fr to dp row x (-1) (dp, row) := Or.inr (Or.inr (Or.inr ⟨h, rfl, rfl⟩))
def BackR (to : Nat → Nat) (dp : Nat) (row : Nat → Nat) (r : Int32) (u : Nat) : Prop := (¬ dp = 0 ∧ r = nI (hereF to row (dp - 1)) ∧ u = dp - 1) ∨ (dp = 0 ∧ r = -3 ∧ u = dp)
set_option maxHeartbeats 4000000 in
set_option maxRecDepth 100000 in
theorem c_X8_comesTo (G : GG) (l : Launch) (o n lim np gm : Nat) (gs : Int32) (dm dp pm ns : Nat) (qa : Nat → Nat) (mO : Nat → Int32) (go : Nat → Nat) (nx : Nat → Nat) (k r0 : Nat) (hk : k < 8) (hg : gm < 10) (sz : Nat) : Met l yX8_comesTo wsX8_comesTo { frames := 0, cells := 0, slots := 0, locals := 0 } (WPc G [.ref o, .int (nI k), .int (nI r0)] [(o, ob 8 (mo n lim np gm gs dm dp pm ns qa)), ((qa 6), iA G 8 mO), ((qa 13), iA G 10 (fun j => nI (go j))), ((qa 14), iA G 10 (fun j => nI (nx j)))] sz) (WQv G [(o, ob 8 (mo n lim np gm gs dm dp pm ns qa)), ((qa 6), iA G 8 mO), ((qa 13), iA G 10 (fun j => nI (go j))), ((qa 14), iA G 10 (fun j => nI (nx j)))] sz (fun u : Unit => True) (fun u => [(o, ob 8 (mo n lim np (gm + 1) (gs ||| bitI r0) dm dp pm ns qa)), ((qa 6), iA G 8 (va_up mO k (mO k ||| bitI r0))), ((qa 13), iA G 10 (fun j => nI ((va_up go gm r0) j))), ((qa 14), iA G 10 (fun j => nI ((va_up nx gm 0) j)))])) 0 0 (va_A [(o, ob 8 (mo n lim np gm gs dm dp pm ns qa)), ((qa 6), iA G 8 mO), ((qa 13), iA G 10 (fun j => nI (go j))), ((qa 14), iA G 10 (fun j => nI (nx j)))] sz) := by
  refine Met.ofW (cc := cX8_comesTo) (maxL := 3) (ret := none) (by decide) rfl ?_
  intro p e s m args below meth c s₁ B hml hv
  obtain ⟨rfl, hsz, hP, hK, hD0⟩ := hv
  have hx := B.exec
  have hb := B.bytes
  have hr := B.returns
  have hts := atoms_spec (ws := wsX8_comesTo) B.pre
  have hown : s.vm.findClass RX8 = some m.cls := findClass_of_methodNamed B.named
  have hlocks := B.notSynchronized
  subst hsz
  have hD := hD0.self (sz := s.heap.size)
  unfold WQv
  generalize hAe : va_A [(o, ob 8 (mo n lim np gm gs dm dp pm ns qa)), ((qa 6), iA G 8 mO), ((qa 13), iA G 10 (fun j => nI (go j))), ((qa 14), iA G 10 (fun j => nI (nx j)))] s.heap.size = A at hD ⊢
  have hA : ∀ q : Nat, s.heap.size ≤ q → A q := fun q h => by rw [← hAe]; exact Or.inr h
  have hl := lv_entry ([.ref o, .int (nI k), .int (nI r0)]) (n := 3) (Nat.le_of_ble_eq_true rfl)
  rw [lg_entry_eq]
  generalize (lg_sl ([.ref o, .int (nI k), .int (nI r0)]) ++ List.replicate (3 - (lg_sl ([.ref o, .int (nI k), .int (nI r0)])).length) Slot.unset).toArray = ls at hl ⊢
  have hl : lv_has ls 3 [(0, .ref o), (1, .int (nI k)), (2, .int (nI r0))] := hl
  refine nameHL (fun H locs hH hL => ?_)
  have hP : PP G [(o, ob 8 (mo n lim np gm gs dm dp pm ns qa)), ((qa 6), iA G 8 mO), ((qa 13), iA G 10 (fun j => nI (go j))), ((qa 14), iA G 10 (fun j => nI (nx j)))] H := by rw [hH]; exact hP
  have hS : va_S A s.heap H locs := by rw [hH, hL]; exact va_S.rf
  refine lv_aload_n hx hb dX8_comesTo_0 rfl (lv_at hl 0 rfl) ?_
  refine va_get (D := G.1) (ci := 8) (v := .ref (qa 6)) (C := RX8) (T := TX8) (N := 28) hx hb hts (by decide +kernel) hown hK.1 hP 0 rfl rfl 6 (by decide) (hts (.fieldLink RX8 23 "CallNumbersModel" "metOf" "[I") (by decide +kernel)) (fun _ h9 => h9) rfl dX8_comesTo_1 ?_
  refine lv_iload_n hx hb dX8_comesTo_4 rfl (lv_at hl 1 rfl) ?_
  refine lv_dup2_11 hx hb dX8_comesTo_5 rfl rfl ?_
  refine ialdK (k := k) (f := mO) hx hb hK.1 hP 1 0 rfl rfl (rfl) (by omega) (Nat.le_of_ble_eq_true rfl) dX8_comesTo_6 ?_
  refine lv_iconst (v := nI 1) hx hb dX8_comesTo_7 (by decide) ?_
  refine lv_iload_n hx hb dX8_comesTo_8 rfl (lv_at hl 2 rfl) ?_
  refine lv_ishl hx hb dX8_comesTo_9 ?_
  refine lv_ior hx hb dX8_comesTo_10 ?_
  refine iastK (k := k) (f := mO) (x := (mO k ||| (nI 1 <<< (nI r0 &&& 31)))) hx hb hK.1 hP hD hS 1 0 rfl rfl (rfl) (by omega) (Nat.le_of_ble_eq_true rfl) dX8_comesTo_11 (fun H locs hP hD hS => ?_)
  have hP : PP G [(o, ob 8 (mo n lim np gm gs dm dp pm ns qa)), ((qa 6), iA G 8 (va_up mO k (mO k ||| (nI 1 <<< (nI r0 &&& 31))))), ((qa 13), iA G 10 (fun j => nI (go j))), ((qa 14), iA G 10 (fun j => nI (nx j)))] H := hP
  have hD : va_D A [(o, ob 8 (mo n lim np gm gs dm dp pm ns qa)), ((qa 6), iA G 8 (va_up mO k (mO k ||| (nI 1 <<< (nI r0 &&& 31))))), ((qa 13), iA G 10 (fun j => nI (go j))), ((qa 14), iA G 10 (fun j => nI (nx j)))] := hD
  refine lv_aload_n hx hb dX8_comesTo_12 rfl (lv_at hl 0 rfl) ?_
  refine lv_dup hx hb dX8_comesTo_13 rfl ?_
  refine va_get (D := G.1) (ci := 8) (v := .int gs) (C := RX8) (T := TX8) (N := 28) hx hb hts (by decide +kernel) hown hK.1 hP 0 rfl rfl 15 (by decide) (hts (.fieldLink RX8 92 "CallNumbersModel" "goingSet" "I") (by decide +kernel)) (fun _ h9 => h9) rfl dX8_comesTo_14 ?_
  refine lv_iconst (v := nI 1) hx hb dX8_comesTo_17 (by decide) ?_
  refine lv_iload_n hx hb dX8_comesTo_18 rfl (lv_at hl 2 rfl) ?_
  refine lv_ishl hx hb dX8_comesTo_19 ?_
  refine lv_ior hx hb dX8_comesTo_20 ?_
  refine va_put (D := G.1) (ci := 8) (v := .int (gs ||| (nI 1 <<< (nI r0 &&& 31)))) (ty := .int) (C := RX8) (T := TX8) (N := 28) hx hb hts (by decide +kernel) tyX8 tyX8_ok nmX8 hown hK.1 hP hD hS 0 rfl rfl 15 (by decide) (hts (.fieldLink RX8 92 "CallNumbersModel" "goingSet" "I") (by decide +kernel)) (fun _ h9 => h9) rfl (by decide +kernel) rfl rfl (Nat.le_of_ble_eq_true rfl) dX8_comesTo_21 (fun H locs hP hD hS => ?_)
  have hP : PP G [(o, ob 8 (mo n lim np gm (gs ||| (nI 1 <<< (nI r0 &&& 31))) dm dp pm ns qa)), ((qa 6), iA G 8 (va_up mO k (mO k ||| (nI 1 <<< (nI r0 &&& 31))))), ((qa 13), iA G 10 (fun j => nI (go j))), ((qa 14), iA G 10 (fun j => nI (nx j)))] H := hP
  have hD : va_D A [(o, ob 8 (mo n lim np gm (gs ||| (nI 1 <<< (nI r0 &&& 31))) dm dp pm ns qa)), ((qa 6), iA G 8 (va_up mO k (mO k ||| (nI 1 <<< (nI r0 &&& 31))))), ((qa 13), iA G 10 (fun j => nI (go j))), ((qa 14), iA G 10 (fun j => nI (nx j)))] := hD
  refine lv_aload_n hx hb dX8_comesTo_24 rfl (lv_at hl 0 rfl) ?_
  refine va_get (D := G.1) (ci := 8) (v := .ref (qa 13)) (C := RX8) (T := TX8) (N := 28) hx hb hts (by decide +kernel) hown hK.1 hP 0 rfl rfl 13 (by decide) (hts (.fieldLink RX8 41 "CallNumbersModel" "going" "[I") (by decide +kernel)) (fun _ h9 => h9) rfl dX8_comesTo_25 ?_
  refine lv_aload_n hx hb dX8_comesTo_28 rfl (lv_at hl 0 rfl) ?_
  refine va_get (D := G.1) (ci := 8) (v := .int (nI gm)) (C := RX8) (T := TX8) (N := 28) hx hb hts (by decide +kernel) hown hK.1 hP 0 rfl rfl 12 (by decide) (hts (.fieldLink RX8 95 "CallNumbersModel" "goingMany" "I") (by decide +kernel)) (fun _ h9 => h9) rfl dX8_comesTo_29 ?_
  refine lv_iload_n hx hb dX8_comesTo_32 rfl (lv_at hl 2 rfl) ?_
  refine iastN (k := gm) (f := go) (x := r0) hx hb hK.1 hP hD hS 2 0 rfl rfl (rfl) (by omega) (Nat.le_of_ble_eq_true rfl) dX8_comesTo_33 (fun H locs hP hD hS => ?_)
  have hP : PP G [(o, ob 8 (mo n lim np gm (gs ||| (nI 1 <<< (nI r0 &&& 31))) dm dp pm ns qa)), ((qa 6), iA G 8 (va_up mO k (mO k ||| (nI 1 <<< (nI r0 &&& 31))))), ((qa 13), iA G 10 (fun j => nI ((va_up go gm r0) j))), ((qa 14), iA G 10 (fun j => nI (nx j)))] H := hP
  have hD : va_D A [(o, ob 8 (mo n lim np gm (gs ||| (nI 1 <<< (nI r0 &&& 31))) dm dp pm ns qa)), ((qa 6), iA G 8 (va_up mO k (mO k ||| (nI 1 <<< (nI r0 &&& 31))))), ((qa 13), iA G 10 (fun j => nI ((va_up go gm r0) j))), ((qa 14), iA G 10 (fun j => nI (nx j)))] := hD
  refine lv_aload_n hx hb dX8_comesTo_34 rfl (lv_at hl 0 rfl) ?_
  refine va_get (D := G.1) (ci := 8) (v := .ref (qa 14)) (C := RX8) (T := TX8) (N := 28) hx hb hts (by decide +kernel) hown hK.1 hP 0 rfl rfl 14 (by decide) (hts (.fieldLink RX8 44 "CallNumbersModel" "nextOf" "[I") (by decide +kernel)) (fun _ h9 => h9) rfl dX8_comesTo_35 ?_
  refine lv_aload_n hx hb dX8_comesTo_38 rfl (lv_at hl 0 rfl) ?_
  refine va_get (D := G.1) (ci := 8) (v := .int (nI gm)) (C := RX8) (T := TX8) (N := 28) hx hb hts (by decide +kernel) hown hK.1 hP 0 rfl rfl 12 (by decide) (hts (.fieldLink RX8 95 "CallNumbersModel" "goingMany" "I") (by decide +kernel)) (fun _ h9 => h9) rfl dX8_comesTo_39 ?_
  refine lv_iconst (v := nI 0) hx hb dX8_comesTo_42 (by decide) ?_
  refine iastN (k := gm) (f := nx) (x := 0) hx hb hK.1 hP hD hS 3 0 rfl rfl (rfl) (by omega) (Nat.le_of_ble_eq_true rfl) dX8_comesTo_43 (fun H locs hP hD hS => ?_)
  have hP : PP G [(o, ob 8 (mo n lim np gm (gs ||| (nI 1 <<< (nI r0 &&& 31))) dm dp pm ns qa)), ((qa 6), iA G 8 (va_up mO k (mO k ||| (nI 1 <<< (nI r0 &&& 31))))), ((qa 13), iA G 10 (fun j => nI ((va_up go gm r0) j))), ((qa 14), iA G 10 (fun j => nI ((va_up nx gm 0) j)))] H := hP
  have hD : va_D A [(o, ob 8 (mo n lim np gm (gs ||| (nI 1 <<< (nI r0 &&& 31))) dm dp pm ns qa)), ((qa 6), iA G 8 (va_up mO k (mO k ||| (nI 1 <<< (nI r0 &&& 31))))), ((qa 13), iA G 10 (fun j => nI ((va_up go gm r0) j))), ((qa 14), iA G 10 (fun j => nI ((va_up nx gm 0) j)))] := hD
  refine lv_aload_n hx hb dX8_comesTo_44 rfl (lv_at hl 0 rfl) ?_
  refine lv_dup hx hb dX8_comesTo_45 rfl ?_
  refine va_get (D := G.1) (ci := 8) (v := .int (nI gm)) (C := RX8) (T := TX8) (N := 28) hx hb hts (by decide +kernel) hown hK.1 hP 0 rfl rfl 12 (by decide) (hts (.fieldLink RX8 95 "CallNumbersModel" "goingMany" "I") (by decide +kernel)) (fun _ h9 => h9) rfl dX8_comesTo_46 ?_
  refine lv_iconst (v := nI 1) hx hb dX8_comesTo_49 (by decide) ?_
  refine lv_iadd hx hb dX8_comesTo_50 ?_
  refine lv_topi (fun v ev => ?_)
  obtain rfl : v = nI (gm + 1) := ev.trans (nI_add _ _)
  refine va_put (D := G.1) (ci := 8) (v := .int (nI (gm + 1))) (ty := .int) (C := RX8) (T := TX8) (N := 28) hx hb hts (by decide +kernel) tyX8 tyX8_ok nmX8 hown hK.1 hP hD hS 0 rfl rfl 12 (by decide) (hts (.fieldLink RX8 95 "CallNumbersModel" "goingMany" "I") (by decide +kernel)) (fun _ h9 => h9) rfl (by decide +kernel) rfl rfl (Nat.le_of_ble_eq_true rfl) dX8_comesTo_51 (fun H locs hP hD hS => ?_)
  have hP : PP G [(o, ob 8 (mo n lim np (gm + 1) (gs ||| (nI 1 <<< (nI r0 &&& 31))) dm dp pm ns qa)), ((qa 6), iA G 8 (va_up mO k (mO k ||| (nI 1 <<< (nI r0 &&& 31))))), ((qa 13), iA G 10 (fun j => nI ((va_up go gm r0) j))), ((qa 14), iA G 10 (fun j => nI ((va_up nx gm 0) j)))] H := hP
  have hD : va_D A [(o, ob 8 (mo n lim np (gm + 1) (gs ||| (nI 1 <<< (nI r0 &&& 31))) dm dp pm ns qa)), ((qa 6), iA G 8 (va_up mO k (mO k ||| (nI 1 <<< (nI r0 &&& 31))))), ((qa 13), iA G 10 (fun j => nI ((va_up go gm r0) j))), ((qa 14), iA G 10 (fun j => nI ((va_up nx gm 0) j)))] := hD
  exact W.vret hx hb hr (fun t ht _ => ⟨⟨(), rfl, trivial, by rw [ht]; exact hP, hD⟩, hS.F ht⟩) hS.2.2 dX8_comesTo_54
set_option maxHeartbeats 4000000 in
set_option maxRecDepth 100000 in
theorem c_X8_goesAlong (G : GG) (l : Launch) (o n lim np gm : Nat) (gs : Int32) (dm dp pm ns : Nat) (qa : Nat → Nat) (to : Nat → Nat) (mO : Nat → Int32) (rO : Nat → Int32) (go : Nat → Nat) (nx : Nat → Nat) (k ev : Nat) (hk : k < 8) (he : ev < 24) (hg : gm < 10) (sz : Nat) : Met l yX8_goesAlong wsX8_goesAlong { frames := 1, cells := 0, slots := 0, locals := 22 } (WPc G [.ref o, .int (nI k), .int (nI ev)] [(o, ob 8 (mo n lim np gm gs dm dp pm ns qa)), ((qa 2), iA G 24 (fun j => nI (to j))), ((qa 6), iA G 8 mO), ((qa 8), iA G 8 rO), ((qa 13), iA G 10 (fun j => nI (go j))), ((qa 14), iA G 10 (fun j => nI (nx j)))] sz) (WQv G [(o, ob 8 (mo n lim np gm gs dm dp pm ns qa)), ((qa 2), iA G 24 (fun j => nI (to j))), ((qa 6), iA G 8 mO), ((qa 8), iA G 8 rO), ((qa 13), iA G 10 (fun j => nI (go j))), ((qa 14), iA G 10 (fun j => nI (nx j)))] sz (fun u : Nat × Int32 × (Nat → Int32) × (Nat → Int32) × (Nat → Nat) × (Nat → Nat) => (hbt gs (to ev) = true ∧ u = (gm, gs, mO, va_up rO k (rO k ||| bitI ev), go, nx)) ∨ (hbt gs (to ev) = false ∧ hbt (mO k) (to ev) = true ∧ u = (gm, gs, mO, rO, go, nx)) ∨ (hbt gs (to ev) = false ∧ hbt (mO k) (to ev) = false ∧ u = (gm + 1, gs ||| bitI (to ev), va_up mO k (mO k ||| bitI (to ev)), rO, va_up go gm (to ev), va_up nx gm 0))) (fun u => [(o, ob 8 (mo n lim np u.1 u.2.1 dm dp pm ns qa)), ((qa 2), iA G 24 (fun j => nI (to j))), ((qa 6), iA G 8 u.2.2.1), ((qa 8), iA G 8 u.2.2.2.1), ((qa 13), iA G 10 (fun j => nI (u.2.2.2.2.1 j))), ((qa 14), iA G 10 (fun j => nI (u.2.2.2.2.2 j)))])) 0 0 (va_A [(o, ob 8 (mo n lim np gm gs dm dp pm ns qa)), ((qa 2), iA G 24 (fun j => nI (to j))), ((qa 6), iA G 8 mO), ((qa 8), iA G 8 rO), ((qa 13), iA G 10 (fun j => nI (go j))), ((qa 14), iA G 10 (fun j => nI (nx j)))] sz) := by
  refine Met.ofW (cc := cX8_goesAlong) (maxL := 3) (ret := none) (by decide) rfl ?_
  intro p e s m args below meth c s₁ B hml hv
  obtain ⟨rfl, hsz, hP, hK, hD0⟩ := hv
  have hx := B.exec
  have hb := B.bytes
  have hr := B.returns
  have hts := atoms_spec (ws := wsX8_goesAlong) B.pre
  have hown : s.vm.findClass RX8 = some m.cls := findClass_of_methodNamed B.named
  have hlocks := B.notSynchronized
  subst hsz
  have hD := hD0.self (sz := s.heap.size)
  unfold WQv
  generalize hAe : va_A [(o, ob 8 (mo n lim np gm gs dm dp pm ns qa)), ((qa 2), iA G 24 (fun j => nI (to j))), ((qa 6), iA G 8 mO), ((qa 8), iA G 8 rO), ((qa 13), iA G 10 (fun j => nI (go j))), ((qa 14), iA G 10 (fun j => nI (nx j)))] s.heap.size = A at hD ⊢
  have hA : ∀ q : Nat, s.heap.size ≤ q → A q := fun q h => by rw [← hAe]; exact Or.inr h
  have hl := lv_entry ([.ref o, .int (nI k), .int (nI ev)]) (n := 3) (Nat.le_of_ble_eq_true rfl)
  rw [lg_entry_eq]
  generalize (lg_sl ([.ref o, .int (nI k), .int (nI ev)]) ++ List.replicate (3 - (lg_sl ([.ref o, .int (nI k), .int (nI ev)])).length) Slot.unset).toArray = ls at hl ⊢
  have hl : lv_has ls 3 [(0, .ref o), (1, .int (nI k)), (2, .int (nI ev))] := hl
  refine nameHL (fun H locs hH hL => ?_)
  have hP : PP G [(o, ob 8 (mo n lim np gm gs dm dp pm ns qa)), ((qa 2), iA G 24 (fun j => nI (to j))), ((qa 6), iA G 8 mO), ((qa 8), iA G 8 rO), ((qa 13), iA G 10 (fun j => nI (go j))), ((qa 14), iA G 10 (fun j => nI (nx j)))] H := by rw [hH]; exact hP
  have hS : va_S A s.heap H locs := by rw [hH, hL]; exact va_S.rf
  refine lv_aload_n hx hb dX8_goesAlong_0 rfl (lv_at hl 0 rfl) ?_
  refine va_get (D := G.1) (ci := 8) (v := .int gs) (C := RX8) (T := TX8) (N := 28) hx hb hts (by decide +kernel) hown hK.1 hP 0 rfl rfl 15 (by decide) (hts (.fieldLink RX8 92 "CallNumbersModel" "goingSet" "I") (by decide +kernel)) (fun _ h9 => h9) rfl dX8_goesAlong_1 ?_
  refine lv_aload_n hx hb dX8_goesAlong_4 rfl (lv_at hl 0 rfl) ?_
  refine va_get (D := G.1) (ci := 8) (v := .ref (qa 2)) (C := RX8) (T := TX8) (N := 28) hx hb hts (by decide +kernel) hown hK.1 hP 0 rfl rfl 2 (by decide) (hts (.fieldLink RX8 13 "CallNumbersModel" "toOf" "[I") (by decide +kernel)) (fun _ h9 => h9) rfl dX8_goesAlong_5 ?_
  refine lv_iload_n hx hb dX8_goesAlong_8 rfl (lv_at hl 2 rfl) ?_
  refine ialdN (k := ev) (f := to) hx hb hK.1 hP 1 0 rfl rfl (rfl) (by omega) (Nat.le_of_ble_eq_true rfl) dX8_goesAlong_9 ?_
  have hP_1 : PP G [] H := hP.sub [] rfl
  refine csi (va_runS (As := [.int gs, .int (nI (to ev))]) (rest := []) ⟨hx, hb, hml, hown, hts⟩ (c_X8_has G l gs (to ev)) (va_cwS 2 hts gX8_goesAlong_X8_has rfl rfl rfl (by decide +kernel) ⟨Nat.le_of_ble_eq_true rfl, Nat.le_of_ble_eq_true rfl⟩) (preR hK hP_1) rfl rfl hl.1 rfl (lv_room (Nat.le_of_ble_eq_true rfl)) dX8_goesAlong_10 ⟨Nat.zero_le _, Nat.zero_le _⟩) (fun r_2 h_3 => ?_)
  rcases h_3 with ⟨rfl, g10⟩ | ⟨rfl, g10⟩
  · skip
    refine lv_if_eq (tgt := 31) hx hb dX8_goesAlong_13 (by decide) (fun c9 => absurd c9 (by decide)) (fun _ => ?_)
    refine lv_aload_n hx hb dX8_goesAlong_16 rfl (lv_at hl 0 rfl) ?_
    refine va_get (D := G.1) (ci := 8) (v := .ref (qa 8)) (C := RX8) (T := TX8) (N := 28) hx hb hts (by decide +kernel) hown hK.1 hP 0 rfl rfl 8 (by decide) (hts (.fieldLink RX8 29 "CallNumbersModel" "ringsOf" "[I") (by decide +kernel)) (fun _ h9 => h9) rfl dX8_goesAlong_17 ?_
    refine lv_iload_n hx hb dX8_goesAlong_20 rfl (lv_at hl 1 rfl) ?_
    refine lv_dup2_11 hx hb dX8_goesAlong_21 rfl rfl ?_
    refine ialdK (k := k) (f := rO) hx hb hK.1 hP 3 0 rfl rfl (rfl) (by omega) (Nat.le_of_ble_eq_true rfl) dX8_goesAlong_22 ?_
    refine lv_iconst (v := nI 1) hx hb dX8_goesAlong_23 (by decide) ?_
    refine lv_iload_n hx hb dX8_goesAlong_24 rfl (lv_at hl 2 rfl) ?_
    refine lv_ishl hx hb dX8_goesAlong_25 ?_
    refine lv_ior hx hb dX8_goesAlong_26 ?_
    refine iastK (k := k) (f := rO) (x := (rO k ||| (nI 1 <<< (nI ev &&& 31)))) hx hb hK.1 hP hD hS 3 0 rfl rfl (rfl) (by omega) (Nat.le_of_ble_eq_true rfl) dX8_goesAlong_27 (fun H locs hP hD hS => ?_)
    have hP : PP G [(o, ob 8 (mo n lim np gm gs dm dp pm ns qa)), ((qa 2), iA G 24 (fun j => nI (to j))), ((qa 6), iA G 8 mO), ((qa 8), iA G 8 (va_up rO k (rO k ||| (nI 1 <<< (nI ev &&& 31))))), ((qa 13), iA G 10 (fun j => nI (go j))), ((qa 14), iA G 10 (fun j => nI (nx j)))] H := hP
    have hD : va_D A [(o, ob 8 (mo n lim np gm gs dm dp pm ns qa)), ((qa 2), iA G 24 (fun j => nI (to j))), ((qa 6), iA G 8 mO), ((qa 8), iA G 8 (va_up rO k (rO k ||| (nI 1 <<< (nI ev &&& 31))))), ((qa 13), iA G 10 (fun j => nI (go j))), ((qa 14), iA G 10 (fun j => nI (nx j)))] := hD
    refine lv_goto (tgt := 60) hx hb dX8_goesAlong_28 (by decide) ?_
    exact W.vret hx hb hr (fun t ht _ => ⟨⟨(gm, gs, mO, va_up rO k (rO k ||| bitI ev), go, nx), rfl, Or.inl ⟨g10, rfl⟩, by rw [ht]; exact hP, hD⟩, hS.F ht⟩) hS.2.2 dX8_goesAlong_60
  · skip
    refine lv_if_eq (tgt := 31) hx hb dX8_goesAlong_13 (by decide) (fun _ => ?_) (fun c9 => absurd c9 (by decide))
    refine lv_aload_n hx hb dX8_goesAlong_31 rfl (lv_at hl 0 rfl) ?_
    refine va_get (D := G.1) (ci := 8) (v := .ref (qa 6)) (C := RX8) (T := TX8) (N := 28) hx hb hts (by decide +kernel) hown hK.1 hP 0 rfl rfl 6 (by decide) (hts (.fieldLink RX8 23 "CallNumbersModel" "metOf" "[I") (by decide +kernel)) (fun _ h9 => h9) rfl dX8_goesAlong_32 ?_
    refine lv_iload_n hx hb dX8_goesAlong_35 rfl (lv_at hl 1 rfl) ?_
    refine ialdK (k := k) (f := mO) hx hb hK.1 hP 2 0 rfl rfl (rfl) (by omega) (Nat.le_of_ble_eq_true rfl) dX8_goesAlong_36 ?_
    refine lv_aload_n hx hb dX8_goesAlong_37 rfl (lv_at hl 0 rfl) ?_
    refine va_get (D := G.1) (ci := 8) (v := .ref (qa 2)) (C := RX8) (T := TX8) (N := 28) hx hb hts (by decide +kernel) hown hK.1 hP 0 rfl rfl 2 (by decide) (hts (.fieldLink RX8 13 "CallNumbersModel" "toOf" "[I") (by decide +kernel)) (fun _ h9 => h9) rfl dX8_goesAlong_38 ?_
    refine lv_iload_n hx hb dX8_goesAlong_41 rfl (lv_at hl 2 rfl) ?_
    refine ialdN (k := ev) (f := to) hx hb hK.1 hP 1 0 rfl rfl (rfl) (by omega) (Nat.le_of_ble_eq_true rfl) dX8_goesAlong_42 ?_
    have hP_4 : PP G [] H := hP.sub [] rfl
    refine csi (va_runS (As := [.int (mO k), .int (nI (to ev))]) (rest := []) ⟨hx, hb, hml, hown, hts⟩ (c_X8_has G l (mO k) (to ev)) (va_cwS 2 hts gX8_goesAlong_X8_has rfl rfl rfl (by decide +kernel) ⟨Nat.le_of_ble_eq_true rfl, Nat.le_of_ble_eq_true rfl⟩) (preR hK hP_4) rfl rfl hl.1 rfl (lv_room (Nat.le_of_ble_eq_true rfl)) dX8_goesAlong_43 ⟨Nat.zero_le _, Nat.zero_le _⟩) (fun r_5 h_6 => ?_)
    rcases h_6 with ⟨rfl, g43⟩ | ⟨rfl, g43⟩
    · skip
      refine lv_if_ne (tgt := 60) hx hb dX8_goesAlong_46 (by decide) (fun _ => ?_) (fun c9 => absurd c9 (by decide))
      exact W.vret hx hb hr (fun t ht _ => ⟨⟨(gm, gs, mO, rO, go, nx), rfl, Or.inr (Or.inl ⟨g10, g43, rfl⟩), by rw [ht]; exact hP, hD⟩, hS.F ht⟩) hS.2.2 dX8_goesAlong_60
    · skip
      refine lv_if_ne (tgt := 60) hx hb dX8_goesAlong_46 (by decide) (fun c9 => absurd c9 (by decide)) (fun _ => ?_)
      refine lv_aload_n hx hb dX8_goesAlong_49 rfl (lv_at hl 0 rfl) ?_
      refine lv_iload_n hx hb dX8_goesAlong_50 rfl (lv_at hl 1 rfl) ?_
      refine lv_aload_n hx hb dX8_goesAlong_51 rfl (lv_at hl 0 rfl) ?_
      refine va_get (D := G.1) (ci := 8) (v := .ref (qa 2)) (C := RX8) (T := TX8) (N := 28) hx hb hts (by decide +kernel) hown hK.1 hP 0 rfl rfl 2 (by decide) (hts (.fieldLink RX8 13 "CallNumbersModel" "toOf" "[I") (by decide +kernel)) (fun _ h9 => h9) rfl dX8_goesAlong_52 ?_
      refine lv_iload_n hx hb dX8_goesAlong_55 rfl (lv_at hl 2 rfl) ?_
      refine ialdN (k := ev) (f := to) hx hb hK.1 hP 1 0 rfl rfl (rfl) (by omega) (Nat.le_of_ble_eq_true rfl) dX8_goesAlong_56 ?_
      have hP_7 : PP G [(o, ob 8 (mo n lim np gm gs dm dp pm ns qa)), ((qa 6), iA G 8 mO), ((qa 13), iA G 10 (fun j => nI (go j))), ((qa 14), iA G 10 (fun j => nI (nx j)))] H := hP.sub [0, 2, 4, 5] rfl
      have hD_8 : va_D A [(o, ob 8 (mo n lim np gm gs dm dp pm ns qa)), ((qa 6), iA G 8 mO), ((qa 13), iA G 10 (fun j => nI (go j))), ((qa 14), iA G 10 (fun j => nI (nx j)))] := hD.sub [0, 2, 4, 5] (by decide) rfl
      refine cwv (va_runV (As := [.int (nI k), .int (nI (to ev))]) (rest := []) ⟨hx, hb, hml, hown, hts⟩ (c_X8_comesTo G l o n lim np gm gs dm dp pm ns qa mO go nx k (to ev) (by omega) (by omega) H.size) (cwV 2 hts gX8_goesAlong_X8_comesTo rfl rfl rfl (by decide +kernel) ⟨Nat.le_of_ble_eq_true rfl, Nat.le_of_ble_eq_true rfl⟩) (preWV hK hP_7 hD_8 0 8 rfl rfl) rfl rfl hl.1 rfl (lv_room (Nat.le_of_ble_eq_true rfl)) dX8_goesAlong_57 ⟨Nat.zero_le _, Nat.zero_le _⟩) hS hA hP hD [0, 2, 4, 5] rfl (fun _ => rfl) (fun u_10 H locs h_11 hP hD hS => ?_)
      have hP : PP G [(o, ob 8 (mo n lim np (gm + 1) (gs ||| bitI (to ev)) dm dp pm ns qa)), ((qa 2), iA G 24 (fun j => nI (to j))), ((qa 6), iA G 8 (va_up mO k (mO k ||| bitI (to ev)))), ((qa 8), iA G 8 rO), ((qa 13), iA G 10 (fun j => nI ((va_up go gm (to ev)) j))), ((qa 14), iA G 10 (fun j => nI ((va_up nx gm 0) j)))] H := hP
      have hD : va_D A [(o, ob 8 (mo n lim np (gm + 1) (gs ||| bitI (to ev)) dm dp pm ns qa)), ((qa 2), iA G 24 (fun j => nI (to j))), ((qa 6), iA G 8 (va_up mO k (mO k ||| bitI (to ev)))), ((qa 8), iA G 8 rO), ((qa 13), iA G 10 (fun j => nI ((va_up go gm (to ev)) j))), ((qa 14), iA G 10 (fun j => nI ((va_up nx gm 0) j)))] := hD
      exact W.vret hx hb hr (fun t ht _ => ⟨⟨(gm + 1, gs ||| bitI (to ev), va_up mO k (mO k ||| bitI (to ev)), rO, va_up go gm (to ev), va_up nx gm 0), rfl, Or.inr (Or.inr ⟨g10, g43, rfl⟩), by rw [ht]; exact hP, hD⟩, hS.F ht⟩) hS.2.2 dX8_goesAlong_60
set_option maxHeartbeats 4000000 in
set_option maxRecDepth 100000 in
theorem c_X8_add (G : GG) (l : Launch) (o n lim np gm : Nat) (gs : Int32) (dm dp pm ns : Nat) (qa : Nat → Nat) (fr : Nat → Nat) (to : Nat → Nat) (x y : Int32) (hn : n ≤ 24) (sz : Nat) : Met l yX8_add wsX8_add { frames := 2, cells := 0, slots := 0, locals := 42 } (WPc G [.ref o, .int x, .int y] [(o, ob 8 (mo n lim np gm gs dm dp pm ns qa)), ((qa 1), iA G 24 (fun j => nI (fr j))), ((qa 2), iA G 24 (fun j => nI (to j)))] sz) (WQi G [(o, ob 8 (mo n lim np gm gs dm dp pm ns qa)), ((qa 1), iA G 24 (fun j => nI (fr j))), ((qa 2), iA G 24 (fun j => nI (to j)))] sz (fun (r : Int32) (u : Nat × (Nat → Nat) × (Nat → Nat)) => AddR n fr to x y r u) (fun u => [(o, ob 8 (mo u.1 lim np gm gs dm dp pm ns qa)), ((qa 1), iA G 24 (fun j => nI (u.2.1 j))), ((qa 2), iA G 24 (fun j => nI (u.2.2 j)))])) 0 0 (va_A [(o, ob 8 (mo n lim np gm gs dm dp pm ns qa)), ((qa 1), iA G 24 (fun j => nI (fr j))), ((qa 2), iA G 24 (fun j => nI (to j)))] sz) := by
  refine Met.ofW (cc := cX8_add) (maxL := 3) (ret := (some .int)) (by decide) rfl ?_
  intro p e s m args below meth c s₁ B hml hv
  obtain ⟨rfl, hsz, hP, hK, hD0⟩ := hv
  have hx := B.exec
  have hb := B.bytes
  have hr := B.returns
  have hts := atoms_spec (ws := wsX8_add) B.pre
  have hown : s.vm.findClass RX8 = some m.cls := findClass_of_methodNamed B.named
  have hlocks := B.notSynchronized
  subst hsz
  have hD := hD0.self (sz := s.heap.size)
  unfold WQi
  generalize hAe : va_A [(o, ob 8 (mo n lim np gm gs dm dp pm ns qa)), ((qa 1), iA G 24 (fun j => nI (fr j))), ((qa 2), iA G 24 (fun j => nI (to j)))] s.heap.size = A at hD ⊢
  have hA : ∀ q : Nat, s.heap.size ≤ q → A q := fun q h => by rw [← hAe]; exact Or.inr h
  have hl := lv_entry ([.ref o, .int x, .int y]) (n := 3) (Nat.le_of_ble_eq_true rfl)
  rw [lg_entry_eq]
  generalize (lg_sl ([.ref o, .int x, .int y]) ++ List.replicate (3 - (lg_sl ([.ref o, .int x, .int y])).length) Slot.unset).toArray = ls at hl ⊢
  have hl : lv_has ls 3 [(0, .ref o), (1, .int x), (2, .int y)] := hl
  refine nameHL (fun H locs hH hL => ?_)
  have hP : PP G [(o, ob 8 (mo n lim np gm gs dm dp pm ns qa)), ((qa 1), iA G 24 (fun j => nI (fr j))), ((qa 2), iA G 24 (fun j => nI (to j)))] H := by rw [hH]; exact hP
  have hS : va_S A s.heap H locs := by rw [hH, hL]; exact va_S.rf
  refine lv_iload_n hx hb dX8_add_0 rfl (lv_at hl 1 rfl) ?_
  have hP_1 : PP G [] H := hP.sub [] rfl
  refine csi (va_runS (As := [.int x]) (rest := []) ⟨hx, hb, hml, hown, hts⟩ (c_X8_isRoutine G l x) (va_cwS 1 hts gX8_add_X8_isRoutine rfl rfl rfl (by decide +kernel) ⟨Nat.le_of_ble_eq_true rfl, Nat.le_of_ble_eq_true rfl⟩) (preR hK hP_1) rfl rfl hl.1 rfl (lv_room (Nat.le_of_ble_eq_true rfl)) dX8_add_1 ⟨Nat.zero_le _, Nat.zero_le _⟩) (fun r_2 h_3 => ?_)
  rcases h_3 with ⟨rfl, k1, b1, rfl⟩ | ⟨rfl, b1⟩
  · skip
    refine lv_if_eq (tgt := 14) hx hb dX8_add_4 (by decide) (fun c9 => absurd c9 (by decide)) (fun _ => ?_)
    refine lv_iload_n hx hb dX8_add_7 rfl (lv_at hl 2 rfl) ?_
    have hP_4 : PP G [] H := hP.sub [] rfl
    refine csi (va_runS (As := [.int y]) (rest := []) ⟨hx, hb, hml, hown, hts⟩ (c_X8_isRoutine G l y) (va_cwS 1 hts gX8_add_X8_isRoutine rfl rfl rfl (by decide +kernel) ⟨Nat.le_of_ble_eq_true rfl, Nat.le_of_ble_eq_true rfl⟩) (preR hK hP_4) rfl rfl hl.1 rfl (lv_room (Nat.le_of_ble_eq_true rfl)) dX8_add_8 ⟨Nat.zero_le _, Nat.zero_le _⟩) (fun r_5 h_6 => ?_)
    rcases h_6 with ⟨rfl, k8, b8, rfl⟩ | ⟨rfl, b8⟩
    · skip
      refine lv_if_ne (tgt := 16) hx hb dX8_add_11 (by decide) (fun _ => ?_) (fun c9 => absurd c9 (by decide))
      refine lv_aload_n hx hb dX8_add_16 rfl (lv_at hl 0 rfl) ?_
      refine va_get (D := G.1) (ci := 8) (v := .int (nI n)) (C := RX8) (T := TX8) (N := 28) hx hb hts (by decide +kernel) hown hK.1 hP 0 rfl rfl 0 (by decide) (hts (.fieldLink RX8 78 "CallNumbersModel" "calls" "I") (by decide +kernel)) (fun _ h9 => h9) rfl dX8_add_17 ?_
      refine lv_bipush (v := nI 24) hx hb dX8_add_20 (by decide) ?_
      refine lv_icmp_ne (tgt := 28) hx hb dX8_add_22 (by decide) (fun c22 => ?_) (fun c22 => ?_)
      · skip
        have c22 := mt (nI_eq (a := n) (b := 24) (by omega) (by omega)).mpr c22
        refine lv_aload_n hx hb dX8_add_28 rfl (lv_at hl 0 rfl) ?_
        refine va_get (D := G.1) (ci := 8) (v := .ref (qa 1)) (C := RX8) (T := TX8) (N := 28) hx hb hts (by decide +kernel) hown hK.1 hP 0 rfl rfl 1 (by decide) (hts (.fieldLink RX8 7 "CallNumbersModel" "fromOf" "[I") (by decide +kernel)) (fun _ h9 => h9) rfl dX8_add_29 ?_
        refine lv_aload_n hx hb dX8_add_32 rfl (lv_at hl 0 rfl) ?_
        refine va_get (D := G.1) (ci := 8) (v := .int (nI n)) (C := RX8) (T := TX8) (N := 28) hx hb hts (by decide +kernel) hown hK.1 hP 0 rfl rfl 0 (by decide) (hts (.fieldLink RX8 78 "CallNumbersModel" "calls" "I") (by decide +kernel)) (fun _ h9 => h9) rfl dX8_add_33 ?_
        refine lv_iload_n hx hb dX8_add_36 rfl (lv_at hl 1 rfl) ?_
        refine iastN (k := n) (f := fr) (x := k1) hx hb hK.1 hP hD hS 1 0 rfl rfl (rfl) (by omega) (Nat.le_of_ble_eq_true rfl) dX8_add_37 (fun H locs hP hD hS => ?_)
        have hP : PP G [(o, ob 8 (mo n lim np gm gs dm dp pm ns qa)), ((qa 1), iA G 24 (fun j => nI ((va_up fr n k1) j))), ((qa 2), iA G 24 (fun j => nI (to j)))] H := hP
        have hD : va_D A [(o, ob 8 (mo n lim np gm gs dm dp pm ns qa)), ((qa 1), iA G 24 (fun j => nI ((va_up fr n k1) j))), ((qa 2), iA G 24 (fun j => nI (to j)))] := hD
        refine lv_aload_n hx hb dX8_add_38 rfl (lv_at hl 0 rfl) ?_
        refine va_get (D := G.1) (ci := 8) (v := .ref (qa 2)) (C := RX8) (T := TX8) (N := 28) hx hb hts (by decide +kernel) hown hK.1 hP 0 rfl rfl 2 (by decide) (hts (.fieldLink RX8 13 "CallNumbersModel" "toOf" "[I") (by decide +kernel)) (fun _ h9 => h9) rfl dX8_add_39 ?_
        refine lv_aload_n hx hb dX8_add_42 rfl (lv_at hl 0 rfl) ?_
        refine va_get (D := G.1) (ci := 8) (v := .int (nI n)) (C := RX8) (T := TX8) (N := 28) hx hb hts (by decide +kernel) hown hK.1 hP 0 rfl rfl 0 (by decide) (hts (.fieldLink RX8 78 "CallNumbersModel" "calls" "I") (by decide +kernel)) (fun _ h9 => h9) rfl dX8_add_43 ?_
        refine lv_iload_n hx hb dX8_add_46 rfl (lv_at hl 2 rfl) ?_
        refine iastN (k := n) (f := to) (x := k8) hx hb hK.1 hP hD hS 2 0 rfl rfl (rfl) (by omega) (Nat.le_of_ble_eq_true rfl) dX8_add_47 (fun H locs hP hD hS => ?_)
        have hP : PP G [(o, ob 8 (mo n lim np gm gs dm dp pm ns qa)), ((qa 1), iA G 24 (fun j => nI ((va_up fr n k1) j))), ((qa 2), iA G 24 (fun j => nI ((va_up to n k8) j)))] H := hP
        have hD : va_D A [(o, ob 8 (mo n lim np gm gs dm dp pm ns qa)), ((qa 1), iA G 24 (fun j => nI ((va_up fr n k1) j))), ((qa 2), iA G 24 (fun j => nI ((va_up to n k8) j)))] := hD
        refine lv_aload_n hx hb dX8_add_48 rfl (lv_at hl 0 rfl) ?_
        refine lv_dup hx hb dX8_add_49 rfl ?_
        refine va_get (D := G.1) (ci := 8) (v := .int (nI n)) (C := RX8) (T := TX8) (N := 28) hx hb hts (by decide +kernel) hown hK.1 hP 0 rfl rfl 0 (by decide) (hts (.fieldLink RX8 78 "CallNumbersModel" "calls" "I") (by decide +kernel)) (fun _ h9 => h9) rfl dX8_add_50 ?_
        refine lv_iconst (v := nI 1) hx hb dX8_add_53 (by decide) ?_
        refine lv_iadd hx hb dX8_add_54 ?_
        refine lv_topi (fun v ev => ?_)
        obtain rfl : v = nI (n + 1) := ev.trans (nI_add _ _)
        refine va_put (D := G.1) (ci := 8) (v := .int (nI (n + 1))) (ty := .int) (C := RX8) (T := TX8) (N := 28) hx hb hts (by decide +kernel) tyX8 tyX8_ok nmX8 hown hK.1 hP hD hS 0 rfl rfl 0 (by decide) (hts (.fieldLink RX8 78 "CallNumbersModel" "calls" "I") (by decide +kernel)) (fun _ h9 => h9) rfl (by decide +kernel) rfl rfl (Nat.le_of_ble_eq_true rfl) dX8_add_55 (fun H locs hP hD hS => ?_)
        have hP : PP G [(o, ob 8 (mo (n + 1) lim np gm gs dm dp pm ns qa)), ((qa 1), iA G 24 (fun j => nI ((va_up fr n k1) j))), ((qa 2), iA G 24 (fun j => nI ((va_up to n k8) j)))] H := hP
        have hD : va_D A [(o, ob 8 (mo (n + 1) lim np gm gs dm dp pm ns qa)), ((qa 1), iA G 24 (fun j => nI ((va_up fr n k1) j))), ((qa 2), iA G 24 (fun j => nI ((va_up to n k8) j)))] := hD
        refine lv_aload_n hx hb dX8_add_58 rfl (lv_at hl 0 rfl) ?_
        refine va_get (D := G.1) (ci := 8) (v := .int (nI (n + 1))) (C := RX8) (T := TX8) (N := 28) hx hb hts (by decide +kernel) hown hK.1 hP 0 rfl rfl 0 (by decide) (hts (.fieldLink RX8 78 "CallNumbersModel" "calls" "I") (by decide +kernel)) (fun _ h9 => h9) rfl dX8_add_59 ?_
        refine lv_iconst (v := nI 1) hx hb dX8_add_62 (by decide) ?_
        refine lv_isub hx hb dX8_add_63 ?_
        refine lv_topi (fun v ev => ?_)
        obtain rfl : v = nI n := ev.trans (pk_sub (by omega))
        exact W.iret (v := nI n) hx hb hr (fun t ht _ => ⟨⟨nI n, (n + 1, va_up fr n k1, va_up to n k8), rfl, Or.inl ⟨k1, k8, b1, b8, by omega, rfl, rfl, rfl, rfl⟩, by rw [ht]; exact hP, hD⟩, hS.F ht⟩) hS.2.2 dX8_add_64
      · skip
        have c22 := (nI_eq (a := n) (b := 24) (by omega) (by omega)).mp c22
        refine lv_bipush (v := (-4)) hx hb dX8_add_25 (by decide) ?_
        exact W.iret (v := (-4)) hx hb hr (fun t ht _ => ⟨⟨(-4), (n, fr, to), rfl, Or.inr (Or.inl ⟨k1, k8, b1, b8, c22, rfl, rfl, rfl, rfl⟩), by rw [ht]; exact hP, hD⟩, hS.F ht⟩) hS.2.2 dX8_add_27
    · skip
      refine lv_if_ne (tgt := 16) hx hb dX8_add_11 (by decide) (fun c9 => absurd c9 (by decide)) (fun _ => ?_)
      refine lv_iconst (v := (-1)) hx hb dX8_add_14 (by decide) ?_
      exact W.iret (v := (-1)) hx hb hr (fun t ht _ => ⟨⟨(-1), (n, fr, to), rfl, Or.inr (Or.inr ⟨Or.inr b8, rfl, rfl⟩), by rw [ht]; exact hP, hD⟩, hS.F ht⟩) hS.2.2 dX8_add_15
  · skip
    refine lv_if_eq (tgt := 14) hx hb dX8_add_4 (by decide) (fun _ => ?_) (fun c9 => absurd c9 (by decide))
    refine lv_iconst (v := (-1)) hx hb dX8_add_14 (by decide) ?_
    exact W.iret (v := (-1)) hx hb hr (fun t ht _ => ⟨⟨(-1), (n, fr, to), rfl, Or.inr (Or.inr ⟨Or.inl b1, rfl, rfl⟩), by rw [ht]; exact hP, hD⟩, hS.F ht⟩) hS.2.2 dX8_add_15
set_option maxHeartbeats 4000000 in
set_option maxRecDepth 100000 in
theorem c_X8_limit (G : GG) (l : Launch) (o n lim np gm : Nat) (gs : Int32) (dm dp pm ns : Nat) (qa : Nat → Nat) (x : Int32) (sz : Nat) : Met l yX8_limit wsX8_limit { frames := 1, cells := 0, slots := 0, locals := 22 } (WPc G [.ref o, .int x] [(o, ob 8 (mo n lim np gm gs dm dp pm ns qa))] sz) (WQi G [(o, ob 8 (mo n lim np gm gs dm dp pm ns qa))] sz (fun (r : Int32) (u : Nat) => LimR lim x r u) (fun u => [(o, ob 8 (mo n u np gm gs dm dp pm ns qa))])) 0 0 (va_A [(o, ob 8 (mo n lim np gm gs dm dp pm ns qa))] sz) := by
  refine Met.ofW (cc := cX8_limit) (maxL := 3) (ret := (some .int)) (by decide) rfl ?_
  intro p e s m args below meth c s₁ B hml hv
  obtain ⟨rfl, hsz, hP, hK, hD0⟩ := hv
  have hx := B.exec
  have hb := B.bytes
  have hr := B.returns
  have hts := atoms_spec (ws := wsX8_limit) B.pre
  have hown : s.vm.findClass RX8 = some m.cls := findClass_of_methodNamed B.named
  have hlocks := B.notSynchronized
  subst hsz
  have hD := hD0.self (sz := s.heap.size)
  unfold WQi
  generalize hAe : va_A [(o, ob 8 (mo n lim np gm gs dm dp pm ns qa))] s.heap.size = A at hD ⊢
  have hA : ∀ q : Nat, s.heap.size ≤ q → A q := fun q h => by rw [← hAe]; exact Or.inr h
  have hl := lv_entry ([.ref o, .int x]) (n := 3) (Nat.le_of_ble_eq_true rfl)
  rw [lg_entry_eq]
  generalize (lg_sl ([.ref o, .int x]) ++ List.replicate (3 - (lg_sl ([.ref o, .int x])).length) Slot.unset).toArray = ls at hl ⊢
  have hl : lv_has ls 3 [(0, .ref o), (1, .int x)] := hl
  refine nameHL (fun H locs hH hL => ?_)
  have hP : PP G [(o, ob 8 (mo n lim np gm gs dm dp pm ns qa))] H := by rw [hH]; exact hP
  have hS : va_S A s.heap H locs := by rw [hH, hL]; exact va_S.rf
  refine lv_iload_n hx hb dX8_limit_0 rfl (lv_at hl 1 rfl) ?_
  refine lv_iconst (v := nI 1) hx hb dX8_limit_1 (by decide) ?_
  refine lv_ldc (v := 1000000) hx hb hown (hts (.constant RX8 88 1000000) (by decide +kernel)) dX8_limit_2 ?_
  refine lv_topi (fun v ev => ?_)
  obtain rfl : v = nI 1000000 := ev
  have hP_1 : PP G [] H := hP.sub [] rfl
  refine csi (va_runS (As := [.int x, .int (nI 1), .int (nI 1000000)]) (rest := []) ⟨hx, hb, hml, hown, hts⟩ (c_X8_within G l x (nI 1) (nI 1000000)) (va_cwS 3 hts gX8_limit_X8_within rfl rfl rfl (by decide +kernel) ⟨Nat.le_of_ble_eq_true rfl, Nat.le_of_ble_eq_true rfl⟩) (preR hK hP_1) rfl rfl hl.1 rfl (lv_room (Nat.le_of_ble_eq_true rfl)) dX8_limit_4 ⟨Nat.zero_le _, Nat.zero_le _⟩) (fun r_2 h_3 => ?_)
  rcases h_3 with ⟨rfl, g4, g4'⟩ | ⟨rfl, g4⟩
  · skip
    obtain ⟨kv, hv1, hv2, rfl⟩ := lim_in g4 g4'
    refine lv_if_ne (tgt := 13) hx hb dX8_limit_7 (by decide) (fun _ => ?_) (fun c9 => absurd c9 (by decide))
    refine lv_aload_n hx hb dX8_limit_13 rfl (lv_at hl 0 rfl) ?_
    refine va_get (D := G.1) (ci := 8) (v := .int (nI lim)) (C := RX8) (T := TX8) (N := 28) hx hb hts (by decide +kernel) hown hK.1 hP 0 rfl rfl 3 (by decide) (hts (.fieldLink RX8 16 "CallNumbersModel" "limitNow" "I") (by decide +kernel)) (fun _ h9 => h9) rfl dX8_limit_14 ?_
    refine lv_istore_n (lv' := [(2, .int (nI lim)), (0, .ref o), (1, .int (nI kv))]) hx hb dX8_limit_17 rfl hl (by decide) rfl (fun ls hl => ?_)
    refine lv_aload_n hx hb dX8_limit_18 rfl (lv_at hl 1 rfl) ?_
    refine lv_iload_n hx hb dX8_limit_19 rfl (lv_at hl 2 rfl) ?_
    refine va_put (D := G.1) (ci := 8) (v := .int (nI kv)) (ty := .int) (C := RX8) (T := TX8) (N := 28) hx hb hts (by decide +kernel) tyX8 tyX8_ok nmX8 hown hK.1 hP hD hS 0 rfl rfl 3 (by decide) (hts (.fieldLink RX8 16 "CallNumbersModel" "limitNow" "I") (by decide +kernel)) (fun _ h9 => h9) rfl (by decide +kernel) rfl rfl (Nat.le_of_ble_eq_true rfl) dX8_limit_20 (fun H locs hP hD hS => ?_)
    have hP : PP G [(o, ob 8 (mo n kv np gm gs dm dp pm ns qa))] H := hP
    have hD : va_D A [(o, ob 8 (mo n kv np gm gs dm dp pm ns qa))] := hD
    refine lv_iload_n hx hb dX8_limit_23 rfl (lv_at hl 0 rfl) ?_
    exact W.iret (v := nI lim) hx hb hr (fun t ht _ => ⟨⟨nI lim, kv, rfl, Or.inl ⟨kv, hv1, hv2, rfl, rfl, rfl⟩, by rw [ht]; exact hP, hD⟩, hS.F ht⟩) hS.2.2 dX8_limit_24
  · skip
    refine lv_if_ne (tgt := 13) hx hb dX8_limit_7 (by decide) (fun c9 => absurd c9 (by decide)) (fun _ => ?_)
    refine lv_bipush (v := (-2)) hx hb dX8_limit_10 (by decide) ?_
    exact W.iret (v := (-2)) hx hb hr (fun t ht _ => ⟨⟨(-2), lim, rfl, Or.inr ⟨lim_out g4, rfl, rfl⟩, by rw [ht]; exact hP, hD⟩, hS.F ht⟩) hS.2.2 dX8_limit_12
set_option maxHeartbeats 4000000 in
set_option maxRecDepth 100000 in
theorem c_X8_call (G : GG) (l : Launch) (o n lim np gm : Nat) (gs : Int32) (dm dp pm ns : Nat) (qa : Nat → Nat) (fr : Nat → Nat) (to : Nat → Nat) (sk : Nat → Nat) (x : Int32) (hn : n ≤ 24) (hd : dp ≤ 30) (hrow : ∀ j, j < dp → sk j < 24) (hfr : ∀ j, j < n → fr j < 10) (hto : ∀ j, j < 24 → to j < 10) (sz : Nat) : Met l yX8_call wsX8_call { frames := 2, cells := 0, slots := 0, locals := 43 } (WPc G [.ref o, .int x] [(o, ob 8 (mo n lim np gm gs dm dp pm ns qa)), ((qa 1), iA G 24 (fun j => nI (fr j))), ((qa 2), iA G 24 (fun j => nI (to j))), ((qa 19), iA G 30 (fun j => nI (sk j)))] sz) (WQi G [(o, ob 8 (mo n lim np gm gs dm dp pm ns qa)), ((qa 1), iA G 24 (fun j => nI (fr j))), ((qa 2), iA G 24 (fun j => nI (to j))), ((qa 19), iA G 30 (fun j => nI (sk j)))] sz (fun (r : Int32) (u : Nat × (Nat → Nat)) => CallR n fr to dp sk x r u) (fun u => [(o, ob 8 (mo n lim np gm gs dm u.1 pm ns qa)), ((qa 1), iA G 24 (fun j => nI (fr j))), ((qa 2), iA G 24 (fun j => nI (to j))), ((qa 19), iA G 30 (fun j => nI (u.2 j)))])) 0 0 (va_A [(o, ob 8 (mo n lim np gm gs dm dp pm ns qa)), ((qa 1), iA G 24 (fun j => nI (fr j))), ((qa 2), iA G 24 (fun j => nI (to j))), ((qa 19), iA G 30 (fun j => nI (sk j)))] sz) := by
  refine Met.ofW (cc := cX8_call) (maxL := 2) (ret := (some .int)) (by decide) rfl ?_
  intro p e s m args below meth c s₁ B hml hv
  obtain ⟨rfl, hsz, hP, hK, hD0⟩ := hv
  have hx := B.exec
  have hb := B.bytes
  have hr := B.returns
  have hts := atoms_spec (ws := wsX8_call) B.pre
  have hown : s.vm.findClass RX8 = some m.cls := findClass_of_methodNamed B.named
  have hlocks := B.notSynchronized
  subst hsz
  have hD := hD0.self (sz := s.heap.size)
  unfold WQi
  generalize hAe : va_A [(o, ob 8 (mo n lim np gm gs dm dp pm ns qa)), ((qa 1), iA G 24 (fun j => nI (fr j))), ((qa 2), iA G 24 (fun j => nI (to j))), ((qa 19), iA G 30 (fun j => nI (sk j)))] s.heap.size = A at hD ⊢
  have hA : ∀ q : Nat, s.heap.size ≤ q → A q := fun q h => by rw [← hAe]; exact Or.inr h
  have hl := lv_entry ([.ref o, .int x]) (n := 2) (Nat.le_of_ble_eq_true rfl)
  rw [lg_entry_eq]
  generalize (lg_sl ([.ref o, .int x]) ++ List.replicate (2 - (lg_sl ([.ref o, .int x])).length) Slot.unset).toArray = ls at hl ⊢
  have hl : lv_has ls 2 [(0, .ref o), (1, .int x)] := hl
  refine nameHL (fun H locs hH hL => ?_)
  have hP : PP G [(o, ob 8 (mo n lim np gm gs dm dp pm ns qa)), ((qa 1), iA G 24 (fun j => nI (fr j))), ((qa 2), iA G 24 (fun j => nI (to j))), ((qa 19), iA G 30 (fun j => nI (sk j)))] H := by rw [hH]; exact hP
  have hS : va_S A s.heap H locs := by rw [hH, hL]; exact va_S.rf
  refine lv_aload_n hx hb dX8_call_0 rfl (lv_at hl 0 rfl) ?_
  refine lv_iload_n hx hb dX8_call_1 rfl (lv_at hl 1 rfl) ?_
  have hP_1 : PP G [(o, ob 8 (mo n lim np gm gs dm dp pm ns qa))] H := hP.sub [0] rfl
  refine csi (va_runV (As := [.int x]) (rest := []) ⟨hx, hb, hml, hown, hts⟩ (c_X8_isCall G l o (mo n lim np gm gs dm dp pm ns qa) n rfl x (by omega)) (cwV 1 hts gX8_call_X8_isCall rfl rfl rfl (by decide +kernel) ⟨Nat.le_of_ble_eq_true rfl, Nat.le_of_ble_eq_true rfl⟩) (preRV hK hP_1 0 8 rfl rfl) rfl rfl hl.1 rfl (lv_room (Nat.le_of_ble_eq_true rfl)) dX8_call_2 ⟨Nat.zero_le _, Nat.zero_le _⟩) (fun r_2 h_3 => ?_)
  rcases h_3 with ⟨rfl, k2, b2, rfl⟩ | ⟨rfl, b2⟩
  · skip
    refine lv_if_ne (tgt := 10) hx hb dX8_call_5 (by decide) (fun _ => ?_) (fun c9 => absurd c9 (by decide))
    have hf9 := hfr k2 b2
    have hh9 := hereF_lt (d := dp) hto hrow
    refine lv_aload_n hx hb dX8_call_10 rfl (lv_at hl 0 rfl) ?_
    refine va_get (D := G.1) (ci := 8) (v := .ref (qa 1)) (C := RX8) (T := TX8) (N := 28) hx hb hts (by decide +kernel) hown hK.1 hP 0 rfl rfl 1 (by decide) (hts (.fieldLink RX8 7 "CallNumbersModel" "fromOf" "[I") (by decide +kernel)) (fun _ h9 => h9) rfl dX8_call_11 ?_
    refine lv_iload_n hx hb dX8_call_14 rfl (lv_at hl 1 rfl) ?_
    refine ialdN (k := k2) (f := fr) hx hb hK.1 hP 1 0 rfl rfl (rfl) (by omega) (Nat.le_of_ble_eq_true rfl) dX8_call_15 ?_
    refine lv_aload_n hx hb dX8_call_16 rfl (lv_at hl 0 rfl) ?_
    have hP_4 : PP G [(o, ob 8 (mo n lim np gm gs dm dp pm ns qa)), ((qa 2), iA G 24 (fun j => nI (to j))), ((qa 19), iA G 30 (fun j => nI (sk j)))] H := hP.sub [0, 2, 3] rfl
    refine csi (va_runV (As := []) (rest := [.int (nI (fr k2))]) ⟨hx, hb, hml, hown, hts⟩ (c_X8_here G l o (mo n lim np gm gs dm dp pm ns qa) dp (qa 2) to (qa 19) sk rfl rfl rfl (by omega) (hrow)) (cwV 0 hts gX8_call_X8_here rfl rfl rfl (by decide +kernel) ⟨Nat.le_of_ble_eq_true rfl, Nat.le_of_ble_eq_true rfl⟩) (preRV hK hP_4 0 8 rfl rfl) rfl rfl hl.1 rfl (lv_room (Nat.le_of_ble_eq_true rfl)) dX8_call_17 ⟨Nat.zero_le _, Nat.zero_le _⟩) (fun r_5 h_6 => ?_)
    obtain rfl : r_5 = nI (hereF to sk dp) := h_6
    refine lv_icmp_eq (tgt := 26) hx hb dX8_call_20 (by decide) (fun c20 => ?_) (fun c20 => ?_)
    · skip
      have c20 := (nI_eq (a := fr k2) (b := hereF to sk dp) (by omega) (by omega)).mp c20
      refine lv_aload_n hx hb dX8_call_26 rfl (lv_at hl 0 rfl) ?_
      refine va_get (D := G.1) (ci := 8) (v := .int (nI dp)) (C := RX8) (T := TX8) (N := 28) hx hb hts (by decide +kernel) hown hK.1 hP 0 rfl rfl 18 (by decide) (hts (.fieldLink RX8 143 "CallNumbersModel" "deep" "I") (by decide +kernel)) (fun _ h9 => h9) rfl dX8_call_27 ?_
      refine lv_bipush (v := nI 30) hx hb dX8_call_30 (by decide) ?_
      refine lv_icmp_ne (tgt := 38) hx hb dX8_call_32 (by decide) (fun c32 => ?_) (fun c32 => ?_)
      · skip
        have c32 := mt (nI_eq (a := dp) (b := 30) (by omega) (by omega)).mpr c32
        refine lv_aload_n hx hb dX8_call_38 rfl (lv_at hl 0 rfl) ?_
        refine va_get (D := G.1) (ci := 8) (v := .ref (qa 19)) (C := RX8) (T := TX8) (N := 28) hx hb hts (by decide +kernel) hown hK.1 hP 0 rfl rfl 19 (by decide) (hts (.fieldLink RX8 50 "CallNumbersModel" "stack" "[I") (by decide +kernel)) (fun _ h9 => h9) rfl dX8_call_39 ?_
        refine lv_aload_n hx hb dX8_call_42 rfl (lv_at hl 0 rfl) ?_
        refine va_get (D := G.1) (ci := 8) (v := .int (nI dp)) (C := RX8) (T := TX8) (N := 28) hx hb hts (by decide +kernel) hown hK.1 hP 0 rfl rfl 18 (by decide) (hts (.fieldLink RX8 143 "CallNumbersModel" "deep" "I") (by decide +kernel)) (fun _ h9 => h9) rfl dX8_call_43 ?_
        refine lv_iload_n hx hb dX8_call_46 rfl (lv_at hl 1 rfl) ?_
        refine iastN (k := dp) (f := sk) (x := k2) hx hb hK.1 hP hD hS 3 0 rfl rfl (rfl) (by omega) (Nat.le_of_ble_eq_true rfl) dX8_call_47 (fun H locs hP hD hS => ?_)
        have hP : PP G [(o, ob 8 (mo n lim np gm gs dm dp pm ns qa)), ((qa 1), iA G 24 (fun j => nI (fr j))), ((qa 2), iA G 24 (fun j => nI (to j))), ((qa 19), iA G 30 (fun j => nI ((va_up sk dp k2) j)))] H := hP
        have hD : va_D A [(o, ob 8 (mo n lim np gm gs dm dp pm ns qa)), ((qa 1), iA G 24 (fun j => nI (fr j))), ((qa 2), iA G 24 (fun j => nI (to j))), ((qa 19), iA G 30 (fun j => nI ((va_up sk dp k2) j)))] := hD
        refine lv_aload_n hx hb dX8_call_48 rfl (lv_at hl 0 rfl) ?_
        refine lv_dup hx hb dX8_call_49 rfl ?_
        refine va_get (D := G.1) (ci := 8) (v := .int (nI dp)) (C := RX8) (T := TX8) (N := 28) hx hb hts (by decide +kernel) hown hK.1 hP 0 rfl rfl 18 (by decide) (hts (.fieldLink RX8 143 "CallNumbersModel" "deep" "I") (by decide +kernel)) (fun _ h9 => h9) rfl dX8_call_50 ?_
        refine lv_iconst (v := nI 1) hx hb dX8_call_53 (by decide) ?_
        refine lv_iadd hx hb dX8_call_54 ?_
        refine lv_topi (fun v ev => ?_)
        obtain rfl : v = nI (dp + 1) := ev.trans (nI_add _ _)
        refine va_put (D := G.1) (ci := 8) (v := .int (nI (dp + 1))) (ty := .int) (C := RX8) (T := TX8) (N := 28) hx hb hts (by decide +kernel) tyX8 tyX8_ok nmX8 hown hK.1 hP hD hS 0 rfl rfl 18 (by decide) (hts (.fieldLink RX8 143 "CallNumbersModel" "deep" "I") (by decide +kernel)) (fun _ h9 => h9) rfl (by decide +kernel) rfl rfl (Nat.le_of_ble_eq_true rfl) dX8_call_55 (fun H locs hP hD hS => ?_)
        have hP : PP G [(o, ob 8 (mo n lim np gm gs dm (dp + 1) pm ns qa)), ((qa 1), iA G 24 (fun j => nI (fr j))), ((qa 2), iA G 24 (fun j => nI (to j))), ((qa 19), iA G 30 (fun j => nI ((va_up sk dp k2) j)))] H := hP
        have hD : va_D A [(o, ob 8 (mo n lim np gm gs dm (dp + 1) pm ns qa)), ((qa 1), iA G 24 (fun j => nI (fr j))), ((qa 2), iA G 24 (fun j => nI (to j))), ((qa 19), iA G 30 (fun j => nI ((va_up sk dp k2) j)))] := hD
        refine lv_aload_n hx hb dX8_call_58 rfl (lv_at hl 0 rfl) ?_
        have hP_7 : PP G [(o, ob 8 (mo n lim np gm gs dm (dp + 1) pm ns qa)), ((qa 2), iA G 24 (fun j => nI (to j))), ((qa 19), iA G 30 (fun j => nI ((va_up sk dp k2) j)))] H := hP.sub [0, 2, 3] rfl
        refine csi (va_runV (As := []) (rest := []) ⟨hx, hb, hml, hown, hts⟩ (c_X8_here G l o (mo n lim np gm gs dm (dp + 1) pm ns qa) (dp + 1) (qa 2) to (qa 19) (va_up sk dp k2) rfl rfl rfl (by omega) (fun j hj => by unfold va_up; split; omega; exact hrow j (by omega))) (cwV 0 hts gX8_call_X8_here rfl rfl rfl (by decide +kernel) ⟨Nat.le_of_ble_eq_true rfl, Nat.le_of_ble_eq_true rfl⟩) (preRV hK hP_7 0 8 rfl rfl) rfl rfl hl.1 rfl (lv_room (Nat.le_of_ble_eq_true rfl)) dX8_call_59 ⟨Nat.zero_le _, Nat.zero_le _⟩) (fun r_8 h_9 => ?_)
        obtain rfl : r_8 = nI (hereF to (va_up sk dp k2) (dp + 1)) := h_9
        exact W.iret (v := nI (hereF to (va_up sk dp k2) (dp + 1))) hx hb hr (fun t ht _ => ⟨⟨nI (hereF to (va_up sk dp k2) (dp + 1)), (dp + 1, va_up sk dp k2), rfl, CallR.ok b2 c20 c32, by rw [ht]; exact hP, hD⟩, hS.F ht⟩) hS.2.2 dX8_call_62
      · skip
        have c32 := (nI_eq (a := dp) (b := 30) (by omega) (by omega)).mp c32
        refine lv_bipush (v := (-4)) hx hb dX8_call_35 (by decide) ?_
        exact W.iret (v := (-4)) hx hb hr (fun t ht _ => ⟨⟨(-4), (dp, sk), rfl, CallR.full b2 c20 c32, by rw [ht]; exact hP, hD⟩, hS.F ht⟩) hS.2.2 dX8_call_37
    · skip
      have c20 := mt (nI_eq (a := fr k2) (b := hereF to sk dp) (by omega) (by omega)).mpr c20
      refine lv_bipush (v := (-3)) hx hb dX8_call_23 (by decide) ?_
      exact W.iret (v := (-3)) hx hb hr (fun t ht _ => ⟨⟨(-3), (dp, sk), rfl, CallR.state b2 c20, by rw [ht]; exact hP, hD⟩, hS.F ht⟩) hS.2.2 dX8_call_25
  · skip
    refine lv_if_ne (tgt := 10) hx hb dX8_call_5 (by decide) (fun c9 => absurd c9 (by decide)) (fun _ => ?_)
    refine lv_iconst (v := (-1)) hx hb dX8_call_8 (by decide) ?_
    exact W.iret (v := (-1)) hx hb hr (fun t ht _ => ⟨⟨(-1), (dp, sk), rfl, CallR.bad b2, by rw [ht]; exact hP, hD⟩, hS.F ht⟩) hS.2.2 dX8_call_9
set_option maxHeartbeats 4000000 in
set_option maxRecDepth 100000 in
theorem c_X8_back (G : GG) (l : Launch) (o n lim np gm : Nat) (gs : Int32) (dm dp pm ns : Nat) (qa : Nat → Nat) (to : Nat → Nat) (sk : Nat → Nat)  (hn : n ≤ 24) (hd : dp ≤ 30) (hrow : ∀ j, j < dp → sk j < 24) (sz : Nat) : Met l yX8_back wsX8_back { frames := 1, cells := 0, slots := 0, locals := 20 } (WPc G [.ref o] [(o, ob 8 (mo n lim np gm gs dm dp pm ns qa)), ((qa 2), iA G 24 (fun j => nI (to j))), ((qa 19), iA G 30 (fun j => nI (sk j)))] sz) (WQi G [(o, ob 8 (mo n lim np gm gs dm dp pm ns qa)), ((qa 2), iA G 24 (fun j => nI (to j))), ((qa 19), iA G 30 (fun j => nI (sk j)))] sz (fun (r : Int32) (u : Nat) => BackR to dp sk r u) (fun u => [(o, ob 8 (mo n lim np gm gs dm u pm ns qa)), ((qa 2), iA G 24 (fun j => nI (to j))), ((qa 19), iA G 30 (fun j => nI (sk j)))])) 0 0 (va_A [(o, ob 8 (mo n lim np gm gs dm dp pm ns qa)), ((qa 2), iA G 24 (fun j => nI (to j))), ((qa 19), iA G 30 (fun j => nI (sk j)))] sz) := by
  refine Met.ofW (cc := cX8_back) (maxL := 1) (ret := (some .int)) (by decide) rfl ?_
  intro p e s m args below meth c s₁ B hml hv
  obtain ⟨rfl, hsz, hP, hK, hD0⟩ := hv
  have hx := B.exec
  have hb := B.bytes
  have hr := B.returns
  have hts := atoms_spec (ws := wsX8_back) B.pre
  have hown : s.vm.findClass RX8 = some m.cls := findClass_of_methodNamed B.named
  have hlocks := B.notSynchronized
  subst hsz
  have hD := hD0.self (sz := s.heap.size)
  unfold WQi
  generalize hAe : va_A [(o, ob 8 (mo n lim np gm gs dm dp pm ns qa)), ((qa 2), iA G 24 (fun j => nI (to j))), ((qa 19), iA G 30 (fun j => nI (sk j)))] s.heap.size = A at hD ⊢
  have hA : ∀ q : Nat, s.heap.size ≤ q → A q := fun q h => by rw [← hAe]; exact Or.inr h
  have hl := lv_entry ([.ref o]) (n := 1) (Nat.le_of_ble_eq_true rfl)
  rw [lg_entry_eq]
  generalize (lg_sl ([.ref o]) ++ List.replicate (1 - (lg_sl ([.ref o])).length) Slot.unset).toArray = ls at hl ⊢
  have hl : lv_has ls 1 [(0, .ref o)] := hl
  refine nameHL (fun H locs hH hL => ?_)
  have hP : PP G [(o, ob 8 (mo n lim np gm gs dm dp pm ns qa)), ((qa 2), iA G 24 (fun j => nI (to j))), ((qa 19), iA G 30 (fun j => nI (sk j)))] H := by rw [hH]; exact hP
  have hS : va_S A s.heap H locs := by rw [hH, hL]; exact va_S.rf
  refine lv_aload_n hx hb dX8_back_0 rfl (lv_at hl 0 rfl) ?_
  refine va_get (D := G.1) (ci := 8) (v := .int (nI dp)) (C := RX8) (T := TX8) (N := 28) hx hb hts (by decide +kernel) hown hK.1 hP 0 rfl rfl 18 (by decide) (hts (.fieldLink RX8 143 "CallNumbersModel" "deep" "I") (by decide +kernel)) (fun _ h9 => h9) rfl dX8_back_1 ?_
  refine lv_if_ne (tgt := 10) hx hb dX8_back_4 (by decide) (fun c4 => ?_) (fun c4 => ?_)
  · skip
    have c4 := mt (z_eq (k := dp) (by omega)).mpr c4
    refine lv_aload_n hx hb dX8_back_10 rfl (lv_at hl 0 rfl) ?_
    refine lv_dup hx hb dX8_back_11 rfl ?_
    refine va_get (D := G.1) (ci := 8) (v := .int (nI dp)) (C := RX8) (T := TX8) (N := 28) hx hb hts (by decide +kernel) hown hK.1 hP 0 rfl rfl 18 (by decide) (hts (.fieldLink RX8 143 "CallNumbersModel" "deep" "I") (by decide +kernel)) (fun _ h9 => h9) rfl dX8_back_12 ?_
    refine lv_iconst (v := nI 1) hx hb dX8_back_15 (by decide) ?_
    refine lv_isub hx hb dX8_back_16 ?_
    refine lv_topi (fun v ev => ?_)
    obtain rfl : v = nI (dp - 1) := ev.trans (pk_sub (by omega))
    refine va_put (D := G.1) (ci := 8) (v := .int (nI (dp - 1))) (ty := .int) (C := RX8) (T := TX8) (N := 28) hx hb hts (by decide +kernel) tyX8 tyX8_ok nmX8 hown hK.1 hP hD hS 0 rfl rfl 18 (by decide) (hts (.fieldLink RX8 143 "CallNumbersModel" "deep" "I") (by decide +kernel)) (fun _ h9 => h9) rfl (by decide +kernel) rfl rfl (Nat.le_of_ble_eq_true rfl) dX8_back_17 (fun H locs hP hD hS => ?_)
    have hP : PP G [(o, ob 8 (mo n lim np gm gs dm (dp - 1) pm ns qa)), ((qa 2), iA G 24 (fun j => nI (to j))), ((qa 19), iA G 30 (fun j => nI (sk j)))] H := hP
    have hD : va_D A [(o, ob 8 (mo n lim np gm gs dm (dp - 1) pm ns qa)), ((qa 2), iA G 24 (fun j => nI (to j))), ((qa 19), iA G 30 (fun j => nI (sk j)))] := hD
    refine lv_aload_n hx hb dX8_back_20 rfl (lv_at hl 0 rfl) ?_
    have hP_1 : PP G [(o, ob 8 (mo n lim np gm gs dm (dp - 1) pm ns qa)), ((qa 2), iA G 24 (fun j => nI (to j))), ((qa 19), iA G 30 (fun j => nI (sk j)))] H := hP.sub [0, 1, 2] rfl
    refine csi (va_runV (As := []) (rest := []) ⟨hx, hb, hml, hown, hts⟩ (c_X8_here G l o (mo n lim np gm gs dm (dp - 1) pm ns qa) (dp - 1) (qa 2) to (qa 19) sk rfl rfl rfl (by omega) (fun j hj => hrow j (by omega))) (cwV 0 hts gX8_back_X8_here rfl rfl rfl (by decide +kernel) ⟨Nat.le_of_ble_eq_true rfl, Nat.le_of_ble_eq_true rfl⟩) (preRV hK hP_1 0 8 rfl rfl) rfl rfl hl.1 rfl (lv_room (Nat.le_of_ble_eq_true rfl)) dX8_back_21 ⟨Nat.zero_le _, Nat.zero_le _⟩) (fun r_2 h_3 => ?_)
    obtain rfl : r_2 = nI (hereF to sk (dp - 1)) := h_3
    exact W.iret (v := nI (hereF to sk (dp - 1))) hx hb hr (fun t ht _ => ⟨⟨nI (hereF to sk (dp - 1)), dp - 1, rfl, Or.inl ⟨c4, rfl, rfl⟩, by rw [ht]; exact hP, hD⟩, hS.F ht⟩) hS.2.2 dX8_back_24
  · skip
    have c4 := (z_eq (k := dp) (by omega)).mp c4
    refine lv_bipush (v := (-3)) hx hb dX8_back_7 (by decide) ?_
    exact W.iret (v := (-3)) hx hb hr (fun t ht _ => ⟨⟨(-3), dp, rfl, Or.inr ⟨c4, rfl, rfl⟩, by rw [ht]; exact hP, hD⟩, hS.F ht⟩) hS.2.2 dX8_back_9
end
section
theorem sw1 : ¬ nI 1 < nI 0 ∧ ¬ nI 2 < nI 1 ∧ ¬ nI 2 < nI 0 ∧ ¬ nI 0 < nI 0 ∧ ¬ nI 2 < nI 2 := by decide
/-- a stack's code: how many pieces, their starts, numbers, and by which calls they were left -/
def codeStep (pl : Int32) (ad to : Nat → Nat) (u : Nat × (Nat → Nat) × (Nat → Nat) × (Nat → Int32)) (j : Nat) : Nat × (Nat → Nat) × (Nat → Nat) × (Nat → Int32) :=
  if hbt pl j then (u.1, u.2.1, va_up u.2.2.1 (u.1 - 1) (u.2.2.1 (u.1 - 1) + ad j), u.2.2.2) else (u.1 + 1, va_up u.2.1 u.1 (to j), va_up u.2.2.1 u.1 0, va_up (va_up u.2.2.2 (u.1 - 1) (nI j)) u.1 (-9))
def codeA (pl : Int32) (ad to rw zs zn : Nat → Nat) (zv : Nat → Int32) : Nat → Nat × (Nat → Nat) × (Nat → Nat) × (Nat → Int32)
  | 0 => (1, va_up zs 0 0, va_up zn 0 0, va_up zv 0 (-9))
  | i + 1 => codeStep pl ad to (codeA pl ad to rw zs zn zv i) (rw i)
theorem codeA_le (pl : Int32) (ad to rw zs zn : Nat → Nat) (zv : Nat → Int32) : ∀ i : Nat, 1 ≤ (codeA pl ad to rw zs zn zv i).1 ∧ (codeA pl ad to rw zs zn zv i).1 ≤ i + 1
  | 0 => ⟨Nat.le_refl _, Nat.le_refl _⟩
  | i + 1 => by
    have h := codeA_le pl ad to rw zs zn zv i
    show 1 ≤ (codeStep pl ad to (codeA pl ad to rw zs zn zv i) (rw i)).1 ∧ (codeStep pl ad to (codeA pl ad to rw zs zn zv i) (rw i)).1 ≤ i + 1 + 1
    unfold codeStep
    split
    · exact ⟨h.1, by show _ ≤ i + 1 + 1; omega⟩
    · exact ⟨by show 1 ≤ _ + 1; omega, by show _ + 1 ≤ i + 1 + 1; omega⟩
theorem ix_ge {n k : Nat} (h : ¬ k < n) (hk : k < 2 ^ 31) : ix n (nI k) = none := by
  unfold ix
  rw [nI_clamp hk]
  exact if_neg (fun z => h z.2)
def A_piece (np : Nat) (C : Nat → Nat × (Nat → Nat) × (Nat → Nat) × (Nat → Int32)) (x y z : Int32) : Int32 := match ix np x with
  | some k => if y < 0 ∨ z < nI 0 ∨ nI 2 < z then -2 else match ix (C k).1 y with
    | some j => if z = nI 0 then nI ((C k).2.1 j) else if z = nI 1 then nI ((C k).2.2.1 j) else (C k).2.2.2 j
    | none => -9
  | none => -1
def A_pieces (np : Nat) (C : Nat → Nat × (Nat → Nat) × (Nat → Nat) × (Nat → Int32)) (x : Int32) : Int32 := match ix np x with
  | some k => nI (C k).1
  | none => -1
/-- what the model's snap answers and does -/
def SnapR (np dp : Nat) (sk : Nat → Nat) (ns : Nat) (sP sD sS : Nat → Nat) (r : Int32) (u : Nat × (Nat → Nat) × (Nat → Nat) × (Nat → Nat)) : Prop :=
  (ns = 10 ∧ r = -4 ∧ u = (ns, sP, sD, sS)) ∨ (¬ ns = 10 ∧ r = nI ns ∧ u.1 = ns + 1 ∧ u.2.1 = va_up sP ns (np - 1) ∧ u.2.2.1 = va_up sD ns dp ∧ (∀ j, j < dp → u.2.2.2 (30 * ns + j) = sk j) ∧ (∀ j, j < 30 * ns ∨ 30 * ns + dp ≤ j → u.2.2.2 j = sS j))
set_option maxHeartbeats 4000000 in
set_option maxRecDepth 100000 in
theorem c_X8_begins (G : GG) (l : Launch) (o n lim np gm : Nat) (gs : Int32) (dm dp pm ns : Nat) (qa : Nat → Nat) (zs : Nat → Nat) (zn : Nat → Nat) (zv : Nat → Int32) (r0 : Nat) (hp : pm < 31) (sz : Nat) : Met l yX8_begins wsX8_begins { frames := 0, cells := 0, slots := 0, locals := 0 } (WPc G [.ref o, .int (nI r0)] [(o, ob 8 (mo n lim np gm gs dm dp pm ns qa)), ((qa 21), iA G 31 (fun j => nI (zs j))), ((qa 22), iA G 31 (fun j => nI (zn j))), ((qa 23), iA G 31 zv)] sz) (WQv G [(o, ob 8 (mo n lim np gm gs dm dp pm ns qa)), ((qa 21), iA G 31 (fun j => nI (zs j))), ((qa 22), iA G 31 (fun j => nI (zn j))), ((qa 23), iA G 31 zv)] sz (fun u : Unit => True) (fun u => [(o, ob 8 (mo n lim np gm gs dm dp (pm + 1) ns qa)), ((qa 21), iA G 31 (fun j => nI ((va_up zs pm r0) j))), ((qa 22), iA G 31 (fun j => nI ((va_up zn pm 0) j))), ((qa 23), iA G 31 (va_up zv pm (-9)))])) 0 0 (va_A [(o, ob 8 (mo n lim np gm gs dm dp pm ns qa)), ((qa 21), iA G 31 (fun j => nI (zs j))), ((qa 22), iA G 31 (fun j => nI (zn j))), ((qa 23), iA G 31 zv)] sz) := by
  refine Met.ofW (cc := cX8_begins) (maxL := 2) (ret := none) (by decide) rfl ?_
  intro p e s m args below meth c s₁ B hml hv
  obtain ⟨rfl, hsz, hP, hK, hD0⟩ := hv
  have hx := B.exec
  have hb := B.bytes
  have hr := B.returns
  have hts := atoms_spec (ws := wsX8_begins) B.pre
  have hown : s.vm.findClass RX8 = some m.cls := findClass_of_methodNamed B.named
  have hlocks := B.notSynchronized
  subst hsz
  have hD := hD0.self (sz := s.heap.size)
  unfold WQv
  generalize hAe : va_A [(o, ob 8 (mo n lim np gm gs dm dp pm ns qa)), ((qa 21), iA G 31 (fun j => nI (zs j))), ((qa 22), iA G 31 (fun j => nI (zn j))), ((qa 23), iA G 31 zv)] s.heap.size = A at hD ⊢
  have hA : ∀ q : Nat, s.heap.size ≤ q → A q := fun q h => by rw [← hAe]; exact Or.inr h
  have hl := lv_entry ([.ref o, .int (nI r0)]) (n := 2) (Nat.le_of_ble_eq_true rfl)
  rw [lg_entry_eq]
  generalize (lg_sl ([.ref o, .int (nI r0)]) ++ List.replicate (2 - (lg_sl ([.ref o, .int (nI r0)])).length) Slot.unset).toArray = ls at hl ⊢
  have hl : lv_has ls 2 [(0, .ref o), (1, .int (nI r0))] := hl
  refine nameHL (fun H locs hH hL => ?_)
  have hP : PP G [(o, ob 8 (mo n lim np gm gs dm dp pm ns qa)), ((qa 21), iA G 31 (fun j => nI (zs j))), ((qa 22), iA G 31 (fun j => nI (zn j))), ((qa 23), iA G 31 zv)] H := by rw [hH]; exact hP
  have hS : va_S A s.heap H locs := by rw [hH, hL]; exact va_S.rf
  refine lv_aload_n hx hb dX8_begins_0 rfl (lv_at hl 0 rfl) ?_
  refine va_get (D := G.1) (ci := 8) (v := .ref (qa 21)) (C := RX8) (T := TX8) (N := 28) hx hb hts (by decide +kernel) hown hK.1 hP 0 rfl rfl 21 (by decide) (hts (.fieldLink RX8 53 "CallNumbersModel" "startOf" "[I") (by decide +kernel)) (fun _ h9 => h9) rfl dX8_begins_1 ?_
  refine lv_aload_n hx hb dX8_begins_4 rfl (lv_at hl 0 rfl) ?_
  refine va_get (D := G.1) (ci := 8) (v := .int (nI pm)) (C := RX8) (T := TX8) (N := 28) hx hb hts (by decide +kernel) hown hK.1 hP 0 rfl rfl 20 (by decide) (hts (.fieldLink RX8 150 "CallNumbersModel" "pieceMany" "I") (by decide +kernel)) (fun _ h9 => h9) rfl dX8_begins_5 ?_
  refine lv_iload_n hx hb dX8_begins_8 rfl (lv_at hl 1 rfl) ?_
  refine iastN (k := pm) (f := zs) (x := r0) hx hb hK.1 hP hD hS 1 0 rfl rfl (rfl) (by omega) (Nat.le_of_ble_eq_true rfl) dX8_begins_9 (fun H locs hP hD hS => ?_)
  have hP : PP G [(o, ob 8 (mo n lim np gm gs dm dp pm ns qa)), ((qa 21), iA G 31 (fun j => nI ((va_up zs pm r0) j))), ((qa 22), iA G 31 (fun j => nI (zn j))), ((qa 23), iA G 31 zv)] H := hP
  have hD : va_D A [(o, ob 8 (mo n lim np gm gs dm dp pm ns qa)), ((qa 21), iA G 31 (fun j => nI ((va_up zs pm r0) j))), ((qa 22), iA G 31 (fun j => nI (zn j))), ((qa 23), iA G 31 zv)] := hD
  refine lv_aload_n hx hb dX8_begins_10 rfl (lv_at hl 0 rfl) ?_
  refine va_get (D := G.1) (ci := 8) (v := .ref (qa 22)) (C := RX8) (T := TX8) (N := 28) hx hb hts (by decide +kernel) hown hK.1 hP 0 rfl rfl 22 (by decide) (hts (.fieldLink RX8 56 "CallNumbersModel" "numberOf" "[I") (by decide +kernel)) (fun _ h9 => h9) rfl dX8_begins_11 ?_
  refine lv_aload_n hx hb dX8_begins_14 rfl (lv_at hl 0 rfl) ?_
  refine va_get (D := G.1) (ci := 8) (v := .int (nI pm)) (C := RX8) (T := TX8) (N := 28) hx hb hts (by decide +kernel) hown hK.1 hP 0 rfl rfl 20 (by decide) (hts (.fieldLink RX8 150 "CallNumbersModel" "pieceMany" "I") (by decide +kernel)) (fun _ h9 => h9) rfl dX8_begins_15 ?_
  refine lv_iconst (v := nI 0) hx hb dX8_begins_18 (by decide) ?_
  refine iastN (k := pm) (f := zn) (x := 0) hx hb hK.1 hP hD hS 2 0 rfl rfl (rfl) (by omega) (Nat.le_of_ble_eq_true rfl) dX8_begins_19 (fun H locs hP hD hS => ?_)
  have hP : PP G [(o, ob 8 (mo n lim np gm gs dm dp pm ns qa)), ((qa 21), iA G 31 (fun j => nI ((va_up zs pm r0) j))), ((qa 22), iA G 31 (fun j => nI ((va_up zn pm 0) j))), ((qa 23), iA G 31 zv)] H := hP
  have hD : va_D A [(o, ob 8 (mo n lim np gm gs dm dp pm ns qa)), ((qa 21), iA G 31 (fun j => nI ((va_up zs pm r0) j))), ((qa 22), iA G 31 (fun j => nI ((va_up zn pm 0) j))), ((qa 23), iA G 31 zv)] := hD
  refine lv_aload_n hx hb dX8_begins_20 rfl (lv_at hl 0 rfl) ?_
  refine va_get (D := G.1) (ci := 8) (v := .ref (qa 23)) (C := RX8) (T := TX8) (N := 28) hx hb hts (by decide +kernel) hown hK.1 hP 0 rfl rfl 23 (by decide) (hts (.fieldLink RX8 59 "CallNumbersModel" "viaOf" "[I") (by decide +kernel)) (fun _ h9 => h9) rfl dX8_begins_21 ?_
  refine lv_aload_n hx hb dX8_begins_24 rfl (lv_at hl 0 rfl) ?_
  refine va_get (D := G.1) (ci := 8) (v := .int (nI pm)) (C := RX8) (T := TX8) (N := 28) hx hb hts (by decide +kernel) hown hK.1 hP 0 rfl rfl 20 (by decide) (hts (.fieldLink RX8 150 "CallNumbersModel" "pieceMany" "I") (by decide +kernel)) (fun _ h9 => h9) rfl dX8_begins_25 ?_
  refine lv_bipush (v := (-9)) hx hb dX8_begins_28 (by decide) ?_
  refine iastK (k := pm) (f := zv) (x := (-9)) hx hb hK.1 hP hD hS 3 0 rfl rfl (rfl) (by omega) (Nat.le_of_ble_eq_true rfl) dX8_begins_30 (fun H locs hP hD hS => ?_)
  have hP : PP G [(o, ob 8 (mo n lim np gm gs dm dp pm ns qa)), ((qa 21), iA G 31 (fun j => nI ((va_up zs pm r0) j))), ((qa 22), iA G 31 (fun j => nI ((va_up zn pm 0) j))), ((qa 23), iA G 31 (va_up zv pm (-9)))] H := hP
  have hD : va_D A [(o, ob 8 (mo n lim np gm gs dm dp pm ns qa)), ((qa 21), iA G 31 (fun j => nI ((va_up zs pm r0) j))), ((qa 22), iA G 31 (fun j => nI ((va_up zn pm 0) j))), ((qa 23), iA G 31 (va_up zv pm (-9)))] := hD
  refine lv_aload_n hx hb dX8_begins_31 rfl (lv_at hl 0 rfl) ?_
  refine lv_dup hx hb dX8_begins_32 rfl ?_
  refine va_get (D := G.1) (ci := 8) (v := .int (nI pm)) (C := RX8) (T := TX8) (N := 28) hx hb hts (by decide +kernel) hown hK.1 hP 0 rfl rfl 20 (by decide) (hts (.fieldLink RX8 150 "CallNumbersModel" "pieceMany" "I") (by decide +kernel)) (fun _ h9 => h9) rfl dX8_begins_33 ?_
  refine lv_iconst (v := nI 1) hx hb dX8_begins_36 (by decide) ?_
  refine lv_iadd hx hb dX8_begins_37 ?_
  refine lv_topi (fun v ev => ?_)
  obtain rfl : v = nI (pm + 1) := ev.trans (nI_add _ _)
  refine va_put (D := G.1) (ci := 8) (v := .int (nI (pm + 1))) (ty := .int) (C := RX8) (T := TX8) (N := 28) hx hb hts (by decide +kernel) tyX8 tyX8_ok nmX8 hown hK.1 hP hD hS 0 rfl rfl 20 (by decide) (hts (.fieldLink RX8 150 "CallNumbersModel" "pieceMany" "I") (by decide +kernel)) (fun _ h9 => h9) rfl (by decide +kernel) rfl rfl (Nat.le_of_ble_eq_true rfl) dX8_begins_38 (fun H locs hP hD hS => ?_)
  have hP : PP G [(o, ob 8 (mo n lim np gm gs dm dp (pm + 1) ns qa)), ((qa 21), iA G 31 (fun j => nI ((va_up zs pm r0) j))), ((qa 22), iA G 31 (fun j => nI ((va_up zn pm 0) j))), ((qa 23), iA G 31 (va_up zv pm (-9)))] H := hP
  have hD : va_D A [(o, ob 8 (mo n lim np gm gs dm dp (pm + 1) ns qa)), ((qa 21), iA G 31 (fun j => nI ((va_up zs pm r0) j))), ((qa 22), iA G 31 (fun j => nI ((va_up zn pm 0) j))), ((qa 23), iA G 31 (va_up zv pm (-9)))] := hD
  exact W.vret hx hb hr (fun t ht _ => ⟨⟨(), rfl, trivial, by rw [ht]; exact hP, hD⟩, hS.F ht⟩) hS.2.2 dX8_begins_41
set_option maxHeartbeats 4000000 in
set_option maxRecDepth 100000 in
theorem c_X8_codes (G : GG) (l : Launch) (o n lim np gm : Nat) (gs : Int32) (dm dp pm ns : Nat) (qa : Nat → Nat) (to : Nat → Nat) (pO : Nat → Int32) (dO : Nat → Nat) (zs : Nat → Nat) (zn : Nat → Nat) (zv : Nat → Int32) (qr ln : Nat) (rw : Nat → Nat) (k fv mn : Nat) (hk : k < 8) (hm : mn ≤ 30) (hln : fv + mn ≤ ln) (hl2 : ln ≤ 300) (hrw : ∀ j, j < mn → rw (fv + j) < 24) (sz : Nat) : Met l yX8_codes wsX8_codes { frames := 2, cells := 0, slots := 0, locals := 43 } (WPc G [.ref o, .int (nI k), .ref qr, .int (nI fv), .int (nI mn)] [(o, ob 8 (mo n lim np gm gs dm dp pm ns qa)), ((qa 2), iA G 24 (fun j => nI (to j))), ((qa 9), iA G 8 pO), ((qa 11), iA G 192 (fun j => nI (dO j))), ((qa 21), iA G 31 (fun j => nI (zs j))), ((qa 22), iA G 31 (fun j => nI (zn j))), ((qa 23), iA G 31 zv), (qr, iA G ln (fun j => nI (rw j)))] sz) (WQv G [(o, ob 8 (mo n lim np gm gs dm dp pm ns qa)), ((qa 2), iA G 24 (fun j => nI (to j))), ((qa 9), iA G 8 pO), ((qa 11), iA G 192 (fun j => nI (dO j))), ((qa 21), iA G 31 (fun j => nI (zs j))), ((qa 22), iA G 31 (fun j => nI (zn j))), ((qa 23), iA G 31 zv), (qr, iA G ln (fun j => nI (rw j)))] sz (fun u : Unit => True) (fun u => [(o, ob 8 (mo n lim np gm gs dm dp ((codeA (pO k) (fun j => dO (24 * k + j)) to (fun j => rw (fv + j)) zs zn zv mn).1) ns qa)), ((qa 2), iA G 24 (fun j => nI (to j))), ((qa 9), iA G 8 pO), ((qa 11), iA G 192 (fun j => nI (dO j))), ((qa 21), iA G 31 (fun j => nI ((codeA (pO k) (fun j => dO (24 * k + j)) to (fun j => rw (fv + j)) zs zn zv mn).2.1 j))), ((qa 22), iA G 31 (fun j => nI ((codeA (pO k) (fun j => dO (24 * k + j)) to (fun j => rw (fv + j)) zs zn zv mn).2.2.1 j))), ((qa 23), iA G 31 ((codeA (pO k) (fun j => dO (24 * k + j)) to (fun j => rw (fv + j)) zs zn zv mn).2.2.2)), (qr, iA G ln (fun j => nI (rw j)))])) 0 0 (va_A [(o, ob 8 (mo n lim np gm gs dm dp pm ns qa)), ((qa 2), iA G 24 (fun j => nI (to j))), ((qa 9), iA G 8 pO), ((qa 11), iA G 192 (fun j => nI (dO j))), ((qa 21), iA G 31 (fun j => nI (zs j))), ((qa 22), iA G 31 (fun j => nI (zn j))), ((qa 23), iA G 31 zv), (qr, iA G ln (fun j => nI (rw j)))] sz) := by
  refine Met.ofW (cc := cX8_codes) (maxL := 7) (ret := none) (by decide) rfl ?_
  intro p e s m args below meth c s₁ B hml hv
  obtain ⟨rfl, hsz, hP, hK, hD0⟩ := hv
  have hx := B.exec
  have hb := B.bytes
  have hr := B.returns
  have hts := atoms_spec (ws := wsX8_codes) B.pre
  have hown : s.vm.findClass RX8 = some m.cls := findClass_of_methodNamed B.named
  have hlocks := B.notSynchronized
  subst hsz
  have hD := hD0.self (sz := s.heap.size)
  unfold WQv
  generalize hAe : va_A [(o, ob 8 (mo n lim np gm gs dm dp pm ns qa)), ((qa 2), iA G 24 (fun j => nI (to j))), ((qa 9), iA G 8 pO), ((qa 11), iA G 192 (fun j => nI (dO j))), ((qa 21), iA G 31 (fun j => nI (zs j))), ((qa 22), iA G 31 (fun j => nI (zn j))), ((qa 23), iA G 31 zv), (qr, iA G ln (fun j => nI (rw j)))] s.heap.size = A at hD ⊢
  have hA : ∀ q : Nat, s.heap.size ≤ q → A q := fun q h => by rw [← hAe]; exact Or.inr h
  have hl := lv_entry ([.ref o, .int (nI k), .ref qr, .int (nI fv), .int (nI mn)]) (n := 7) (Nat.le_of_ble_eq_true rfl)
  rw [lg_entry_eq]
  generalize (lg_sl ([.ref o, .int (nI k), .ref qr, .int (nI fv), .int (nI mn)]) ++ List.replicate (7 - (lg_sl ([.ref o, .int (nI k), .ref qr, .int (nI fv), .int (nI mn)])).length) Slot.unset).toArray = ls at hl ⊢
  have hl : lv_has ls 7 [(0, .ref o), (1, .int (nI k)), (2, .ref qr), (3, .int (nI fv)), (4, .int (nI mn))] := hl
  refine nameHL (fun H locs hH hL => ?_)
  have hP : PP G [(o, ob 8 (mo n lim np gm gs dm dp pm ns qa)), ((qa 2), iA G 24 (fun j => nI (to j))), ((qa 9), iA G 8 pO), ((qa 11), iA G 192 (fun j => nI (dO j))), ((qa 21), iA G 31 (fun j => nI (zs j))), ((qa 22), iA G 31 (fun j => nI (zn j))), ((qa 23), iA G 31 zv), (qr, iA G ln (fun j => nI (rw j)))] H := by rw [hH]; exact hP
  have hS : va_S A s.heap H locs := by rw [hH, hL]; exact va_S.rf
  refine lv_aload_n hx hb dX8_codes_0 rfl (lv_at hl 0 rfl) ?_
  refine lv_iconst (v := nI 0) hx hb dX8_codes_1 (by decide) ?_
  refine va_put (D := G.1) (ci := 8) (v := .int (nI 0)) (ty := .int) (C := RX8) (T := TX8) (N := 28) hx hb hts (by decide +kernel) tyX8 tyX8_ok nmX8 hown hK.1 hP hD hS 0 rfl rfl 20 (by decide) (hts (.fieldLink RX8 150 "CallNumbersModel" "pieceMany" "I") (by decide +kernel)) (fun _ h9 => h9) rfl (by decide +kernel) rfl rfl (Nat.le_of_ble_eq_true rfl) dX8_codes_2 (fun H locs hP hD hS => ?_)
  have hP : PP G [(o, ob 8 (mo n lim np gm gs dm dp 0 ns qa)), ((qa 2), iA G 24 (fun j => nI (to j))), ((qa 9), iA G 8 pO), ((qa 11), iA G 192 (fun j => nI (dO j))), ((qa 21), iA G 31 (fun j => nI (zs j))), ((qa 22), iA G 31 (fun j => nI (zn j))), ((qa 23), iA G 31 zv), (qr, iA G ln (fun j => nI (rw j)))] H := hP
  have hD : va_D A [(o, ob 8 (mo n lim np gm gs dm dp 0 ns qa)), ((qa 2), iA G 24 (fun j => nI (to j))), ((qa 9), iA G 8 pO), ((qa 11), iA G 192 (fun j => nI (dO j))), ((qa 21), iA G 31 (fun j => nI (zs j))), ((qa 22), iA G 31 (fun j => nI (zn j))), ((qa 23), iA G 31 zv), (qr, iA G ln (fun j => nI (rw j)))] := hD
  refine lv_aload_n hx hb dX8_codes_5 rfl (lv_at hl 0 rfl) ?_
  refine lv_iconst (v := nI 0) hx hb dX8_codes_6 (by decide) ?_
  have hP_1 : PP G [(o, ob 8 (mo n lim np gm gs dm dp 0 ns qa)), ((qa 21), iA G 31 (fun j => nI (zs j))), ((qa 22), iA G 31 (fun j => nI (zn j))), ((qa 23), iA G 31 zv)] H := hP.sub [0, 4, 5, 6] rfl
  have hD_2 : va_D A [(o, ob 8 (mo n lim np gm gs dm dp 0 ns qa)), ((qa 21), iA G 31 (fun j => nI (zs j))), ((qa 22), iA G 31 (fun j => nI (zn j))), ((qa 23), iA G 31 zv)] := hD.sub [0, 4, 5, 6] (by decide) rfl
  refine cwv (va_runV (As := [.int (nI 0)]) (rest := []) ⟨hx, hb, hml, hown, hts⟩ (c_X8_begins G l o n lim np gm gs dm dp 0 ns qa zs zn zv 0 (by omega) H.size) (cwV 1 hts gX8_codes_X8_begins rfl rfl rfl (by decide +kernel) ⟨Nat.le_of_ble_eq_true rfl, Nat.le_of_ble_eq_true rfl⟩) (preWV hK hP_1 hD_2 0 8 rfl rfl) rfl rfl hl.1 rfl (lv_room (Nat.le_of_ble_eq_true rfl)) dX8_codes_7 ⟨Nat.zero_le _, Nat.zero_le _⟩) hS hA hP hD [0, 4, 5, 6] rfl (fun _ => rfl) (fun u_4 H locs h_5 hP hD hS => ?_)
  have hP : PP G [(o, ob 8 (mo n lim np gm gs dm dp 1 ns qa)), ((qa 2), iA G 24 (fun j => nI (to j))), ((qa 9), iA G 8 pO), ((qa 11), iA G 192 (fun j => nI (dO j))), ((qa 21), iA G 31 (fun j => nI ((va_up zs 0 0) j))), ((qa 22), iA G 31 (fun j => nI ((va_up zn 0 0) j))), ((qa 23), iA G 31 (va_up zv 0 (-9))), (qr, iA G ln (fun j => nI (rw j)))] H := hP
  have hD : va_D A [(o, ob 8 (mo n lim np gm gs dm dp 1 ns qa)), ((qa 2), iA G 24 (fun j => nI (to j))), ((qa 9), iA G 8 pO), ((qa 11), iA G 192 (fun j => nI (dO j))), ((qa 21), iA G 31 (fun j => nI ((va_up zs 0 0) j))), ((qa 22), iA G 31 (fun j => nI ((va_up zn 0 0) j))), ((qa 23), iA G 31 (va_up zv 0 (-9))), (qr, iA G ln (fun j => nI (rw j)))] := hD
  refine lv_iconst (v := nI 0) hx hb dX8_codes_10 (by decide) ?_
  refine lv_istore (lv' := [(5, .int (nI 0)), (0, .ref o), (1, .int (nI k)), (2, .ref qr), (3, .int (nI fv)), (4, .int (nI mn))]) hx hb dX8_codes_11 hl (by decide) rfl (fun ls hl => ?_)
  have loop_6 : ∀ (N : Nat) (i : Nat) (w : Nat × (Nat → Nat) × (Nat → Nat) × (Nat → Int32)), (i ≤ mn) → (w = (codeA (pO k) (fun j => dO (24 * k + j)) to (fun j => rw (fv + j)) zs zn zv i)) → (1 ≤ w.1) → (w.1 ≤ i + 1) → (mn - i) < N → ∀ (H : Heap) (locs : List Loc), PP G [(o, ob 8 (mo n lim np gm gs dm dp w.1 ns qa)), ((qa 2), iA G 24 (fun j => nI (to j))), ((qa 9), iA G 8 pO), ((qa 11), iA G 192 (fun j => nI (dO j))), ((qa 21), iA G 31 (fun j => nI (w.2.1 j))), ((qa 22), iA G 31 (fun j => nI (w.2.2.1 j))), ((qa 23), iA G 31 w.2.2.2), (qr, iA G ln (fun j => nI (rw j)))] H → va_D A [(o, ob 8 (mo n lim np gm gs dm dp w.1 ns qa)), ((qa 2), iA G 24 (fun j => nI (to j))), ((qa 9), iA G 8 pO), ((qa 11), iA G 192 (fun j => nI (dO j))), ((qa 21), iA G 31 (fun j => nI (w.2.1 j))), ((qa 22), iA G 31 (fun j => nI (w.2.2.1 j))), ((qa 23), iA G 31 w.2.2.2), (qr, iA G ln (fun j => nI (rw j)))] → va_S A s.heap H locs → ∀ (ls : Array Slot), lv_has ls 7 [(0, .ref o), (1, .int (nI k)), (2, .ref qr), (3, .int (nI fv)), (4, .int (nI mn)), (5, .int (nI i))] → W p l e (headSpec wsX8_codes { frames := 2, cells := 0, slots := 0, locals := 43 }).room s m ([.ref o, .int (nI k), .ref qr, .int (nI fv), .int (nI mn)]).toArray below meth c H locs 0 0 (MQ below (va_Qv (fun u : Unit => True) (fun (u : Unit) (t : State) => PP G ([(o, ob 8 (mo n lim np gm gs dm dp ((codeA (pO k) (fun j => dO (24 * k + j)) to (fun j => rw (fv + j)) zs zn zv mn).1) ns qa)), ((qa 2), iA G 24 (fun j => nI (to j))), ((qa 9), iA G 8 pO), ((qa 11), iA G 192 (fun j => nI (dO j))), ((qa 21), iA G 31 (fun j => nI ((codeA (pO k) (fun j => dO (24 * k + j)) to (fun j => rw (fv + j)) zs zn zv mn).2.1 j))), ((qa 22), iA G 31 (fun j => nI ((codeA (pO k) (fun j => dO (24 * k + j)) to (fun j => rw (fv + j)) zs zn zv mn).2.2.1 j))), ((qa 23), iA G 31 ((codeA (pO k) (fun j => dO (24 * k + j)) to (fun j => rw (fv + j)) zs zn zv mn).2.2.2)), (qr, iA G ln (fun j => nI (rw j)))]) t.heap ∧ va_D A ([(o, ob 8 (mo n lim np gm gs dm dp ((codeA (pO k) (fun j => dO (24 * k + j)) to (fun j => rw (fv + j)) zs zn zv mn).1) ns qa)), ((qa 2), iA G 24 (fun j => nI (to j))), ((qa 9), iA G 8 pO), ((qa 11), iA G 192 (fun j => nI (dO j))), ((qa 21), iA G 31 (fun j => nI ((codeA (pO k) (fun j => dO (24 * k + j)) to (fun j => rw (fv + j)) zs zn zv mn).2.1 j))), ((qa 22), iA G 31 (fun j => nI ((codeA (pO k) (fun j => dO (24 * k + j)) to (fun j => rw (fv + j)) zs zn zv mn).2.2.1 j))), ((qa 23), iA G 31 ((codeA (pO k) (fun j => dO (24 * k + j)) to (fun j => rw (fv + j)) zs zn zv mn).2.2.2)), (qr, iA G ln (fun j => nI (rw j)))])) A) ([.ref o, .int (nI k), .ref qr, .int (nI fv), .int (nI mn)]).toArray s 0 0 A) (F0 m 13 ls []) := by
    intro N
    induction N with
    | zero =>
      intro i w hi hw hw1 hw2 hm
      exact absurd hm (Nat.not_lt_zero _)
    | succ N ih =>
      intro i w hi hw hw1 hw2 hm H locs hP hD hS ls hl
      refine lv_iload hx hb dX8_codes_13 (lv_at hl 5 rfl) ?_
      refine lv_iload hx hb dX8_codes_15 (lv_at hl 4 rfl) ?_
      refine lv_icmp_ge (tgt := 97) hx hb dX8_codes_17 (by decide) (fun c17 => ?_) (fun c17 => ?_)
      · skip
        have c17 := Nat.not_lt.mpr ((nI_leI (a := mn) (b := i) (by omega) (by omega)).mp c17)
        obtain rfl : i = mn := by omega
        subst hw
        exact W.vret hx hb hr (fun t ht _ => ⟨⟨(), rfl, trivial, by rw [ht]; exact hP, hD⟩, hS.F ht⟩) hS.2.2 dX8_codes_97
      · skip
        have c17 := Nat.not_le.mp (mt (nI_leI (a := mn) (b := i) (by omega) (by omega)).mpr c17)
        refine lv_aload_n hx hb dX8_codes_20 rfl (lv_at hl 2 rfl) ?_
        refine lv_iload_n hx hb dX8_codes_21 rfl (lv_at hl 3 rfl) ?_
        refine lv_iload hx hb dX8_codes_22 (lv_at hl 5 rfl) ?_
        refine lv_iadd hx hb dX8_codes_24 ?_
        refine lv_topi (fun v ev => ?_)
        obtain rfl : v = nI (fv + i) := ev.trans (nI_add _ _)
        refine ialdN (k := fv + i) (f := rw) hx hb hK.1 hP 7 0 rfl rfl (rfl) (by omega) (by omega) dX8_codes_25 ?_
        have he9 := hrw i (by omega)
        refine lv_istore (lv' := [(6, .int (nI (rw (fv + i)))), (0, .ref o), (1, .int (nI k)), (2, .ref qr), (3, .int (nI fv)), (4, .int (nI mn)), (5, .int (nI i))]) hx hb dX8_codes_26 hl (by decide) rfl (fun ls hl => ?_)
        refine lv_aload_n hx hb dX8_codes_28 rfl (lv_at hl 1 rfl) ?_
        refine lv_iload_n hx hb dX8_codes_29 rfl (lv_at hl 2 rfl) ?_
        refine lv_iload hx hb dX8_codes_30 (lv_at hl 0 rfl) ?_
        have hP_7 : PP G [(o, ob 8 (mo n lim np gm gs dm dp w.1 ns qa)), ((qa 9), iA G 8 pO)] H := hP.sub [0, 2] rfl
        refine csi (va_runV (As := [.int (nI k), .int (nI (rw (fv + i)))]) (rest := []) ⟨hx, hb, hml, hown, hts⟩ (c_X8_isPlain G l o (mo n lim np gm gs dm dp w.1 ns qa) (qa 9) pO rfl k (rw (fv + i)) (by omega)) (cwV 2 hts gX8_codes_X8_isPlain rfl rfl rfl (by decide +kernel) ⟨Nat.le_of_ble_eq_true rfl, Nat.le_of_ble_eq_true rfl⟩) (preRV hK hP_7 0 8 rfl rfl) rfl rfl hl.1 rfl (lv_room (Nat.le_of_ble_eq_true rfl)) dX8_codes_32 ⟨Nat.zero_le _, Nat.zero_le _⟩) (fun r_8 h_9 => ?_)
        rcases h_9 with ⟨rfl, g32⟩ | ⟨rfl, g32⟩
        · skip
          refine lv_if_eq (tgt := 67) hx hb dX8_codes_35 (by decide) (fun c9 => absurd c9 (by decide)) (fun _ => ?_)
          refine lv_aload_n hx hb dX8_codes_38 rfl (lv_at hl 1 rfl) ?_
          refine va_get (D := G.1) (ci := 8) (v := .ref (qa 22)) (C := RX8) (T := TX8) (N := 28) hx hb hts (by decide +kernel) hown hK.1 hP 0 rfl rfl 22 (by decide) (hts (.fieldLink RX8 56 "CallNumbersModel" "numberOf" "[I") (by decide +kernel)) (fun _ h9 => h9) rfl dX8_codes_39 ?_
          refine lv_aload_n hx hb dX8_codes_42 rfl (lv_at hl 1 rfl) ?_
          refine va_get (D := G.1) (ci := 8) (v := .int (nI w.1)) (C := RX8) (T := TX8) (N := 28) hx hb hts (by decide +kernel) hown hK.1 hP 0 rfl rfl 20 (by decide) (hts (.fieldLink RX8 150 "CallNumbersModel" "pieceMany" "I") (by decide +kernel)) (fun _ h9 => h9) rfl dX8_codes_43 ?_
          refine lv_iconst (v := nI 1) hx hb dX8_codes_46 (by decide) ?_
          refine lv_isub hx hb dX8_codes_47 ?_
          refine lv_topi (fun v ev => ?_)
          obtain rfl : v = nI (w.1 - 1) := ev.trans (pk_sub (by omega))
          refine lv_dup2_11 hx hb dX8_codes_48 rfl rfl ?_
          refine ialdN (k := w.1 - 1) (f := w.2.2.1) hx hb hK.1 hP 5 0 rfl rfl (rfl) (by omega) (Nat.le_of_ble_eq_true rfl) dX8_codes_49 ?_
          refine lv_aload_n hx hb dX8_codes_50 rfl (lv_at hl 1 rfl) ?_
          refine va_get (D := G.1) (ci := 8) (v := .ref (qa 11)) (C := RX8) (T := TX8) (N := 28) hx hb hts (by decide +kernel) hown hK.1 hP 0 rfl rfl 11 (by decide) (hts (.fieldLink RX8 38 "CallNumbersModel" "addOf" "[I") (by decide +kernel)) (fun _ h9 => h9) rfl dX8_codes_51 ?_
          refine lv_bipush (v := nI 24) hx hb dX8_codes_54 (by decide) ?_
          refine lv_iload_n hx hb dX8_codes_56 rfl (lv_at hl 2 rfl) ?_
          refine lv_imul hx hb dX8_codes_57 ?_
          refine lv_topi (fun v ev => ?_)
          obtain rfl : v = nI (24 * k) := ev.trans (pk_mul _ _)
          refine lv_iload hx hb dX8_codes_58 (lv_at hl 0 rfl) ?_
          refine lv_iadd hx hb dX8_codes_60 ?_
          refine lv_topi (fun v ev => ?_)
          obtain rfl : v = nI ((24 * k) + (rw (fv + i))) := ev.trans (nI_add _ _)
          refine ialdN (k := (24 * k) + (rw (fv + i))) (f := dO) hx hb hK.1 hP 3 0 rfl rfl (rfl) (by omega) (Nat.le_of_ble_eq_true rfl) dX8_codes_61 ?_
          refine lv_iadd hx hb dX8_codes_62 ?_
          refine lv_topi (fun v ev => ?_)
          obtain rfl : v = nI ((w.2.2.1 (w.1 - 1)) + (dO ((24 * k) + (rw (fv + i))))) := ev.trans (nI_add _ _)
          refine iastN (k := w.1 - 1) (f := w.2.2.1) (x := (w.2.2.1 (w.1 - 1)) + (dO ((24 * k) + (rw (fv + i))))) hx hb hK.1 hP hD hS 5 0 rfl rfl (rfl) (by omega) (Nat.le_of_ble_eq_true rfl) dX8_codes_63 (fun H locs hP hD hS => ?_)
          have hP : PP G [(o, ob 8 (mo n lim np gm gs dm dp w.1 ns qa)), ((qa 2), iA G 24 (fun j => nI (to j))), ((qa 9), iA G 8 pO), ((qa 11), iA G 192 (fun j => nI (dO j))), ((qa 21), iA G 31 (fun j => nI (w.2.1 j))), ((qa 22), iA G 31 (fun j => nI ((va_up w.2.2.1 (w.1 - 1) ((w.2.2.1 (w.1 - 1)) + (dO ((24 * k) + (rw (fv + i)))))) j))), ((qa 23), iA G 31 w.2.2.2), (qr, iA G ln (fun j => nI (rw j)))] H := hP
          have hD : va_D A [(o, ob 8 (mo n lim np gm gs dm dp w.1 ns qa)), ((qa 2), iA G 24 (fun j => nI (to j))), ((qa 9), iA G 8 pO), ((qa 11), iA G 192 (fun j => nI (dO j))), ((qa 21), iA G 31 (fun j => nI (w.2.1 j))), ((qa 22), iA G 31 (fun j => nI ((va_up w.2.2.1 (w.1 - 1) ((w.2.2.1 (w.1 - 1)) + (dO ((24 * k) + (rw (fv + i)))))) j))), ((qa 23), iA G 31 w.2.2.2), (qr, iA G ln (fun j => nI (rw j)))] := hD
          refine lv_goto (tgt := 91) hx hb dX8_codes_64 (by decide) ?_
          refine lv_iinc (v := nI (i + 1)) (lv' := [(5, .int (nI (i + 1))), (6, .int (nI (rw (fv + i)))), (0, .ref o), (1, .int (nI k)), (2, .ref qr), (3, .int (nI fv)), (4, .int (nI mn))]) hx hb dX8_codes_91 hl (k := 6) rfl (iinc1 i) (by decide) rfl (fun ls hl => ?_)
          refine lv_goto (tgt := 13) hx hb dX8_codes_94 (by decide) ?_
          exact ih (i + 1) (w.1, w.2.1, (va_up w.2.2.1 (w.1 - 1) ((w.2.2.1 (w.1 - 1)) + (dO ((24 * k) + (rw (fv + i)))))), w.2.2.2) (by omega) (by rw [show (codeA (pO k) (fun j => dO (24 * k + j)) to (fun j => rw (fv + j)) zs zn zv (i + 1)) = codeStep (pO k) (fun j => dO (24 * k + j)) to (codeA (pO k) (fun j => dO (24 * k + j)) to (fun j => rw (fv + j)) zs zn zv i) (rw (fv + i)) from rfl, ← hw]; simp [codeStep, g32]) (by first | omega | exact hw1) (by first | omega | exact Nat.le_succ_of_le hw2) (by omega) H locs hP hD hS ls (lv_sub hl [2, 3, 4, 5, 6, 0] rfl)
        · skip
          refine lv_if_eq (tgt := 67) hx hb dX8_codes_35 (by decide) (fun _ => ?_) (fun c9 => absurd c9 (by decide))
          refine lv_aload_n hx hb dX8_codes_67 rfl (lv_at hl 1 rfl) ?_
          refine va_get (D := G.1) (ci := 8) (v := .ref (qa 23)) (C := RX8) (T := TX8) (N := 28) hx hb hts (by decide +kernel) hown hK.1 hP 0 rfl rfl 23 (by decide) (hts (.fieldLink RX8 59 "CallNumbersModel" "viaOf" "[I") (by decide +kernel)) (fun _ h9 => h9) rfl dX8_codes_68 ?_
          refine lv_aload_n hx hb dX8_codes_71 rfl (lv_at hl 1 rfl) ?_
          refine va_get (D := G.1) (ci := 8) (v := .int (nI w.1)) (C := RX8) (T := TX8) (N := 28) hx hb hts (by decide +kernel) hown hK.1 hP 0 rfl rfl 20 (by decide) (hts (.fieldLink RX8 150 "CallNumbersModel" "pieceMany" "I") (by decide +kernel)) (fun _ h9 => h9) rfl dX8_codes_72 ?_
          refine lv_iconst (v := nI 1) hx hb dX8_codes_75 (by decide) ?_
          refine lv_isub hx hb dX8_codes_76 ?_
          refine lv_topi (fun v ev => ?_)
          obtain rfl : v = nI (w.1 - 1) := ev.trans (pk_sub (by omega))
          refine lv_iload hx hb dX8_codes_77 (lv_at hl 0 rfl) ?_
          refine iastK (k := w.1 - 1) (f := w.2.2.2) (x := nI (rw (fv + i))) hx hb hK.1 hP hD hS 6 0 rfl rfl (rfl) (by omega) (Nat.le_of_ble_eq_true rfl) dX8_codes_79 (fun H locs hP hD hS => ?_)
          have hP : PP G [(o, ob 8 (mo n lim np gm gs dm dp w.1 ns qa)), ((qa 2), iA G 24 (fun j => nI (to j))), ((qa 9), iA G 8 pO), ((qa 11), iA G 192 (fun j => nI (dO j))), ((qa 21), iA G 31 (fun j => nI (w.2.1 j))), ((qa 22), iA G 31 (fun j => nI (w.2.2.1 j))), ((qa 23), iA G 31 (va_up w.2.2.2 (w.1 - 1) (nI (rw (fv + i))))), (qr, iA G ln (fun j => nI (rw j)))] H := hP
          have hD : va_D A [(o, ob 8 (mo n lim np gm gs dm dp w.1 ns qa)), ((qa 2), iA G 24 (fun j => nI (to j))), ((qa 9), iA G 8 pO), ((qa 11), iA G 192 (fun j => nI (dO j))), ((qa 21), iA G 31 (fun j => nI (w.2.1 j))), ((qa 22), iA G 31 (fun j => nI (w.2.2.1 j))), ((qa 23), iA G 31 (va_up w.2.2.2 (w.1 - 1) (nI (rw (fv + i))))), (qr, iA G ln (fun j => nI (rw j)))] := hD
          refine lv_aload_n hx hb dX8_codes_80 rfl (lv_at hl 1 rfl) ?_
          refine lv_aload_n hx hb dX8_codes_81 rfl (lv_at hl 1 rfl) ?_
          refine va_get (D := G.1) (ci := 8) (v := .ref (qa 2)) (C := RX8) (T := TX8) (N := 28) hx hb hts (by decide +kernel) hown hK.1 hP 0 rfl rfl 2 (by decide) (hts (.fieldLink RX8 13 "CallNumbersModel" "toOf" "[I") (by decide +kernel)) (fun _ h9 => h9) rfl dX8_codes_82 ?_
          refine lv_iload hx hb dX8_codes_85 (lv_at hl 0 rfl) ?_
          refine ialdN (k := rw (fv + i)) (f := to) hx hb hK.1 hP 1 0 rfl rfl (rfl) (by omega) (Nat.le_of_ble_eq_true rfl) dX8_codes_87 ?_
          have hP_10 : PP G [(o, ob 8 (mo n lim np gm gs dm dp w.1 ns qa)), ((qa 21), iA G 31 (fun j => nI (w.2.1 j))), ((qa 22), iA G 31 (fun j => nI (w.2.2.1 j))), ((qa 23), iA G 31 (va_up w.2.2.2 (w.1 - 1) (nI (rw (fv + i)))))] H := hP.sub [0, 4, 5, 6] rfl
          have hD_11 : va_D A [(o, ob 8 (mo n lim np gm gs dm dp w.1 ns qa)), ((qa 21), iA G 31 (fun j => nI (w.2.1 j))), ((qa 22), iA G 31 (fun j => nI (w.2.2.1 j))), ((qa 23), iA G 31 (va_up w.2.2.2 (w.1 - 1) (nI (rw (fv + i)))))] := hD.sub [0, 4, 5, 6] (by decide) rfl
          refine cwv (va_runV (As := [.int (nI (to (rw (fv + i))))]) (rest := []) ⟨hx, hb, hml, hown, hts⟩ (c_X8_begins G l o n lim np gm gs dm dp w.1 ns qa w.2.1 w.2.2.1 (va_up w.2.2.2 (w.1 - 1) (nI (rw (fv + i)))) (to (rw (fv + i))) (by omega) H.size) (cwV 1 hts gX8_codes_X8_begins rfl rfl rfl (by decide +kernel) ⟨Nat.le_of_ble_eq_true rfl, Nat.le_of_ble_eq_true rfl⟩) (preWV hK hP_10 hD_11 0 8 rfl rfl) rfl rfl hl.1 rfl (lv_room (Nat.le_of_ble_eq_true rfl)) dX8_codes_88 ⟨Nat.zero_le _, Nat.zero_le _⟩) hS hA hP hD [0, 4, 5, 6] rfl (fun _ => rfl) (fun u_13 H locs h_14 hP hD hS => ?_)
          have hP : PP G [(o, ob 8 (mo n lim np gm gs dm dp (w.1 + 1) ns qa)), ((qa 2), iA G 24 (fun j => nI (to j))), ((qa 9), iA G 8 pO), ((qa 11), iA G 192 (fun j => nI (dO j))), ((qa 21), iA G 31 (fun j => nI ((va_up w.2.1 w.1 (to (rw (fv + i)))) j))), ((qa 22), iA G 31 (fun j => nI ((va_up w.2.2.1 w.1 0) j))), ((qa 23), iA G 31 (va_up (va_up w.2.2.2 (w.1 - 1) (nI (rw (fv + i)))) w.1 (-9))), (qr, iA G ln (fun j => nI (rw j)))] H := hP
          have hD : va_D A [(o, ob 8 (mo n lim np gm gs dm dp (w.1 + 1) ns qa)), ((qa 2), iA G 24 (fun j => nI (to j))), ((qa 9), iA G 8 pO), ((qa 11), iA G 192 (fun j => nI (dO j))), ((qa 21), iA G 31 (fun j => nI ((va_up w.2.1 w.1 (to (rw (fv + i)))) j))), ((qa 22), iA G 31 (fun j => nI ((va_up w.2.2.1 w.1 0) j))), ((qa 23), iA G 31 (va_up (va_up w.2.2.2 (w.1 - 1) (nI (rw (fv + i)))) w.1 (-9))), (qr, iA G ln (fun j => nI (rw j)))] := hD
          refine lv_iinc (v := nI (i + 1)) (lv' := [(5, .int (nI (i + 1))), (6, .int (nI (rw (fv + i)))), (0, .ref o), (1, .int (nI k)), (2, .ref qr), (3, .int (nI fv)), (4, .int (nI mn))]) hx hb dX8_codes_91 hl (k := 6) rfl (iinc1 i) (by decide) rfl (fun ls hl => ?_)
          refine lv_goto (tgt := 13) hx hb dX8_codes_94 (by decide) ?_
          exact ih (i + 1) (w.1 + 1, (va_up w.2.1 w.1 (to (rw (fv + i)))), (va_up w.2.2.1 w.1 0), (va_up (va_up w.2.2.2 (w.1 - 1) (nI (rw (fv + i)))) w.1 (-9))) (by omega) (by rw [show (codeA (pO k) (fun j => dO (24 * k + j)) to (fun j => rw (fv + j)) zs zn zv (i + 1)) = codeStep (pO k) (fun j => dO (24 * k + j)) to (codeA (pO k) (fun j => dO (24 * k + j)) to (fun j => rw (fv + j)) zs zn zv i) (rw (fv + i)) from rfl, ← hw]; simp [codeStep, g32]) (by first | omega | exact hw1) (by first | omega | exact Nat.le_succ_of_le hw2) (by omega) H locs hP hD hS ls (lv_sub hl [2, 3, 4, 5, 6, 0] rfl)
  exact loop_6 _ 0 (1, va_up zs 0 0, va_up zn 0 0, va_up zv 0 (-9)) (Nat.zero_le _) (rfl) (Nat.le_refl 1) (Nat.le_refl 1) (Nat.lt_succ_self _) H locs hP hD hS ls (lv_sub hl [1, 2, 3, 4, 5, 0] rfl)
set_option maxHeartbeats 4000000 in
set_option maxRecDepth 100000 in
theorem c_X8_piece (G : GG) (l : Launch) (o n lim np gm : Nat) (gs : Int32) (dm dp pm ns : Nat) (qa : Nat → Nat) (to : Nat → Nat) (pO : Nat → Int32) (dO : Nat → Nat) (sk : Nat → Nat) (zs : Nat → Nat) (zn : Nat → Nat) (zv : Nat → Int32) (x y z : Int32) (hp : np ≤ 8) (hd : dp ≤ 30) (hrow : ∀ j, j < dp → sk j < 24) (sz : Nat) : Met l yX8_piece wsX8_piece { frames := 3, cells := 0, slots := 0, locals := 69 } (WPc G [.ref o, .int x, .int y, .int z] [(o, ob 8 (mo n lim np gm gs dm dp pm ns qa)), ((qa 2), iA G 24 (fun j => nI (to j))), ((qa 9), iA G 8 pO), ((qa 11), iA G 192 (fun j => nI (dO j))), ((qa 19), iA G 30 (fun j => nI (sk j))), ((qa 21), iA G 31 (fun j => nI (zs j))), ((qa 22), iA G 31 (fun j => nI (zn j))), ((qa 23), iA G 31 zv)] sz) (WQi G [(o, ob 8 (mo n lim np gm gs dm dp pm ns qa)), ((qa 2), iA G 24 (fun j => nI (to j))), ((qa 9), iA G 8 pO), ((qa 11), iA G 192 (fun j => nI (dO j))), ((qa 19), iA G 30 (fun j => nI (sk j))), ((qa 21), iA G 31 (fun j => nI (zs j))), ((qa 22), iA G 31 (fun j => nI (zn j))), ((qa 23), iA G 31 zv)] sz (fun (r : Int32) (u : Nat × (Nat → Nat) × (Nat → Nat) × (Nat → Int32)) => r = A_piece np (fun k => codeA (pO k) (fun j => dO (24 * k + j)) to (fun j => sk (0 + j)) zs zn zv dp) x y z) (fun u => [(o, ob 8 (mo n lim np gm gs dm dp u.1 ns qa)), ((qa 2), iA G 24 (fun j => nI (to j))), ((qa 9), iA G 8 pO), ((qa 11), iA G 192 (fun j => nI (dO j))), ((qa 19), iA G 30 (fun j => nI (sk j))), ((qa 21), iA G 31 (fun j => nI (u.2.1 j))), ((qa 22), iA G 31 (fun j => nI (u.2.2.1 j))), ((qa 23), iA G 31 u.2.2.2)])) 0 0 (va_A [(o, ob 8 (mo n lim np gm gs dm dp pm ns qa)), ((qa 2), iA G 24 (fun j => nI (to j))), ((qa 9), iA G 8 pO), ((qa 11), iA G 192 (fun j => nI (dO j))), ((qa 19), iA G 30 (fun j => nI (sk j))), ((qa 21), iA G 31 (fun j => nI (zs j))), ((qa 22), iA G 31 (fun j => nI (zn j))), ((qa 23), iA G 31 zv)] sz) := by
  refine Met.ofW (cc := cX8_piece) (maxL := 4) (ret := (some .int)) (by decide) rfl ?_
  intro p e s m args below meth c s₁ B hml hv
  obtain ⟨rfl, hsz, hP, hK, hD0⟩ := hv
  have hx := B.exec
  have hb := B.bytes
  have hr := B.returns
  have hts := atoms_spec (ws := wsX8_piece) B.pre
  have hown : s.vm.findClass RX8 = some m.cls := findClass_of_methodNamed B.named
  have hlocks := B.notSynchronized
  subst hsz
  have hD := hD0.self (sz := s.heap.size)
  unfold WQi
  generalize hAe : va_A [(o, ob 8 (mo n lim np gm gs dm dp pm ns qa)), ((qa 2), iA G 24 (fun j => nI (to j))), ((qa 9), iA G 8 pO), ((qa 11), iA G 192 (fun j => nI (dO j))), ((qa 19), iA G 30 (fun j => nI (sk j))), ((qa 21), iA G 31 (fun j => nI (zs j))), ((qa 22), iA G 31 (fun j => nI (zn j))), ((qa 23), iA G 31 zv)] s.heap.size = A at hD ⊢
  have hA : ∀ q : Nat, s.heap.size ≤ q → A q := fun q h => by rw [← hAe]; exact Or.inr h
  have hl := lv_entry ([.ref o, .int x, .int y, .int z]) (n := 4) (Nat.le_of_ble_eq_true rfl)
  rw [lg_entry_eq]
  generalize (lg_sl ([.ref o, .int x, .int y, .int z]) ++ List.replicate (4 - (lg_sl ([.ref o, .int x, .int y, .int z])).length) Slot.unset).toArray = ls at hl ⊢
  have hl : lv_has ls 4 [(0, .ref o), (1, .int x), (2, .int y), (3, .int z)] := hl
  refine nameHL (fun H locs hH hL => ?_)
  have hP : PP G [(o, ob 8 (mo n lim np gm gs dm dp pm ns qa)), ((qa 2), iA G 24 (fun j => nI (to j))), ((qa 9), iA G 8 pO), ((qa 11), iA G 192 (fun j => nI (dO j))), ((qa 19), iA G 30 (fun j => nI (sk j))), ((qa 21), iA G 31 (fun j => nI (zs j))), ((qa 22), iA G 31 (fun j => nI (zn j))), ((qa 23), iA G 31 zv)] H := by rw [hH]; exact hP
  have hS : va_S A s.heap H locs := by rw [hH, hL]; exact va_S.rf
  refine lv_aload_n hx hb dX8_piece_0 rfl (lv_at hl 0 rfl) ?_
  refine lv_iload_n hx hb dX8_piece_1 rfl (lv_at hl 1 rfl) ?_
  have hP_1 : PP G [(o, ob 8 (mo n lim np gm gs dm dp pm ns qa))] H := hP.sub [0] rfl
  refine csi (va_runV (As := [.int x]) (rest := []) ⟨hx, hb, hml, hown, hts⟩ (c_X8_isPlan G l o (mo n lim np gm gs dm dp pm ns qa) np rfl x (by omega)) (cwV 1 hts gX8_piece_X8_isPlan rfl rfl rfl (by decide +kernel) ⟨Nat.le_of_ble_eq_true rfl, Nat.le_of_ble_eq_true rfl⟩) (preRV hK hP_1 0 8 rfl rfl) rfl rfl hl.1 rfl (lv_room (Nat.le_of_ble_eq_true rfl)) dX8_piece_2 ⟨Nat.zero_le _, Nat.zero_le _⟩) (fun r_2 h_3 => ?_)
  rcases h_3 with ⟨rfl, k2, b2, rfl⟩ | ⟨rfl, b2⟩
  · skip
    refine lv_if_ne (tgt := 10) hx hb dX8_piece_5 (by decide) (fun _ => ?_) (fun c9 => absurd c9 (by decide))
    refine lv_iload_n hx hb dX8_piece_10 rfl (lv_at hl 2 rfl) ?_
    refine lv_if_lt (tgt := 23) hx hb dX8_piece_11 (by decide) (fun c11 => ?_) (fun c11 => ?_)
    · skip
      refine lv_bipush (v := (-2)) hx hb dX8_piece_23 (by decide) ?_
      exact W.iret (v := (-2)) hx hb hr (fun t ht _ => ⟨⟨(-2), (pm, zs, zn, zv), rfl, by simp [-Nat.zero_add, A_piece, ix_in b2 (show np < 2 ^ 31 by omega), c11], by rw [ht]; exact hP, hD⟩, hS.F ht⟩) hS.2.2 dX8_piece_25
    · skip
      refine lv_iload_n hx hb dX8_piece_14 rfl (lv_at hl 3 rfl) ?_
      refine lv_iconst (v := nI 0) hx hb dX8_piece_15 (by decide) ?_
      refine lv_iconst (v := nI 2) hx hb dX8_piece_16 (by decide) ?_
      have hP_4 : PP G [] H := hP.sub [] rfl
      refine csi (va_runS (As := [.int z, .int (nI 0), .int (nI 2)]) (rest := []) ⟨hx, hb, hml, hown, hts⟩ (c_X8_within G l z (nI 0) (nI 2)) (va_cwS 3 hts gX8_piece_X8_within rfl rfl rfl (by decide +kernel) ⟨Nat.le_of_ble_eq_true rfl, Nat.le_of_ble_eq_true rfl⟩) (preR hK hP_4) rfl rfl hl.1 rfl (lv_room (Nat.le_of_ble_eq_true rfl)) dX8_piece_17 ⟨Nat.zero_le _, Nat.zero_le _⟩) (fun r_5 h_6 => ?_)
      rcases h_6 with ⟨rfl, g17, g17'⟩ | ⟨rfl, g17⟩
      · skip
        refine lv_if_ne (tgt := 26) hx hb dX8_piece_20 (by decide) (fun _ => ?_) (fun c9 => absurd c9 (by decide))
        obtain ⟨ky, hky, rfl⟩ := nI_of c11
        have hcl := codeA_le (pO k2) (fun j => dO (24 * k2 + j)) to (fun j => sk (0 + j)) zs zn zv dp
        refine lv_aload_n hx hb dX8_piece_26 rfl (lv_at hl 0 rfl) ?_
        refine lv_iload_n hx hb dX8_piece_27 rfl (lv_at hl 1 rfl) ?_
        refine lv_aload_n hx hb dX8_piece_28 rfl (lv_at hl 0 rfl) ?_
        refine va_get (D := G.1) (ci := 8) (v := .ref (qa 19)) (C := RX8) (T := TX8) (N := 28) hx hb hts (by decide +kernel) hown hK.1 hP 0 rfl rfl 19 (by decide) (hts (.fieldLink RX8 50 "CallNumbersModel" "stack" "[I") (by decide +kernel)) (fun _ h9 => h9) rfl dX8_piece_29 ?_
        refine lv_iconst (v := nI 0) hx hb dX8_piece_32 (by decide) ?_
        refine lv_aload_n hx hb dX8_piece_33 rfl (lv_at hl 0 rfl) ?_
        refine va_get (D := G.1) (ci := 8) (v := .int (nI dp)) (C := RX8) (T := TX8) (N := 28) hx hb hts (by decide +kernel) hown hK.1 hP 0 rfl rfl 18 (by decide) (hts (.fieldLink RX8 143 "CallNumbersModel" "deep" "I") (by decide +kernel)) (fun _ h9 => h9) rfl dX8_piece_34 ?_
        have hP_7 : PP G [(o, ob 8 (mo n lim np gm gs dm dp pm ns qa)), ((qa 2), iA G 24 (fun j => nI (to j))), ((qa 9), iA G 8 pO), ((qa 11), iA G 192 (fun j => nI (dO j))), ((qa 21), iA G 31 (fun j => nI (zs j))), ((qa 22), iA G 31 (fun j => nI (zn j))), ((qa 23), iA G 31 zv), ((qa 19), iA G 30 (fun j => nI (sk j)))] H := hP.sub [0, 1, 2, 3, 5, 6, 7, 4] rfl
        have hD_8 : va_D A [(o, ob 8 (mo n lim np gm gs dm dp pm ns qa)), ((qa 2), iA G 24 (fun j => nI (to j))), ((qa 9), iA G 8 pO), ((qa 11), iA G 192 (fun j => nI (dO j))), ((qa 21), iA G 31 (fun j => nI (zs j))), ((qa 22), iA G 31 (fun j => nI (zn j))), ((qa 23), iA G 31 zv), ((qa 19), iA G 30 (fun j => nI (sk j)))] := hD.sub [0, 1, 2, 3, 5, 6, 7, 4] (by decide) rfl
        refine cwv (va_runV (As := [.int (nI k2), .ref (qa 19), .int (nI 0), .int (nI dp)]) (rest := []) ⟨hx, hb, hml, hown, hts⟩ (c_X8_codes G l o n lim np gm gs dm dp pm ns qa to pO dO zs zn zv (qa 19) 30 sk k2 0 dp (by omega) (by omega) (by omega) (by omega) (fun j hj => by rw [Nat.zero_add]; exact hrow j hj) H.size) (cwV 4 hts gX8_piece_X8_codes rfl rfl rfl (by decide +kernel) ⟨Nat.le_of_ble_eq_true rfl, Nat.le_of_ble_eq_true rfl⟩) (preWV hK hP_7 hD_8 0 8 rfl rfl) rfl rfl hl.1 rfl (lv_room (Nat.le_of_ble_eq_true rfl)) dX8_piece_37 ⟨Nat.zero_le _, Nat.zero_le _⟩) hS hA hP hD [0, 1, 2, 3, 5, 6, 7, 4] rfl (fun _ => rfl) (fun u_10 H locs h_11 hP hD hS => ?_)
        have hP : PP G [(o, ob 8 (mo n lim np gm gs dm dp ((codeA (pO k2) (fun j => dO (24 * k2 + j)) to (fun j => sk (0 + j)) zs zn zv dp).1) ns qa)), ((qa 2), iA G 24 (fun j => nI (to j))), ((qa 9), iA G 8 pO), ((qa 11), iA G 192 (fun j => nI (dO j))), ((qa 19), iA G 30 (fun j => nI (sk j))), ((qa 21), iA G 31 (fun j => nI ((codeA (pO k2) (fun j => dO (24 * k2 + j)) to (fun j => sk (0 + j)) zs zn zv dp).2.1 j))), ((qa 22), iA G 31 (fun j => nI ((codeA (pO k2) (fun j => dO (24 * k2 + j)) to (fun j => sk (0 + j)) zs zn zv dp).2.2.1 j))), ((qa 23), iA G 31 ((codeA (pO k2) (fun j => dO (24 * k2 + j)) to (fun j => sk (0 + j)) zs zn zv dp).2.2.2))] H := hP
        have hD : va_D A [(o, ob 8 (mo n lim np gm gs dm dp ((codeA (pO k2) (fun j => dO (24 * k2 + j)) to (fun j => sk (0 + j)) zs zn zv dp).1) ns qa)), ((qa 2), iA G 24 (fun j => nI (to j))), ((qa 9), iA G 8 pO), ((qa 11), iA G 192 (fun j => nI (dO j))), ((qa 19), iA G 30 (fun j => nI (sk j))), ((qa 21), iA G 31 (fun j => nI ((codeA (pO k2) (fun j => dO (24 * k2 + j)) to (fun j => sk (0 + j)) zs zn zv dp).2.1 j))), ((qa 22), iA G 31 (fun j => nI ((codeA (pO k2) (fun j => dO (24 * k2 + j)) to (fun j => sk (0 + j)) zs zn zv dp).2.2.1 j))), ((qa 23), iA G 31 ((codeA (pO k2) (fun j => dO (24 * k2 + j)) to (fun j => sk (0 + j)) zs zn zv dp).2.2.2))] := hD
        refine lv_iload_n hx hb dX8_piece_40 rfl (lv_at hl 2 rfl) ?_
        refine lv_aload_n hx hb dX8_piece_41 rfl (lv_at hl 0 rfl) ?_
        refine va_get (D := G.1) (ci := 8) (v := .int (nI ((codeA (pO k2) (fun j => dO (24 * k2 + j)) to (fun j => sk (0 + j)) zs zn zv dp).1))) (C := RX8) (T := TX8) (N := 28) hx hb hts (by decide +kernel) hown hK.1 hP 0 rfl rfl 20 (by decide) (hts (.fieldLink RX8 150 "CallNumbersModel" "pieceMany" "I") (by decide +kernel)) (fun _ h9 => h9) rfl dX8_piece_42 ?_
        refine lv_icmp_lt (tgt := 51) hx hb dX8_piece_45 (by decide) (fun c45 => ?_) (fun c45 => ?_)
        · skip
          have c45 := (nI_ltI (a := ky) (b := (codeA (pO k2) (fun j => dO (24 * k2 + j)) to (fun j => sk (0 + j)) zs zn zv dp).1) (by omega) (by omega)).mp c45
          refine lv_iload_n hx hb dX8_piece_51 rfl (lv_at hl 3 rfl) ?_
          refine lv_if_ne (tgt := 64) hx hb dX8_piece_52 (by decide) (fun c52 => ?_) (fun c52 => ?_)
          · skip
            have c52 : ¬ z = nI 0 := c52
            refine lv_iload_n hx hb dX8_piece_64 rfl (lv_at hl 3 rfl) ?_
            refine lv_iconst (v := nI 1) hx hb dX8_piece_65 (by decide) ?_
            refine lv_icmp_ne (tgt := 78) hx hb dX8_piece_66 (by decide) (fun c66 => ?_) (fun c66 => ?_)
            · skip
              refine lv_aload_n hx hb dX8_piece_78 rfl (lv_at hl 0 rfl) ?_
              refine va_get (D := G.1) (ci := 8) (v := .ref (qa 23)) (C := RX8) (T := TX8) (N := 28) hx hb hts (by decide +kernel) hown hK.1 hP 0 rfl rfl 23 (by decide) (hts (.fieldLink RX8 59 "CallNumbersModel" "viaOf" "[I") (by decide +kernel)) (fun _ h9 => h9) rfl dX8_piece_79 ?_
              refine lv_iload_n hx hb dX8_piece_82 rfl (lv_at hl 2 rfl) ?_
              refine ialdK (k := ky) (f := (codeA (pO k2) (fun j => dO (24 * k2 + j)) to (fun j => sk (0 + j)) zs zn zv dp).2.2.2) hx hb hK.1 hP 7 0 rfl rfl (rfl) (by omega) (Nat.le_of_ble_eq_true rfl) dX8_piece_83 ?_
              exact W.iret (v := ((codeA (pO k2) (fun j => dO (24 * k2 + j)) to (fun j => sk (0 + j)) zs zn zv dp).2.2.2) ky) hx hb hr (fun t ht _ => ⟨⟨((codeA (pO k2) (fun j => dO (24 * k2 + j)) to (fun j => sk (0 + j)) zs zn zv dp).2.2.2) ky, (codeA (pO k2) (fun j => dO (24 * k2 + j)) to (fun j => sk (0 + j)) zs zn zv dp), rfl, by simp [-Nat.zero_add, A_piece, ix_in b2 (show np < 2 ^ 31 by omega), c11, g17, g17', sw1, ix_in c45 (show (codeA (pO k2) (fun j => dO (24 * k2 + j)) to (fun j => sk (0 + j)) zs zn zv dp).1 < 2 ^ 31 by omega), c52, c66], by rw [ht]; exact hP, hD⟩, hS.F ht⟩) hS.2.2 dX8_piece_84
            · skip
              refine lv_aload_n hx hb dX8_piece_69 rfl (lv_at hl 0 rfl) ?_
              refine va_get (D := G.1) (ci := 8) (v := .ref (qa 22)) (C := RX8) (T := TX8) (N := 28) hx hb hts (by decide +kernel) hown hK.1 hP 0 rfl rfl 22 (by decide) (hts (.fieldLink RX8 56 "CallNumbersModel" "numberOf" "[I") (by decide +kernel)) (fun _ h9 => h9) rfl dX8_piece_70 ?_
              refine lv_iload_n hx hb dX8_piece_73 rfl (lv_at hl 2 rfl) ?_
              refine ialdN (k := ky) (f := (codeA (pO k2) (fun j => dO (24 * k2 + j)) to (fun j => sk (0 + j)) zs zn zv dp).2.2.1) hx hb hK.1 hP 6 0 rfl rfl (rfl) (by omega) (Nat.le_of_ble_eq_true rfl) dX8_piece_74 ?_
              refine lv_goto (tgt := 84) hx hb dX8_piece_75 (by decide) ?_
              exact W.iret (v := nI (((codeA (pO k2) (fun j => dO (24 * k2 + j)) to (fun j => sk (0 + j)) zs zn zv dp).2.2.1) ky)) hx hb hr (fun t ht _ => ⟨⟨nI (((codeA (pO k2) (fun j => dO (24 * k2 + j)) to (fun j => sk (0 + j)) zs zn zv dp).2.2.1) ky), (codeA (pO k2) (fun j => dO (24 * k2 + j)) to (fun j => sk (0 + j)) zs zn zv dp), rfl, by simp [-Nat.zero_add, A_piece, ix_in b2 (show np < 2 ^ 31 by omega), c11, g17, g17', sw1, ix_in c45 (show (codeA (pO k2) (fun j => dO (24 * k2 + j)) to (fun j => sk (0 + j)) zs zn zv dp).1 < 2 ^ 31 by omega), c52, c66, sw0], by rw [ht]; exact hP, hD⟩, hS.F ht⟩) hS.2.2 dX8_piece_84
          · skip
            have c52 : z = nI 0 := c52
            refine lv_aload_n hx hb dX8_piece_55 rfl (lv_at hl 0 rfl) ?_
            refine va_get (D := G.1) (ci := 8) (v := .ref (qa 21)) (C := RX8) (T := TX8) (N := 28) hx hb hts (by decide +kernel) hown hK.1 hP 0 rfl rfl 21 (by decide) (hts (.fieldLink RX8 53 "CallNumbersModel" "startOf" "[I") (by decide +kernel)) (fun _ h9 => h9) rfl dX8_piece_56 ?_
            refine lv_iload_n hx hb dX8_piece_59 rfl (lv_at hl 2 rfl) ?_
            refine ialdN (k := ky) (f := (codeA (pO k2) (fun j => dO (24 * k2 + j)) to (fun j => sk (0 + j)) zs zn zv dp).2.1) hx hb hK.1 hP 5 0 rfl rfl (rfl) (by omega) (Nat.le_of_ble_eq_true rfl) dX8_piece_60 ?_
            refine lv_goto (tgt := 84) hx hb dX8_piece_61 (by decide) ?_
            exact W.iret (v := nI (((codeA (pO k2) (fun j => dO (24 * k2 + j)) to (fun j => sk (0 + j)) zs zn zv dp).2.1) ky)) hx hb hr (fun t ht _ => ⟨⟨nI (((codeA (pO k2) (fun j => dO (24 * k2 + j)) to (fun j => sk (0 + j)) zs zn zv dp).2.1) ky), (codeA (pO k2) (fun j => dO (24 * k2 + j)) to (fun j => sk (0 + j)) zs zn zv dp), rfl, by simp [-Nat.zero_add, A_piece, ix_in b2 (show np < 2 ^ 31 by omega), c11, g17, g17', sw1, ix_in c45 (show (codeA (pO k2) (fun j => dO (24 * k2 + j)) to (fun j => sk (0 + j)) zs zn zv dp).1 < 2 ^ 31 by omega), c52], by rw [ht]; exact hP, hD⟩, hS.F ht⟩) hS.2.2 dX8_piece_84
        · skip
          have c45 := mt (nI_ltI (a := ky) (b := (codeA (pO k2) (fun j => dO (24 * k2 + j)) to (fun j => sk (0 + j)) zs zn zv dp).1) (by omega) (by omega)).mpr c45
          refine lv_bipush (v := (-9)) hx hb dX8_piece_48 (by decide) ?_
          exact W.iret (v := (-9)) hx hb hr (fun t ht _ => ⟨⟨(-9), (codeA (pO k2) (fun j => dO (24 * k2 + j)) to (fun j => sk (0 + j)) zs zn zv dp), rfl, by simp [-Nat.zero_add, A_piece, ix_in b2 (show np < 2 ^ 31 by omega), c11, g17, g17', sw1, ix_ge c45 hky], by rw [ht]; exact hP, hD⟩, hS.F ht⟩) hS.2.2 dX8_piece_50
      · skip
        refine lv_if_ne (tgt := 26) hx hb dX8_piece_20 (by decide) (fun c9 => absurd c9 (by decide)) (fun _ => ?_)
        refine lv_bipush (v := (-2)) hx hb dX8_piece_23 (by decide) ?_
        exact W.iret (v := (-2)) hx hb hr (fun t ht _ => ⟨⟨(-2), (pm, zs, zn, zv), rfl, by simp [-Nat.zero_add, A_piece, ix_in b2 (show np < 2 ^ 31 by omega), g17], by rw [ht]; exact hP, hD⟩, hS.F ht⟩) hS.2.2 dX8_piece_25
  · skip
    refine lv_if_ne (tgt := 10) hx hb dX8_piece_5 (by decide) (fun c9 => absurd c9 (by decide)) (fun _ => ?_)
    refine lv_iconst (v := (-1)) hx hb dX8_piece_8 (by decide) ?_
    exact W.iret (v := (-1)) hx hb hr (fun t ht _ => ⟨⟨(-1), (pm, zs, zn, zv), rfl, by simp [-Nat.zero_add, A_piece, ix_out b2], by rw [ht]; exact hP, hD⟩, hS.F ht⟩) hS.2.2 dX8_piece_9
set_option maxHeartbeats 4000000 in
set_option maxRecDepth 100000 in
theorem c_X8_pieces (G : GG) (l : Launch) (o n lim np gm : Nat) (gs : Int32) (dm dp pm ns : Nat) (qa : Nat → Nat) (to : Nat → Nat) (pO : Nat → Int32) (dO : Nat → Nat) (sk : Nat → Nat) (zs : Nat → Nat) (zn : Nat → Nat) (zv : Nat → Int32) (x : Int32) (hp : np ≤ 8) (hd : dp ≤ 30) (hrow : ∀ j, j < dp → sk j < 24) (sz : Nat) : Met l yX8_pieces wsX8_pieces { frames := 3, cells := 0, slots := 0, locals := 69 } (WPc G [.ref o, .int x] [(o, ob 8 (mo n lim np gm gs dm dp pm ns qa)), ((qa 2), iA G 24 (fun j => nI (to j))), ((qa 9), iA G 8 pO), ((qa 11), iA G 192 (fun j => nI (dO j))), ((qa 19), iA G 30 (fun j => nI (sk j))), ((qa 21), iA G 31 (fun j => nI (zs j))), ((qa 22), iA G 31 (fun j => nI (zn j))), ((qa 23), iA G 31 zv)] sz) (WQi G [(o, ob 8 (mo n lim np gm gs dm dp pm ns qa)), ((qa 2), iA G 24 (fun j => nI (to j))), ((qa 9), iA G 8 pO), ((qa 11), iA G 192 (fun j => nI (dO j))), ((qa 19), iA G 30 (fun j => nI (sk j))), ((qa 21), iA G 31 (fun j => nI (zs j))), ((qa 22), iA G 31 (fun j => nI (zn j))), ((qa 23), iA G 31 zv)] sz (fun (r : Int32) (u : Nat × (Nat → Nat) × (Nat → Nat) × (Nat → Int32)) => r = A_pieces np (fun k => codeA (pO k) (fun j => dO (24 * k + j)) to (fun j => sk (0 + j)) zs zn zv dp) x) (fun u => [(o, ob 8 (mo n lim np gm gs dm dp u.1 ns qa)), ((qa 2), iA G 24 (fun j => nI (to j))), ((qa 9), iA G 8 pO), ((qa 11), iA G 192 (fun j => nI (dO j))), ((qa 19), iA G 30 (fun j => nI (sk j))), ((qa 21), iA G 31 (fun j => nI (u.2.1 j))), ((qa 22), iA G 31 (fun j => nI (u.2.2.1 j))), ((qa 23), iA G 31 u.2.2.2)])) 0 0 (va_A [(o, ob 8 (mo n lim np gm gs dm dp pm ns qa)), ((qa 2), iA G 24 (fun j => nI (to j))), ((qa 9), iA G 8 pO), ((qa 11), iA G 192 (fun j => nI (dO j))), ((qa 19), iA G 30 (fun j => nI (sk j))), ((qa 21), iA G 31 (fun j => nI (zs j))), ((qa 22), iA G 31 (fun j => nI (zn j))), ((qa 23), iA G 31 zv)] sz) := by
  refine Met.ofW (cc := cX8_pieces) (maxL := 2) (ret := (some .int)) (by decide) rfl ?_
  intro p e s m args below meth c s₁ B hml hv
  obtain ⟨rfl, hsz, hP, hK, hD0⟩ := hv
  have hx := B.exec
  have hb := B.bytes
  have hr := B.returns
  have hts := atoms_spec (ws := wsX8_pieces) B.pre
  have hown : s.vm.findClass RX8 = some m.cls := findClass_of_methodNamed B.named
  have hlocks := B.notSynchronized
  subst hsz
  have hD := hD0.self (sz := s.heap.size)
  unfold WQi
  generalize hAe : va_A [(o, ob 8 (mo n lim np gm gs dm dp pm ns qa)), ((qa 2), iA G 24 (fun j => nI (to j))), ((qa 9), iA G 8 pO), ((qa 11), iA G 192 (fun j => nI (dO j))), ((qa 19), iA G 30 (fun j => nI (sk j))), ((qa 21), iA G 31 (fun j => nI (zs j))), ((qa 22), iA G 31 (fun j => nI (zn j))), ((qa 23), iA G 31 zv)] s.heap.size = A at hD ⊢
  have hA : ∀ q : Nat, s.heap.size ≤ q → A q := fun q h => by rw [← hAe]; exact Or.inr h
  have hl := lv_entry ([.ref o, .int x]) (n := 2) (Nat.le_of_ble_eq_true rfl)
  rw [lg_entry_eq]
  generalize (lg_sl ([.ref o, .int x]) ++ List.replicate (2 - (lg_sl ([.ref o, .int x])).length) Slot.unset).toArray = ls at hl ⊢
  have hl : lv_has ls 2 [(0, .ref o), (1, .int x)] := hl
  refine nameHL (fun H locs hH hL => ?_)
  have hP : PP G [(o, ob 8 (mo n lim np gm gs dm dp pm ns qa)), ((qa 2), iA G 24 (fun j => nI (to j))), ((qa 9), iA G 8 pO), ((qa 11), iA G 192 (fun j => nI (dO j))), ((qa 19), iA G 30 (fun j => nI (sk j))), ((qa 21), iA G 31 (fun j => nI (zs j))), ((qa 22), iA G 31 (fun j => nI (zn j))), ((qa 23), iA G 31 zv)] H := by rw [hH]; exact hP
  have hS : va_S A s.heap H locs := by rw [hH, hL]; exact va_S.rf
  refine lv_aload_n hx hb dX8_pieces_0 rfl (lv_at hl 0 rfl) ?_
  refine lv_iload_n hx hb dX8_pieces_1 rfl (lv_at hl 1 rfl) ?_
  have hP_1 : PP G [(o, ob 8 (mo n lim np gm gs dm dp pm ns qa))] H := hP.sub [0] rfl
  refine csi (va_runV (As := [.int x]) (rest := []) ⟨hx, hb, hml, hown, hts⟩ (c_X8_isPlan G l o (mo n lim np gm gs dm dp pm ns qa) np rfl x (by omega)) (cwV 1 hts gX8_pieces_X8_isPlan rfl rfl rfl (by decide +kernel) ⟨Nat.le_of_ble_eq_true rfl, Nat.le_of_ble_eq_true rfl⟩) (preRV hK hP_1 0 8 rfl rfl) rfl rfl hl.1 rfl (lv_room (Nat.le_of_ble_eq_true rfl)) dX8_pieces_2 ⟨Nat.zero_le _, Nat.zero_le _⟩) (fun r_2 h_3 => ?_)
  rcases h_3 with ⟨rfl, k2, b2, rfl⟩ | ⟨rfl, b2⟩
  · skip
    refine lv_if_ne (tgt := 10) hx hb dX8_pieces_5 (by decide) (fun _ => ?_) (fun c9 => absurd c9 (by decide))
    refine lv_aload_n hx hb dX8_pieces_10 rfl (lv_at hl 0 rfl) ?_
    refine lv_iload_n hx hb dX8_pieces_11 rfl (lv_at hl 1 rfl) ?_
    refine lv_aload_n hx hb dX8_pieces_12 rfl (lv_at hl 0 rfl) ?_
    refine va_get (D := G.1) (ci := 8) (v := .ref (qa 19)) (C := RX8) (T := TX8) (N := 28) hx hb hts (by decide +kernel) hown hK.1 hP 0 rfl rfl 19 (by decide) (hts (.fieldLink RX8 50 "CallNumbersModel" "stack" "[I") (by decide +kernel)) (fun _ h9 => h9) rfl dX8_pieces_13 ?_
    refine lv_iconst (v := nI 0) hx hb dX8_pieces_16 (by decide) ?_
    refine lv_aload_n hx hb dX8_pieces_17 rfl (lv_at hl 0 rfl) ?_
    refine va_get (D := G.1) (ci := 8) (v := .int (nI dp)) (C := RX8) (T := TX8) (N := 28) hx hb hts (by decide +kernel) hown hK.1 hP 0 rfl rfl 18 (by decide) (hts (.fieldLink RX8 143 "CallNumbersModel" "deep" "I") (by decide +kernel)) (fun _ h9 => h9) rfl dX8_pieces_18 ?_
    have hP_4 : PP G [(o, ob 8 (mo n lim np gm gs dm dp pm ns qa)), ((qa 2), iA G 24 (fun j => nI (to j))), ((qa 9), iA G 8 pO), ((qa 11), iA G 192 (fun j => nI (dO j))), ((qa 21), iA G 31 (fun j => nI (zs j))), ((qa 22), iA G 31 (fun j => nI (zn j))), ((qa 23), iA G 31 zv), ((qa 19), iA G 30 (fun j => nI (sk j)))] H := hP.sub [0, 1, 2, 3, 5, 6, 7, 4] rfl
    have hD_5 : va_D A [(o, ob 8 (mo n lim np gm gs dm dp pm ns qa)), ((qa 2), iA G 24 (fun j => nI (to j))), ((qa 9), iA G 8 pO), ((qa 11), iA G 192 (fun j => nI (dO j))), ((qa 21), iA G 31 (fun j => nI (zs j))), ((qa 22), iA G 31 (fun j => nI (zn j))), ((qa 23), iA G 31 zv), ((qa 19), iA G 30 (fun j => nI (sk j)))] := hD.sub [0, 1, 2, 3, 5, 6, 7, 4] (by decide) rfl
    refine cwv (va_runV (As := [.int (nI k2), .ref (qa 19), .int (nI 0), .int (nI dp)]) (rest := []) ⟨hx, hb, hml, hown, hts⟩ (c_X8_codes G l o n lim np gm gs dm dp pm ns qa to pO dO zs zn zv (qa 19) 30 sk k2 0 dp (by omega) (by omega) (by omega) (by omega) (fun j hj => by rw [Nat.zero_add]; exact hrow j hj) H.size) (cwV 4 hts gX8_pieces_X8_codes rfl rfl rfl (by decide +kernel) ⟨Nat.le_of_ble_eq_true rfl, Nat.le_of_ble_eq_true rfl⟩) (preWV hK hP_4 hD_5 0 8 rfl rfl) rfl rfl hl.1 rfl (lv_room (Nat.le_of_ble_eq_true rfl)) dX8_pieces_21 ⟨Nat.zero_le _, Nat.zero_le _⟩) hS hA hP hD [0, 1, 2, 3, 5, 6, 7, 4] rfl (fun _ => rfl) (fun u_7 H locs h_8 hP hD hS => ?_)
    have hP : PP G [(o, ob 8 (mo n lim np gm gs dm dp ((codeA (pO k2) (fun j => dO (24 * k2 + j)) to (fun j => sk (0 + j)) zs zn zv dp).1) ns qa)), ((qa 2), iA G 24 (fun j => nI (to j))), ((qa 9), iA G 8 pO), ((qa 11), iA G 192 (fun j => nI (dO j))), ((qa 19), iA G 30 (fun j => nI (sk j))), ((qa 21), iA G 31 (fun j => nI ((codeA (pO k2) (fun j => dO (24 * k2 + j)) to (fun j => sk (0 + j)) zs zn zv dp).2.1 j))), ((qa 22), iA G 31 (fun j => nI ((codeA (pO k2) (fun j => dO (24 * k2 + j)) to (fun j => sk (0 + j)) zs zn zv dp).2.2.1 j))), ((qa 23), iA G 31 ((codeA (pO k2) (fun j => dO (24 * k2 + j)) to (fun j => sk (0 + j)) zs zn zv dp).2.2.2))] H := hP
    have hD : va_D A [(o, ob 8 (mo n lim np gm gs dm dp ((codeA (pO k2) (fun j => dO (24 * k2 + j)) to (fun j => sk (0 + j)) zs zn zv dp).1) ns qa)), ((qa 2), iA G 24 (fun j => nI (to j))), ((qa 9), iA G 8 pO), ((qa 11), iA G 192 (fun j => nI (dO j))), ((qa 19), iA G 30 (fun j => nI (sk j))), ((qa 21), iA G 31 (fun j => nI ((codeA (pO k2) (fun j => dO (24 * k2 + j)) to (fun j => sk (0 + j)) zs zn zv dp).2.1 j))), ((qa 22), iA G 31 (fun j => nI ((codeA (pO k2) (fun j => dO (24 * k2 + j)) to (fun j => sk (0 + j)) zs zn zv dp).2.2.1 j))), ((qa 23), iA G 31 ((codeA (pO k2) (fun j => dO (24 * k2 + j)) to (fun j => sk (0 + j)) zs zn zv dp).2.2.2))] := hD
    refine lv_aload_n hx hb dX8_pieces_24 rfl (lv_at hl 0 rfl) ?_
    refine va_get (D := G.1) (ci := 8) (v := .int (nI ((codeA (pO k2) (fun j => dO (24 * k2 + j)) to (fun j => sk (0 + j)) zs zn zv dp).1))) (C := RX8) (T := TX8) (N := 28) hx hb hts (by decide +kernel) hown hK.1 hP 0 rfl rfl 20 (by decide) (hts (.fieldLink RX8 150 "CallNumbersModel" "pieceMany" "I") (by decide +kernel)) (fun _ h9 => h9) rfl dX8_pieces_25 ?_
    exact W.iret (v := nI ((codeA (pO k2) (fun j => dO (24 * k2 + j)) to (fun j => sk (0 + j)) zs zn zv dp).1)) hx hb hr (fun t ht _ => ⟨⟨nI ((codeA (pO k2) (fun j => dO (24 * k2 + j)) to (fun j => sk (0 + j)) zs zn zv dp).1), (codeA (pO k2) (fun j => dO (24 * k2 + j)) to (fun j => sk (0 + j)) zs zn zv dp), rfl, by simp [-Nat.zero_add, A_pieces, ix_in b2 (show np < 2 ^ 31 by omega)], by rw [ht]; exact hP, hD⟩, hS.F ht⟩) hS.2.2 dX8_pieces_28
  · skip
    refine lv_if_ne (tgt := 10) hx hb dX8_pieces_5 (by decide) (fun c9 => absurd c9 (by decide)) (fun _ => ?_)
    refine lv_iconst (v := (-1)) hx hb dX8_pieces_8 (by decide) ?_
    exact W.iret (v := (-1)) hx hb hr (fun t ht _ => ⟨⟨(-1), (pm, zs, zn, zv), rfl, by simp [-Nat.zero_add, A_pieces, ix_out b2], by rw [ht]; exact hP, hD⟩, hS.F ht⟩) hS.2.2 dX8_pieces_9
set_option maxHeartbeats 4000000 in
set_option maxRecDepth 100000 in
theorem c_X8_snap (G : GG) (l : Launch) (o n lim np gm : Nat) (gs : Int32) (dm dp pm ns : Nat) (qa : Nat → Nat) (sk : Nat → Nat) (sP : Nat → Nat) (sD : Nat → Nat) (sS : Nat → Nat)  (hp1 : 1 ≤ np) (hp : np ≤ 8) (hs : ns ≤ 10) (hd : dp ≤ 30) (sz : Nat) : Met l yX8_snap wsX8_snap { frames := 0, cells := 0, slots := 0, locals := 0 } (WPc G [.ref o] [(o, ob 8 (mo n lim np gm gs dm dp pm ns qa)), ((qa 19), iA G 30 (fun j => nI (sk j))), ((qa 25), iA G 10 (fun j => nI (sP j))), ((qa 26), iA G 10 (fun j => nI (sD j))), ((qa 27), iA G 300 (fun j => nI (sS j)))] sz) (WQi G [(o, ob 8 (mo n lim np gm gs dm dp pm ns qa)), ((qa 19), iA G 30 (fun j => nI (sk j))), ((qa 25), iA G 10 (fun j => nI (sP j))), ((qa 26), iA G 10 (fun j => nI (sD j))), ((qa 27), iA G 300 (fun j => nI (sS j)))] sz (fun (r : Int32) (u : Nat × (Nat → Nat) × (Nat → Nat) × (Nat → Nat)) => SnapR np dp sk ns sP sD sS r u) (fun u => [(o, ob 8 (mo n lim np gm gs dm dp pm u.1 qa)), ((qa 19), iA G 30 (fun j => nI (sk j))), ((qa 25), iA G 10 (fun j => nI (u.2.1 j))), ((qa 26), iA G 10 (fun j => nI (u.2.2.1 j))), ((qa 27), iA G 300 (fun j => nI (u.2.2.2 j)))])) 0 0 (va_A [(o, ob 8 (mo n lim np gm gs dm dp pm ns qa)), ((qa 19), iA G 30 (fun j => nI (sk j))), ((qa 25), iA G 10 (fun j => nI (sP j))), ((qa 26), iA G 10 (fun j => nI (sD j))), ((qa 27), iA G 300 (fun j => nI (sS j)))] sz) := by
  refine Met.ofW (cc := cX8_snap) (maxL := 2) (ret := (some .int)) (by decide) rfl ?_
  intro p e s m args below meth c s₁ B hml hv
  obtain ⟨rfl, hsz, hP, hK, hD0⟩ := hv
  have hx := B.exec
  have hb := B.bytes
  have hr := B.returns
  have hts := atoms_spec (ws := wsX8_snap) B.pre
  have hown : s.vm.findClass RX8 = some m.cls := findClass_of_methodNamed B.named
  have hlocks := B.notSynchronized
  subst hsz
  have hD := hD0.self (sz := s.heap.size)
  unfold WQi
  generalize hAe : va_A [(o, ob 8 (mo n lim np gm gs dm dp pm ns qa)), ((qa 19), iA G 30 (fun j => nI (sk j))), ((qa 25), iA G 10 (fun j => nI (sP j))), ((qa 26), iA G 10 (fun j => nI (sD j))), ((qa 27), iA G 300 (fun j => nI (sS j)))] s.heap.size = A at hD ⊢
  have hA : ∀ q : Nat, s.heap.size ≤ q → A q := fun q h => by rw [← hAe]; exact Or.inr h
  have hl := lv_entry ([.ref o]) (n := 2) (Nat.le_of_ble_eq_true rfl)
  rw [lg_entry_eq]
  generalize (lg_sl ([.ref o]) ++ List.replicate (2 - (lg_sl ([.ref o])).length) Slot.unset).toArray = ls at hl ⊢
  have hl : lv_has ls 2 [(0, .ref o)] := hl
  refine nameHL (fun H locs hH hL => ?_)
  have hP : PP G [(o, ob 8 (mo n lim np gm gs dm dp pm ns qa)), ((qa 19), iA G 30 (fun j => nI (sk j))), ((qa 25), iA G 10 (fun j => nI (sP j))), ((qa 26), iA G 10 (fun j => nI (sD j))), ((qa 27), iA G 300 (fun j => nI (sS j)))] H := by rw [hH]; exact hP
  have hS : va_S A s.heap H locs := by rw [hH, hL]; exact va_S.rf
  refine lv_aload_n hx hb dX8_snap_0 rfl (lv_at hl 0 rfl) ?_
  refine va_get (D := G.1) (ci := 8) (v := .int (nI ns)) (C := RX8) (T := TX8) (N := 28) hx hb hts (by decide +kernel) hown hK.1 hP 0 rfl rfl 24 (by decide) (hts (.fieldLink RX8 160 "CallNumbersModel" "snaps" "I") (by decide +kernel)) (fun _ h9 => h9) rfl dX8_snap_1 ?_
  refine lv_bipush (v := nI 10) hx hb dX8_snap_4 (by decide) ?_
  refine lv_icmp_ne (tgt := 12) hx hb dX8_snap_6 (by decide) (fun c6 => ?_) (fun c6 => ?_)
  · skip
    have c6 := mt (nI_eq (a := ns) (b := 10) (by omega) (by omega)).mpr c6
    refine lv_aload_n hx hb dX8_snap_12 rfl (lv_at hl 0 rfl) ?_
    refine va_get (D := G.1) (ci := 8) (v := .ref (qa 25)) (C := RX8) (T := TX8) (N := 28) hx hb hts (by decide +kernel) hown hK.1 hP 0 rfl rfl 25 (by decide) (hts (.fieldLink RX8 62 "CallNumbersModel" "snapPlan" "[I") (by decide +kernel)) (fun _ h9 => h9) rfl dX8_snap_13 ?_
    refine lv_aload_n hx hb dX8_snap_16 rfl (lv_at hl 0 rfl) ?_
    refine va_get (D := G.1) (ci := 8) (v := .int (nI ns)) (C := RX8) (T := TX8) (N := 28) hx hb hts (by decide +kernel) hown hK.1 hP 0 rfl rfl 24 (by decide) (hts (.fieldLink RX8 160 "CallNumbersModel" "snaps" "I") (by decide +kernel)) (fun _ h9 => h9) rfl dX8_snap_17 ?_
    refine lv_aload_n hx hb dX8_snap_20 rfl (lv_at hl 0 rfl) ?_
    refine va_get (D := G.1) (ci := 8) (v := .int (nI np)) (C := RX8) (T := TX8) (N := 28) hx hb hts (by decide +kernel) hown hK.1 hP 0 rfl rfl 4 (by decide) (hts (.fieldLink RX8 89 "CallNumbersModel" "plans" "I") (by decide +kernel)) (fun _ h9 => h9) rfl dX8_snap_21 ?_
    refine lv_iconst (v := nI 1) hx hb dX8_snap_24 (by decide) ?_
    refine lv_isub hx hb dX8_snap_25 ?_
    refine lv_topi (fun v ev => ?_)
    obtain rfl : v = nI (np - 1) := ev.trans (pk_sub (by omega))
    refine iastN (k := ns) (f := sP) (x := np - 1) hx hb hK.1 hP hD hS 2 0 rfl rfl (rfl) (by omega) (Nat.le_of_ble_eq_true rfl) dX8_snap_26 (fun H locs hP hD hS => ?_)
    have hP : PP G [(o, ob 8 (mo n lim np gm gs dm dp pm ns qa)), ((qa 19), iA G 30 (fun j => nI (sk j))), ((qa 25), iA G 10 (fun j => nI ((va_up sP ns (np - 1)) j))), ((qa 26), iA G 10 (fun j => nI (sD j))), ((qa 27), iA G 300 (fun j => nI (sS j)))] H := hP
    have hD : va_D A [(o, ob 8 (mo n lim np gm gs dm dp pm ns qa)), ((qa 19), iA G 30 (fun j => nI (sk j))), ((qa 25), iA G 10 (fun j => nI ((va_up sP ns (np - 1)) j))), ((qa 26), iA G 10 (fun j => nI (sD j))), ((qa 27), iA G 300 (fun j => nI (sS j)))] := hD
    refine lv_aload_n hx hb dX8_snap_27 rfl (lv_at hl 0 rfl) ?_
    refine va_get (D := G.1) (ci := 8) (v := .ref (qa 26)) (C := RX8) (T := TX8) (N := 28) hx hb hts (by decide +kernel) hown hK.1 hP 0 rfl rfl 26 (by decide) (hts (.fieldLink RX8 65 "CallNumbersModel" "snapDeep" "[I") (by decide +kernel)) (fun _ h9 => h9) rfl dX8_snap_28 ?_
    refine lv_aload_n hx hb dX8_snap_31 rfl (lv_at hl 0 rfl) ?_
    refine va_get (D := G.1) (ci := 8) (v := .int (nI ns)) (C := RX8) (T := TX8) (N := 28) hx hb hts (by decide +kernel) hown hK.1 hP 0 rfl rfl 24 (by decide) (hts (.fieldLink RX8 160 "CallNumbersModel" "snaps" "I") (by decide +kernel)) (fun _ h9 => h9) rfl dX8_snap_32 ?_
    refine lv_aload_n hx hb dX8_snap_35 rfl (lv_at hl 0 rfl) ?_
    refine va_get (D := G.1) (ci := 8) (v := .int (nI dp)) (C := RX8) (T := TX8) (N := 28) hx hb hts (by decide +kernel) hown hK.1 hP 0 rfl rfl 18 (by decide) (hts (.fieldLink RX8 143 "CallNumbersModel" "deep" "I") (by decide +kernel)) (fun _ h9 => h9) rfl dX8_snap_36 ?_
    refine iastN (k := ns) (f := sD) (x := dp) hx hb hK.1 hP hD hS 3 0 rfl rfl (rfl) (by omega) (Nat.le_of_ble_eq_true rfl) dX8_snap_39 (fun H locs hP hD hS => ?_)
    have hP : PP G [(o, ob 8 (mo n lim np gm gs dm dp pm ns qa)), ((qa 19), iA G 30 (fun j => nI (sk j))), ((qa 25), iA G 10 (fun j => nI ((va_up sP ns (np - 1)) j))), ((qa 26), iA G 10 (fun j => nI ((va_up sD ns dp) j))), ((qa 27), iA G 300 (fun j => nI (sS j)))] H := hP
    have hD : va_D A [(o, ob 8 (mo n lim np gm gs dm dp pm ns qa)), ((qa 19), iA G 30 (fun j => nI (sk j))), ((qa 25), iA G 10 (fun j => nI ((va_up sP ns (np - 1)) j))), ((qa 26), iA G 10 (fun j => nI ((va_up sD ns dp) j))), ((qa 27), iA G 300 (fun j => nI (sS j)))] := hD
    refine lv_iconst (v := nI 0) hx hb dX8_snap_40 (by decide) ?_
    refine lv_istore_n (lv' := [(1, .int (nI 0)), (0, .ref o)]) hx hb dX8_snap_41 rfl hl (by decide) rfl (fun ls hl => ?_)
    have loop_1 : ∀ (N : Nat) (i : Nat) (f : Nat → Nat), (i ≤ dp) → (∀ j, j < i → f (30 * ns + j) = sk j) → (∀ j, j < 30 * ns ∨ 30 * ns + i ≤ j → f j = sS j) → (dp - i) < N → ∀ (H : Heap) (locs : List Loc), PP G [(o, ob 8 (mo n lim np gm gs dm dp pm ns qa)), ((qa 19), iA G 30 (fun j => nI (sk j))), ((qa 25), iA G 10 (fun j => nI ((va_up sP ns (np - 1)) j))), ((qa 26), iA G 10 (fun j => nI ((va_up sD ns dp) j))), ((qa 27), iA G 300 (fun j => nI (f j)))] H → va_D A [(o, ob 8 (mo n lim np gm gs dm dp pm ns qa)), ((qa 19), iA G 30 (fun j => nI (sk j))), ((qa 25), iA G 10 (fun j => nI ((va_up sP ns (np - 1)) j))), ((qa 26), iA G 10 (fun j => nI ((va_up sD ns dp) j))), ((qa 27), iA G 300 (fun j => nI (f j)))] → va_S A s.heap H locs → ∀ (ls : Array Slot), lv_has ls 2 [(0, .ref o), (1, .int (nI i))] → W p l e (headSpec wsX8_snap { frames := 0, cells := 0, slots := 0, locals := 0 }).room s m ([.ref o]).toArray below meth c H locs 0 0 (MQ below (va_Qi (fun (r : Int32) (u : Nat × (Nat → Nat) × (Nat → Nat) × (Nat → Nat)) => SnapR np dp sk ns sP sD sS r u) (fun (u : Nat × (Nat → Nat) × (Nat → Nat) × (Nat → Nat)) (t : State) => PP G ([(o, ob 8 (mo n lim np gm gs dm dp pm u.1 qa)), ((qa 19), iA G 30 (fun j => nI (sk j))), ((qa 25), iA G 10 (fun j => nI (u.2.1 j))), ((qa 26), iA G 10 (fun j => nI (u.2.2.1 j))), ((qa 27), iA G 300 (fun j => nI (u.2.2.2 j)))]) t.heap ∧ va_D A ([(o, ob 8 (mo n lim np gm gs dm dp pm u.1 qa)), ((qa 19), iA G 30 (fun j => nI (sk j))), ((qa 25), iA G 10 (fun j => nI (u.2.1 j))), ((qa 26), iA G 10 (fun j => nI (u.2.2.1 j))), ((qa 27), iA G 300 (fun j => nI (u.2.2.2 j)))])) A) ([.ref o]).toArray s 0 0 A) (F0 m 42 ls []) := by
      intro N
      induction N with
      | zero =>
        intro i f hi hf1 hf2 hm
        exact absurd hm (Nat.not_lt_zero _)
      | succ N ih =>
        intro i f hi hf1 hf2 hm H locs hP hD hS ls hl
        refine lv_iload_n hx hb dX8_snap_42 rfl (lv_at hl 1 rfl) ?_
        refine lv_aload_n hx hb dX8_snap_43 rfl (lv_at hl 0 rfl) ?_
        refine va_get (D := G.1) (ci := 8) (v := .int (nI dp)) (C := RX8) (T := TX8) (N := 28) hx hb hts (by decide +kernel) hown hK.1 hP 0 rfl rfl 18 (by decide) (hts (.fieldLink RX8 143 "CallNumbersModel" "deep" "I") (by decide +kernel)) (fun _ h9 => h9) rfl dX8_snap_44 ?_
        refine lv_icmp_ge (tgt := 76) hx hb dX8_snap_47 (by decide) (fun c47 => ?_) (fun c47 => ?_)
        · skip
          have c47 := Nat.not_lt.mpr ((nI_leI (a := dp) (b := i) (by omega) (by omega)).mp c47)
          refine lv_aload_n hx hb dX8_snap_76 rfl (lv_at hl 0 rfl) ?_
          refine lv_dup hx hb dX8_snap_77 rfl ?_
          refine va_get (D := G.1) (ci := 8) (v := .int (nI ns)) (C := RX8) (T := TX8) (N := 28) hx hb hts (by decide +kernel) hown hK.1 hP 0 rfl rfl 24 (by decide) (hts (.fieldLink RX8 160 "CallNumbersModel" "snaps" "I") (by decide +kernel)) (fun _ h9 => h9) rfl dX8_snap_78 ?_
          refine lv_iconst (v := nI 1) hx hb dX8_snap_81 (by decide) ?_
          refine lv_iadd hx hb dX8_snap_82 ?_
          refine lv_topi (fun v ev => ?_)
          obtain rfl : v = nI (ns + 1) := ev.trans (nI_add _ _)
          refine va_put (D := G.1) (ci := 8) (v := .int (nI (ns + 1))) (ty := .int) (C := RX8) (T := TX8) (N := 28) hx hb hts (by decide +kernel) tyX8 tyX8_ok nmX8 hown hK.1 hP hD hS 0 rfl rfl 24 (by decide) (hts (.fieldLink RX8 160 "CallNumbersModel" "snaps" "I") (by decide +kernel)) (fun _ h9 => h9) rfl (by decide +kernel) rfl rfl (Nat.le_of_ble_eq_true rfl) dX8_snap_83 (fun H locs hP hD hS => ?_)
          have hP : PP G [(o, ob 8 (mo n lim np gm gs dm dp pm (ns + 1) qa)), ((qa 19), iA G 30 (fun j => nI (sk j))), ((qa 25), iA G 10 (fun j => nI ((va_up sP ns (np - 1)) j))), ((qa 26), iA G 10 (fun j => nI ((va_up sD ns dp) j))), ((qa 27), iA G 300 (fun j => nI (f j)))] H := hP
          have hD : va_D A [(o, ob 8 (mo n lim np gm gs dm dp pm (ns + 1) qa)), ((qa 19), iA G 30 (fun j => nI (sk j))), ((qa 25), iA G 10 (fun j => nI ((va_up sP ns (np - 1)) j))), ((qa 26), iA G 10 (fun j => nI ((va_up sD ns dp) j))), ((qa 27), iA G 300 (fun j => nI (f j)))] := hD
          refine lv_aload_n hx hb dX8_snap_86 rfl (lv_at hl 0 rfl) ?_
          refine va_get (D := G.1) (ci := 8) (v := .int (nI (ns + 1))) (C := RX8) (T := TX8) (N := 28) hx hb hts (by decide +kernel) hown hK.1 hP 0 rfl rfl 24 (by decide) (hts (.fieldLink RX8 160 "CallNumbersModel" "snaps" "I") (by decide +kernel)) (fun _ h9 => h9) rfl dX8_snap_87 ?_
          refine lv_iconst (v := nI 1) hx hb dX8_snap_90 (by decide) ?_
          refine lv_isub hx hb dX8_snap_91 ?_
          refine lv_topi (fun v ev => ?_)
          obtain rfl : v = nI ns := ev.trans (pk_sub (by omega))
          exact W.iret (v := nI ns) hx hb hr (fun t ht _ => ⟨⟨nI ns, (ns + 1, va_up sP ns (np - 1), va_up sD ns dp, f), rfl, Or.inr ⟨c6, rfl, rfl, rfl, rfl, fun j hj => hf1 j (by omega), fun j hj => hf2 j (by omega)⟩, by rw [ht]; exact hP, hD⟩, hS.F ht⟩) hS.2.2 dX8_snap_92
        · skip
          have c47 := Nat.not_le.mp (mt (nI_leI (a := dp) (b := i) (by omega) (by omega)).mpr c47)
          refine lv_aload_n hx hb dX8_snap_50 rfl (lv_at hl 0 rfl) ?_
          refine va_get (D := G.1) (ci := 8) (v := .ref (qa 27)) (C := RX8) (T := TX8) (N := 28) hx hb hts (by decide +kernel) hown hK.1 hP 0 rfl rfl 27 (by decide) (hts (.fieldLink RX8 68 "CallNumbersModel" "snapStack" "[I") (by decide +kernel)) (fun _ h9 => h9) rfl dX8_snap_51 ?_
          refine lv_bipush (v := nI 30) hx hb dX8_snap_54 (by decide) ?_
          refine lv_aload_n hx hb dX8_snap_56 rfl (lv_at hl 0 rfl) ?_
          refine va_get (D := G.1) (ci := 8) (v := .int (nI ns)) (C := RX8) (T := TX8) (N := 28) hx hb hts (by decide +kernel) hown hK.1 hP 0 rfl rfl 24 (by decide) (hts (.fieldLink RX8 160 "CallNumbersModel" "snaps" "I") (by decide +kernel)) (fun _ h9 => h9) rfl dX8_snap_57 ?_
          refine lv_imul hx hb dX8_snap_60 ?_
          refine lv_topi (fun v ev => ?_)
          obtain rfl : v = nI (30 * ns) := ev.trans (pk_mul _ _)
          refine lv_iload_n hx hb dX8_snap_61 rfl (lv_at hl 1 rfl) ?_
          refine lv_iadd hx hb dX8_snap_62 ?_
          refine lv_topi (fun v ev => ?_)
          obtain rfl : v = nI ((30 * ns) + i) := ev.trans (nI_add _ _)
          refine lv_aload_n hx hb dX8_snap_63 rfl (lv_at hl 0 rfl) ?_
          refine va_get (D := G.1) (ci := 8) (v := .ref (qa 19)) (C := RX8) (T := TX8) (N := 28) hx hb hts (by decide +kernel) hown hK.1 hP 0 rfl rfl 19 (by decide) (hts (.fieldLink RX8 50 "CallNumbersModel" "stack" "[I") (by decide +kernel)) (fun _ h9 => h9) rfl dX8_snap_64 ?_
          refine lv_iload_n hx hb dX8_snap_67 rfl (lv_at hl 1 rfl) ?_
          refine ialdN (k := i) (f := sk) hx hb hK.1 hP 1 0 rfl rfl (rfl) (by omega) (Nat.le_of_ble_eq_true rfl) dX8_snap_68 ?_
          refine iastN (k := (30 * ns) + i) (f := f) (x := sk i) hx hb hK.1 hP hD hS 4 0 rfl rfl (rfl) (by omega) (Nat.le_of_ble_eq_true rfl) dX8_snap_69 (fun H locs hP hD hS => ?_)
          have hP : PP G [(o, ob 8 (mo n lim np gm gs dm dp pm ns qa)), ((qa 19), iA G 30 (fun j => nI (sk j))), ((qa 25), iA G 10 (fun j => nI ((va_up sP ns (np - 1)) j))), ((qa 26), iA G 10 (fun j => nI ((va_up sD ns dp) j))), ((qa 27), iA G 300 (fun j => nI ((va_up f ((30 * ns) + i) (sk i)) j)))] H := hP
          have hD : va_D A [(o, ob 8 (mo n lim np gm gs dm dp pm ns qa)), ((qa 19), iA G 30 (fun j => nI (sk j))), ((qa 25), iA G 10 (fun j => nI ((va_up sP ns (np - 1)) j))), ((qa 26), iA G 10 (fun j => nI ((va_up sD ns dp) j))), ((qa 27), iA G 300 (fun j => nI ((va_up f ((30 * ns) + i) (sk i)) j)))] := hD
          refine lv_iinc (v := nI (i + 1)) (lv' := [(1, .int (nI (i + 1))), (0, .ref o)]) hx hb dX8_snap_70 hl (k := 1) rfl (iinc1 i) (by decide) rfl (fun ls hl => ?_)
          refine lv_goto (tgt := 42) hx hb dX8_snap_73 (by decide) ?_
          exact ih (i + 1) (va_up f ((30 * ns) + i) (sk i)) (by omega) (fun j hj => by unfold va_up; split; rw [show j = i by omega]; exact hf1 j (by omega)) (fun j hj => by rw [va_up_ne _ _ (by omega)]; exact hf2 j (by omega)) (by omega) H locs hP hD hS ls (lv_sub hl [1, 0] rfl)
    exact loop_1 _ 0 sS (Nat.zero_le _) (lt_0) (fun _ _ => rfl) (Nat.lt_succ_self _) H locs hP hD hS ls (lv_sub hl [1, 0] rfl)
  · skip
    have c6 := (nI_eq (a := ns) (b := 10) (by omega) (by omega)).mp c6
    refine lv_bipush (v := (-4)) hx hb dX8_snap_9 (by decide) ?_
    exact W.iret (v := (-4)) hx hb hr (fun t ht _ => ⟨⟨(-4), (ns, sP, sD, sS), rfl, Or.inl ⟨c6, rfl, rfl⟩, by rw [ht]; exact hP, hD⟩, hS.F ht⟩) hS.2.2 dX8_snap_11
set_option maxHeartbeats 4000000 in
set_option maxRecDepth 100000 in
theorem c_X8_ofSnap (G : GG) (l : Launch) (o n lim np gm : Nat) (gs : Int32) (dm dp pm ns : Nat) (qa : Nat → Nat) (to : Nat → Nat) (pO : Nat → Int32) (dO : Nat → Nat) (zs : Nat → Nat) (zn : Nat → Nat) (zv : Nat → Int32) (sP : Nat → Nat) (sD : Nat → Nat) (sS : Nat → Nat) (x y : Int32) (hs : ns ≤ 10) (hsd : ∀ k, k < ns → sD k ≤ 30) (hsp : ∀ k, k < ns → sP k < 8) (hsr : ∀ k, k < ns → ∀ j, j < sD k → sS (30 * k + j) < 24) (sz : Nat) : Met l yX8_ofSnap wsX8_ofSnap { frames := 3, cells := 0, slots := 0, locals := 69 } (WPc G [.ref o, .int x, .int y] [(o, ob 8 (mo n lim np gm gs dm dp pm ns qa)), ((qa 2), iA G 24 (fun j => nI (to j))), ((qa 9), iA G 8 pO), ((qa 11), iA G 192 (fun j => nI (dO j))), ((qa 21), iA G 31 (fun j => nI (zs j))), ((qa 22), iA G 31 (fun j => nI (zn j))), ((qa 23), iA G 31 zv), ((qa 25), iA G 10 (fun j => nI (sP j))), ((qa 26), iA G 10 (fun j => nI (sD j))), ((qa 27), iA G 300 (fun j => nI (sS j)))] sz) (WQi G [(o, ob 8 (mo n lim np gm gs dm dp pm ns qa)), ((qa 2), iA G 24 (fun j => nI (to j))), ((qa 9), iA G 8 pO), ((qa 11), iA G 192 (fun j => nI (dO j))), ((qa 21), iA G 31 (fun j => nI (zs j))), ((qa 22), iA G 31 (fun j => nI (zn j))), ((qa 23), iA G 31 zv), ((qa 25), iA G 10 (fun j => nI (sP j))), ((qa 26), iA G 10 (fun j => nI (sD j))), ((qa 27), iA G 300 (fun j => nI (sS j)))] sz (fun (r : Int32) (u : Nat × (Nat → Nat) × (Nat → Nat) × (Nat → Int32)) => r = A_ofSnap ns sP (fun k => if sD k = 0 then 0 else to (sS (30 * k + sD k - 1))) (fun k => ((fun k => codeA (pO (sP k)) (fun j => dO (24 * sP k + j)) to (fun j => sS (30 * k + j)) zs zn zv (sD k)) k).1) (fun k => ((fun k => codeA (pO (sP k)) (fun j => dO (24 * sP k + j)) to (fun j => sS (30 * k + j)) zs zn zv (sD k)) k).2.2.1 (((fun k => codeA (pO (sP k)) (fun j => dO (24 * sP k + j)) to (fun j => sS (30 * k + j)) zs zn zv (sD k)) k).1 - 1)) sD x y) (fun u => [(o, ob 8 (mo n lim np gm gs dm dp u.1 ns qa)), ((qa 2), iA G 24 (fun j => nI (to j))), ((qa 9), iA G 8 pO), ((qa 11), iA G 192 (fun j => nI (dO j))), ((qa 21), iA G 31 (fun j => nI (u.2.1 j))), ((qa 22), iA G 31 (fun j => nI (u.2.2.1 j))), ((qa 23), iA G 31 u.2.2.2), ((qa 25), iA G 10 (fun j => nI (sP j))), ((qa 26), iA G 10 (fun j => nI (sD j))), ((qa 27), iA G 300 (fun j => nI (sS j)))])) 0 0 (va_A [(o, ob 8 (mo n lim np gm gs dm dp pm ns qa)), ((qa 2), iA G 24 (fun j => nI (to j))), ((qa 9), iA G 8 pO), ((qa 11), iA G 192 (fun j => nI (dO j))), ((qa 21), iA G 31 (fun j => nI (zs j))), ((qa 22), iA G 31 (fun j => nI (zn j))), ((qa 23), iA G 31 zv), ((qa 25), iA G 10 (fun j => nI (sP j))), ((qa 26), iA G 10 (fun j => nI (sD j))), ((qa 27), iA G 300 (fun j => nI (sS j)))] sz) := by
  refine Met.ofW (cc := cX8_ofSnap) (maxL := 4) (ret := (some .int)) (by decide) rfl ?_
  intro p e s m args below meth c s₁ B hml hv
  obtain ⟨rfl, hsz, hP, hK, hD0⟩ := hv
  have hx := B.exec
  have hb := B.bytes
  have hr := B.returns
  have hts := atoms_spec (ws := wsX8_ofSnap) B.pre
  have hown : s.vm.findClass RX8 = some m.cls := findClass_of_methodNamed B.named
  have hlocks := B.notSynchronized
  subst hsz
  have hD := hD0.self (sz := s.heap.size)
  unfold WQi
  generalize hAe : va_A [(o, ob 8 (mo n lim np gm gs dm dp pm ns qa)), ((qa 2), iA G 24 (fun j => nI (to j))), ((qa 9), iA G 8 pO), ((qa 11), iA G 192 (fun j => nI (dO j))), ((qa 21), iA G 31 (fun j => nI (zs j))), ((qa 22), iA G 31 (fun j => nI (zn j))), ((qa 23), iA G 31 zv), ((qa 25), iA G 10 (fun j => nI (sP j))), ((qa 26), iA G 10 (fun j => nI (sD j))), ((qa 27), iA G 300 (fun j => nI (sS j)))] s.heap.size = A at hD ⊢
  have hA : ∀ q : Nat, s.heap.size ≤ q → A q := fun q h => by rw [← hAe]; exact Or.inr h
  have hl := lv_entry ([.ref o, .int x, .int y]) (n := 4) (Nat.le_of_ble_eq_true rfl)
  rw [lg_entry_eq]
  generalize (lg_sl ([.ref o, .int x, .int y]) ++ List.replicate (4 - (lg_sl ([.ref o, .int x, .int y])).length) Slot.unset).toArray = ls at hl ⊢
  have hl : lv_has ls 4 [(0, .ref o), (1, .int x), (2, .int y)] := hl
  refine nameHL (fun H locs hH hL => ?_)
  have hP : PP G [(o, ob 8 (mo n lim np gm gs dm dp pm ns qa)), ((qa 2), iA G 24 (fun j => nI (to j))), ((qa 9), iA G 8 pO), ((qa 11), iA G 192 (fun j => nI (dO j))), ((qa 21), iA G 31 (fun j => nI (zs j))), ((qa 22), iA G 31 (fun j => nI (zn j))), ((qa 23), iA G 31 zv), ((qa 25), iA G 10 (fun j => nI (sP j))), ((qa 26), iA G 10 (fun j => nI (sD j))), ((qa 27), iA G 300 (fun j => nI (sS j)))] H := by rw [hH]; exact hP
  have hS : va_S A s.heap H locs := by rw [hH, hL]; exact va_S.rf
  refine lv_aload_n hx hb dX8_ofSnap_0 rfl (lv_at hl 0 rfl) ?_
  refine lv_iload_n hx hb dX8_ofSnap_1 rfl (lv_at hl 1 rfl) ?_
  have hP_1 : PP G [(o, ob 8 (mo n lim np gm gs dm dp pm ns qa))] H := hP.sub [0] rfl
  refine csi (va_runV (As := [.int x]) (rest := []) ⟨hx, hb, hml, hown, hts⟩ (c_X8_isSnap G l o (mo n lim np gm gs dm dp pm ns qa) ns rfl x (by omega)) (cwV 1 hts gX8_ofSnap_X8_isSnap rfl rfl rfl (by decide +kernel) ⟨Nat.le_of_ble_eq_true rfl, Nat.le_of_ble_eq_true rfl⟩) (preRV hK hP_1 0 8 rfl rfl) rfl rfl hl.1 rfl (lv_room (Nat.le_of_ble_eq_true rfl)) dX8_ofSnap_2 ⟨Nat.zero_le _, Nat.zero_le _⟩) (fun r_2 h_3 => ?_)
  rcases h_3 with ⟨rfl, k2, b2, rfl⟩ | ⟨rfl, b2⟩
  · skip
    refine lv_if_ne (tgt := 10) hx hb dX8_ofSnap_5 (by decide) (fun _ => ?_) (fun c9 => absurd c9 (by decide))
    have hsd9 := hsd k2 b2
    have hsp9 := hsp k2 b2
    have hsr9 := hsr k2 b2
    have hcl := codeA_le (pO (sP k2)) (fun j => dO (24 * sP k2 + j)) to (fun j => sS (30 * k2 + j)) zs zn zv (sD k2)
    refine lv_aload_n hx hb dX8_ofSnap_10 rfl (lv_at hl 0 rfl) ?_
    refine va_get (D := G.1) (ci := 8) (v := .ref (qa 26)) (C := RX8) (T := TX8) (N := 28) hx hb hts (by decide +kernel) hown hK.1 hP 0 rfl rfl 26 (by decide) (hts (.fieldLink RX8 65 "CallNumbersModel" "snapDeep" "[I") (by decide +kernel)) (fun _ h9 => h9) rfl dX8_ofSnap_11 ?_
    refine lv_iload_n hx hb dX8_ofSnap_14 rfl (lv_at hl 1 rfl) ?_
    refine ialdN (k := k2) (f := sD) hx hb hK.1 hP 8 0 rfl rfl (rfl) (by omega) (Nat.le_of_ble_eq_true rfl) dX8_ofSnap_15 ?_
    refine lv_istore_n (lv' := [(3, .int (nI (sD k2))), (0, .ref o), (1, .int (nI k2)), (2, .int y)]) hx hb dX8_ofSnap_16 rfl hl (by decide) rfl (fun ls hl => ?_)
    refine lv_aload_n hx hb dX8_ofSnap_17 rfl (lv_at hl 1 rfl) ?_
    refine lv_aload_n hx hb dX8_ofSnap_18 rfl (lv_at hl 1 rfl) ?_
    refine va_get (D := G.1) (ci := 8) (v := .ref (qa 25)) (C := RX8) (T := TX8) (N := 28) hx hb hts (by decide +kernel) hown hK.1 hP 0 rfl rfl 25 (by decide) (hts (.fieldLink RX8 62 "CallNumbersModel" "snapPlan" "[I") (by decide +kernel)) (fun _ h9 => h9) rfl dX8_ofSnap_19 ?_
    refine lv_iload_n hx hb dX8_ofSnap_22 rfl (lv_at hl 2 rfl) ?_
    refine ialdN (k := k2) (f := sP) hx hb hK.1 hP 7 0 rfl rfl (rfl) (by omega) (Nat.le_of_ble_eq_true rfl) dX8_ofSnap_23 ?_
    refine lv_aload_n hx hb dX8_ofSnap_24 rfl (lv_at hl 1 rfl) ?_
    refine va_get (D := G.1) (ci := 8) (v := .ref (qa 27)) (C := RX8) (T := TX8) (N := 28) hx hb hts (by decide +kernel) hown hK.1 hP 0 rfl rfl 27 (by decide) (hts (.fieldLink RX8 68 "CallNumbersModel" "snapStack" "[I") (by decide +kernel)) (fun _ h9 => h9) rfl dX8_ofSnap_25 ?_
    refine lv_bipush (v := nI 30) hx hb dX8_ofSnap_28 (by decide) ?_
    refine lv_iload_n hx hb dX8_ofSnap_30 rfl (lv_at hl 2 rfl) ?_
    refine lv_imul hx hb dX8_ofSnap_31 ?_
    refine lv_topi (fun v ev => ?_)
    obtain rfl : v = nI (30 * k2) := ev.trans (pk_mul _ _)
    refine lv_iload_n hx hb dX8_ofSnap_32 rfl (lv_at hl 0 rfl) ?_
    have hP_4 : PP G [(o, ob 8 (mo n lim np gm gs dm dp pm ns qa)), ((qa 2), iA G 24 (fun j => nI (to j))), ((qa 9), iA G 8 pO), ((qa 11), iA G 192 (fun j => nI (dO j))), ((qa 21), iA G 31 (fun j => nI (zs j))), ((qa 22), iA G 31 (fun j => nI (zn j))), ((qa 23), iA G 31 zv), ((qa 27), iA G 300 (fun j => nI (sS j)))] H := hP.sub [0, 1, 2, 3, 4, 5, 6, 9] rfl
    have hD_5 : va_D A [(o, ob 8 (mo n lim np gm gs dm dp pm ns qa)), ((qa 2), iA G 24 (fun j => nI (to j))), ((qa 9), iA G 8 pO), ((qa 11), iA G 192 (fun j => nI (dO j))), ((qa 21), iA G 31 (fun j => nI (zs j))), ((qa 22), iA G 31 (fun j => nI (zn j))), ((qa 23), iA G 31 zv), ((qa 27), iA G 300 (fun j => nI (sS j)))] := hD.sub [0, 1, 2, 3, 4, 5, 6, 9] (by decide) rfl
    refine cwv (va_runV (As := [.int (nI (sP k2)), .ref (qa 27), .int (nI (30 * k2)), .int (nI (sD k2))]) (rest := []) ⟨hx, hb, hml, hown, hts⟩ (c_X8_codes G l o n lim np gm gs dm dp pm ns qa to pO dO zs zn zv (qa 27) 300 sS (sP k2) (30 * k2) (sD k2) (by omega) (by omega) (by omega) (by omega) (hsr9) H.size) (cwV 4 hts gX8_ofSnap_X8_codes rfl rfl rfl (by decide +kernel) ⟨Nat.le_of_ble_eq_true rfl, Nat.le_of_ble_eq_true rfl⟩) (preWV hK hP_4 hD_5 0 8 rfl rfl) rfl rfl hl.1 rfl (lv_room (Nat.le_of_ble_eq_true rfl)) dX8_ofSnap_33 ⟨Nat.zero_le _, Nat.zero_le _⟩) hS hA hP hD [0, 1, 2, 3, 4, 5, 6, 9] rfl (fun _ => rfl) (fun u_7 H locs h_8 hP hD hS => ?_)
    have hP : PP G [(o, ob 8 (mo n lim np gm gs dm dp ((codeA (pO (sP k2)) (fun j => dO (24 * (sP k2) + j)) to (fun j => sS ((30 * k2) + j)) zs zn zv (sD k2)).1) ns qa)), ((qa 2), iA G 24 (fun j => nI (to j))), ((qa 9), iA G 8 pO), ((qa 11), iA G 192 (fun j => nI (dO j))), ((qa 21), iA G 31 (fun j => nI ((codeA (pO (sP k2)) (fun j => dO (24 * (sP k2) + j)) to (fun j => sS ((30 * k2) + j)) zs zn zv (sD k2)).2.1 j))), ((qa 22), iA G 31 (fun j => nI ((codeA (pO (sP k2)) (fun j => dO (24 * (sP k2) + j)) to (fun j => sS ((30 * k2) + j)) zs zn zv (sD k2)).2.2.1 j))), ((qa 23), iA G 31 ((codeA (pO (sP k2)) (fun j => dO (24 * (sP k2) + j)) to (fun j => sS ((30 * k2) + j)) zs zn zv (sD k2)).2.2.2)), ((qa 25), iA G 10 (fun j => nI (sP j))), ((qa 26), iA G 10 (fun j => nI (sD j))), ((qa 27), iA G 300 (fun j => nI (sS j)))] H := hP
    have hD : va_D A [(o, ob 8 (mo n lim np gm gs dm dp ((codeA (pO (sP k2)) (fun j => dO (24 * (sP k2) + j)) to (fun j => sS ((30 * k2) + j)) zs zn zv (sD k2)).1) ns qa)), ((qa 2), iA G 24 (fun j => nI (to j))), ((qa 9), iA G 8 pO), ((qa 11), iA G 192 (fun j => nI (dO j))), ((qa 21), iA G 31 (fun j => nI ((codeA (pO (sP k2)) (fun j => dO (24 * (sP k2) + j)) to (fun j => sS ((30 * k2) + j)) zs zn zv (sD k2)).2.1 j))), ((qa 22), iA G 31 (fun j => nI ((codeA (pO (sP k2)) (fun j => dO (24 * (sP k2) + j)) to (fun j => sS ((30 * k2) + j)) zs zn zv (sD k2)).2.2.1 j))), ((qa 23), iA G 31 ((codeA (pO (sP k2)) (fun j => dO (24 * (sP k2) + j)) to (fun j => sS ((30 * k2) + j)) zs zn zv (sD k2)).2.2.2)), ((qa 25), iA G 10 (fun j => nI (sP j))), ((qa 26), iA G 10 (fun j => nI (sD j))), ((qa 27), iA G 300 (fun j => nI (sS j)))] := hD
    refine lv_iload_n hx hb dX8_ofSnap_36 rfl (lv_at hl 3 rfl) ?_
    by_cases w37_0 : y = nI 0
    · skip
      subst w37_0
      refine lv_tableIn (tgt := 72) hx hb dX8_ofSnap_37 (by decide) (by decide) (off := 35) rfl (by decide) ?_
      refine lv_aload_n hx hb dX8_ofSnap_72 rfl (lv_at hl 1 rfl) ?_
      refine va_get (D := G.1) (ci := 8) (v := .ref (qa 25)) (C := RX8) (T := TX8) (N := 28) hx hb hts (by decide +kernel) hown hK.1 hP 0 rfl rfl 25 (by decide) (hts (.fieldLink RX8 62 "CallNumbersModel" "snapPlan" "[I") (by decide +kernel)) (fun _ h9 => h9) rfl dX8_ofSnap_73 ?_
      refine lv_iload_n hx hb dX8_ofSnap_76 rfl (lv_at hl 2 rfl) ?_
      refine ialdN (k := k2) (f := sP) hx hb hK.1 hP 7 0 rfl rfl (rfl) (by omega) (Nat.le_of_ble_eq_true rfl) dX8_ofSnap_77 ?_
      exact W.iret (v := nI (sP k2)) hx hb hr (fun t ht _ => ⟨⟨nI (sP k2), (codeA (pO (sP k2)) (fun j => dO (24 * sP k2 + j)) to (fun j => sS (30 * k2 + j)) zs zn zv (sD k2)), rfl, by simp [A_ofSnap, ix_in b2 (show ns < 2 ^ 31 by omega), sw0], by rw [ht]; exact hP, hD⟩, hS.F ht⟩) hS.2.2 dX8_ofSnap_78
    · skip
      by_cases w37_1 : y = nI 1
      · skip
        subst w37_1
        refine lv_tableIn (tgt := 79) hx hb dX8_ofSnap_37 (by decide) (by decide) (off := 42) rfl (by decide) ?_
        refine lv_iload_n hx hb dX8_ofSnap_79 rfl (lv_at hl 0 rfl) ?_
        refine lv_if_ne (tgt := 87) hx hb dX8_ofSnap_80 (by decide) (fun c80 => ?_) (fun c80 => ?_)
        · skip
          have c80 := mt (z_eq (k := sD k2) (by omega)).mpr c80
          refine lv_aload_n hx hb dX8_ofSnap_87 rfl (lv_at hl 1 rfl) ?_
          refine va_get (D := G.1) (ci := 8) (v := .ref (qa 2)) (C := RX8) (T := TX8) (N := 28) hx hb hts (by decide +kernel) hown hK.1 hP 0 rfl rfl 2 (by decide) (hts (.fieldLink RX8 13 "CallNumbersModel" "toOf" "[I") (by decide +kernel)) (fun _ h9 => h9) rfl dX8_ofSnap_88 ?_
          refine lv_aload_n hx hb dX8_ofSnap_91 rfl (lv_at hl 1 rfl) ?_
          refine va_get (D := G.1) (ci := 8) (v := .ref (qa 27)) (C := RX8) (T := TX8) (N := 28) hx hb hts (by decide +kernel) hown hK.1 hP 0 rfl rfl 27 (by decide) (hts (.fieldLink RX8 68 "CallNumbersModel" "snapStack" "[I") (by decide +kernel)) (fun _ h9 => h9) rfl dX8_ofSnap_92 ?_
          refine lv_bipush (v := nI 30) hx hb dX8_ofSnap_95 (by decide) ?_
          refine lv_iload_n hx hb dX8_ofSnap_97 rfl (lv_at hl 2 rfl) ?_
          refine lv_imul hx hb dX8_ofSnap_98 ?_
          refine lv_topi (fun v ev => ?_)
          obtain rfl : v = nI (30 * k2) := ev.trans (pk_mul _ _)
          refine lv_iload_n hx hb dX8_ofSnap_99 rfl (lv_at hl 0 rfl) ?_
          refine lv_iadd hx hb dX8_ofSnap_100 ?_
          refine lv_topi (fun v ev => ?_)
          obtain rfl : v = nI ((30 * k2) + (sD k2)) := ev.trans (nI_add _ _)
          refine lv_iconst (v := nI 1) hx hb dX8_ofSnap_101 (by decide) ?_
          refine lv_isub hx hb dX8_ofSnap_102 ?_
          refine lv_topi (fun v ev => ?_)
          obtain rfl : v = nI (((30 * k2) + (sD k2)) - 1) := ev.trans (pk_sub (by omega))
          refine ialdN (k := ((30 * k2) + (sD k2)) - 1) (f := sS) hx hb hK.1 hP 9 0 rfl rfl (rfl) (by omega) (Nat.le_of_ble_eq_true rfl) dX8_ofSnap_103 ?_
          refine ialdN (k := sS (30 * k2 + sD k2 - 1)) (f := to) hx hb hK.1 hP 1 0 rfl rfl (rfl) (by rw [Nat.add_sub_assoc (by omega)]; exact hsr9 _ (by omega)) (Nat.le_of_ble_eq_true rfl) dX8_ofSnap_104 ?_
          exact W.iret (v := nI (to (sS (30 * k2 + sD k2 - 1)))) hx hb hr (fun t ht _ => ⟨⟨nI (to (sS (30 * k2 + sD k2 - 1))), (codeA (pO (sP k2)) (fun j => dO (24 * sP k2 + j)) to (fun j => sS (30 * k2 + j)) zs zn zv (sD k2)), rfl, by simp [A_ofSnap, ix_in b2 (show ns < 2 ^ 31 by omega), sw0, c80], by rw [ht]; exact hP, hD⟩, hS.F ht⟩) hS.2.2 dX8_ofSnap_105
        · skip
          have c80 := (z_eq (k := sD k2) (by omega)).mp c80
          refine lv_iconst (v := nI 0) hx hb dX8_ofSnap_83 (by decide) ?_
          refine lv_goto (tgt := 105) hx hb dX8_ofSnap_84 (by decide) ?_
          exact W.iret (v := nI 0) hx hb hr (fun t ht _ => ⟨⟨nI 0, (codeA (pO (sP k2)) (fun j => dO (24 * sP k2 + j)) to (fun j => sS (30 * k2 + j)) zs zn zv (sD k2)), rfl, by simp [A_ofSnap, ix_in b2 (show ns < 2 ^ 31 by omega), sw0, c80], by rw [ht]; exact hP, hD⟩, hS.F ht⟩) hS.2.2 dX8_ofSnap_105
      · skip
        by_cases w37_2 : y = nI 2
        · skip
          subst w37_2
          refine lv_tableIn (tgt := 106) hx hb dX8_ofSnap_37 (by decide) (by decide) (off := 69) rfl (by decide) ?_
          refine lv_aload_n hx hb dX8_ofSnap_106 rfl (lv_at hl 1 rfl) ?_
          refine va_get (D := G.1) (ci := 8) (v := .int (nI ((codeA (pO (sP k2)) (fun j => dO (24 * (sP k2) + j)) to (fun j => sS ((30 * k2) + j)) zs zn zv (sD k2)).1))) (C := RX8) (T := TX8) (N := 28) hx hb hts (by decide +kernel) hown hK.1 hP 0 rfl rfl 20 (by decide) (hts (.fieldLink RX8 150 "CallNumbersModel" "pieceMany" "I") (by decide +kernel)) (fun _ h9 => h9) rfl dX8_ofSnap_107 ?_
          exact W.iret (v := nI ((codeA (pO (sP k2)) (fun j => dO (24 * (sP k2) + j)) to (fun j => sS ((30 * k2) + j)) zs zn zv (sD k2)).1)) hx hb hr (fun t ht _ => ⟨⟨nI ((codeA (pO (sP k2)) (fun j => dO (24 * (sP k2) + j)) to (fun j => sS ((30 * k2) + j)) zs zn zv (sD k2)).1), (codeA (pO (sP k2)) (fun j => dO (24 * sP k2 + j)) to (fun j => sS (30 * k2 + j)) zs zn zv (sD k2)), rfl, by simp [A_ofSnap, ix_in b2 (show ns < 2 ^ 31 by omega), sw0], by rw [ht]; exact hP, hD⟩, hS.F ht⟩) hS.2.2 dX8_ofSnap_110
        · skip
          by_cases w37_3 : y = nI 3
          · skip
            subst w37_3
            refine lv_tableIn (tgt := 111) hx hb dX8_ofSnap_37 (by decide) (by decide) (off := 74) rfl (by decide) ?_
            refine lv_aload_n hx hb dX8_ofSnap_111 rfl (lv_at hl 1 rfl) ?_
            refine va_get (D := G.1) (ci := 8) (v := .ref (qa 22)) (C := RX8) (T := TX8) (N := 28) hx hb hts (by decide +kernel) hown hK.1 hP 0 rfl rfl 22 (by decide) (hts (.fieldLink RX8 56 "CallNumbersModel" "numberOf" "[I") (by decide +kernel)) (fun _ h9 => h9) rfl dX8_ofSnap_112 ?_
            refine lv_aload_n hx hb dX8_ofSnap_115 rfl (lv_at hl 1 rfl) ?_
            refine va_get (D := G.1) (ci := 8) (v := .int (nI ((codeA (pO (sP k2)) (fun j => dO (24 * (sP k2) + j)) to (fun j => sS ((30 * k2) + j)) zs zn zv (sD k2)).1))) (C := RX8) (T := TX8) (N := 28) hx hb hts (by decide +kernel) hown hK.1 hP 0 rfl rfl 20 (by decide) (hts (.fieldLink RX8 150 "CallNumbersModel" "pieceMany" "I") (by decide +kernel)) (fun _ h9 => h9) rfl dX8_ofSnap_116 ?_
            refine lv_iconst (v := nI 1) hx hb dX8_ofSnap_119 (by decide) ?_
            refine lv_isub hx hb dX8_ofSnap_120 ?_
            refine lv_topi (fun v ev => ?_)
            obtain rfl : v = nI (((codeA (pO (sP k2)) (fun j => dO (24 * (sP k2) + j)) to (fun j => sS ((30 * k2) + j)) zs zn zv (sD k2)).1) - 1) := ev.trans (pk_sub (by omega))
            refine ialdN (k := ((codeA (pO (sP k2)) (fun j => dO (24 * (sP k2) + j)) to (fun j => sS ((30 * k2) + j)) zs zn zv (sD k2)).1) - 1) (f := (codeA (pO (sP k2)) (fun j => dO (24 * (sP k2) + j)) to (fun j => sS ((30 * k2) + j)) zs zn zv (sD k2)).2.2.1) hx hb hK.1 hP 5 0 rfl rfl (rfl) (by omega) (Nat.le_of_ble_eq_true rfl) dX8_ofSnap_121 ?_
            exact W.iret (v := nI (((codeA (pO (sP k2)) (fun j => dO (24 * (sP k2) + j)) to (fun j => sS ((30 * k2) + j)) zs zn zv (sD k2)).2.2.1) (((codeA (pO (sP k2)) (fun j => dO (24 * (sP k2) + j)) to (fun j => sS ((30 * k2) + j)) zs zn zv (sD k2)).1) - 1))) hx hb hr (fun t ht _ => ⟨⟨nI (((codeA (pO (sP k2)) (fun j => dO (24 * (sP k2) + j)) to (fun j => sS ((30 * k2) + j)) zs zn zv (sD k2)).2.2.1) (((codeA (pO (sP k2)) (fun j => dO (24 * (sP k2) + j)) to (fun j => sS ((30 * k2) + j)) zs zn zv (sD k2)).1) - 1)), (codeA (pO (sP k2)) (fun j => dO (24 * sP k2 + j)) to (fun j => sS (30 * k2 + j)) zs zn zv (sD k2)), rfl, by simp [A_ofSnap, ix_in b2 (show ns < 2 ^ 31 by omega), sw0], by rw [ht]; exact hP, hD⟩, hS.F ht⟩) hS.2.2 dX8_ofSnap_122
          · skip
            by_cases w37_4 : y = nI 4
            · skip
              subst w37_4
              refine lv_tableIn (tgt := 123) hx hb dX8_ofSnap_37 (by decide) (by decide) (off := 86) rfl (by decide) ?_
              refine lv_iload_n hx hb dX8_ofSnap_123 rfl (lv_at hl 0 rfl) ?_
              exact W.iret (v := nI (sD k2)) hx hb hr (fun t ht _ => ⟨⟨nI (sD k2), (codeA (pO (sP k2)) (fun j => dO (24 * sP k2 + j)) to (fun j => sS (30 * k2 + j)) zs zn zv (sD k2)), rfl, by simp [A_ofSnap, ix_in b2 (show ns < 2 ^ 31 by omega), sw0], by rw [ht]; exact hP, hD⟩, hS.F ht⟩) hS.2.2 dX8_ofSnap_124
            · skip
              refine lv_tableOut (tgt := 125) hx hb dX8_ofSnap_37 (tb_out y 4 rfl (fun k hk => by rcases (show k = 0 ∨ k = 1 ∨ k = 2 ∨ k = 3 ∨ k = 4 by omega) with rfl | rfl | rfl | rfl | rfl <;> assumption) (by decide)) (by decide) ?_
              refine lv_bipush (v := (-2)) hx hb dX8_ofSnap_125 (by decide) ?_
              exact W.iret (v := (-2)) hx hb hr (fun t ht _ => ⟨⟨(-2), (codeA (pO (sP k2)) (fun j => dO (24 * sP k2 + j)) to (fun j => sS (30 * k2 + j)) zs zn zv (sD k2)), rfl, by simp [A_ofSnap, ix_in b2 (show ns < 2 ^ 31 by omega), sw0, w37_0, w37_1, w37_2, w37_3, w37_4], by rw [ht]; exact hP, hD⟩, hS.F ht⟩) hS.2.2 dX8_ofSnap_127
  · skip
    refine lv_if_ne (tgt := 10) hx hb dX8_ofSnap_5 (by decide) (fun c9 => absurd c9 (by decide)) (fun _ => ?_)
    refine lv_iconst (v := (-1)) hx hb dX8_ofSnap_8 (by decide) ?_
    exact W.iret (v := (-1)) hx hb hr (fun t ht _ => ⟨⟨(-1), (pm, zs, zn, zv), rfl, by simp [A_ofSnap, ix_out b2], by rw [ht]; exact hP, hD⟩, hS.F ht⟩) hS.2.2 dX8_ofSnap_9
end
section
/-- what a number means: the plain calls, the last first -/
def decF (P : Nat → Nat → Option Nat) (fr ad : Nat → Nat) (stt : Nat) : Nat → Nat → Nat → Option (List Nat)
  | 0, _, _ => none
  | k + 1, a, lf => if a = stt then (if lf = 0 then some [] else none) else match P a lf with
    | none => none
    | some j => (decF P fr ad stt k (fr j) (lf - ad j)).map (fun L => j :: L)
theorem decF_stop {P : Nat → Nat → Option Nat} {fr ad : Nat → Nat} {stt k a lf : Nat} (h : a = stt) : decF P fr ad stt (k + 1) a lf = if lf = 0 then some [] else none := by simp [decF, h]
theorem decF_none {P : Nat → Nat → Option Nat} {fr ad : Nat → Nat} {stt k a lf : Nat} (h : ¬ a = stt) (hP : P a lf = none) : decF P fr ad stt (k + 1) a lf = none := by simp [decF, h, hP]
theorem decF_step {P : Nat → Nat → Option Nat} {fr ad : Nat → Nat} {stt k a lf j : Nat} (h : ¬ a = stt) (hP : P a lf = some j) : decF P fr ad stt (k + 1) a lf = (decF P fr ad stt k (fr j) (lf - ad j)).map (fun L => j :: L) := by simp [decF, h, hP]
theorem lastP_spec {pl : Int32} {ad wy fr to : Nat → Nat} {r num j : Nat} (h : lastP pl ad wy fr to r num j = true) : hbt pl j = true ∧ to j = r ∧ ad j ≤ num ∧ num < ad j + wy (fr j) := by
  simp [lastP] at h
  exact ⟨h.1.1.1, h.1.1.2, h.1.2, h.2⟩
theorem pre_up {pre : List Nat} {f : Nat → Nat} {i j : Nat} (hp : pre.length = i) (hf : ∀ t, t < i → f t = pre.getD t 0) : ∀ t, t < i + 1 → va_up f i j t = (pre ++ [j]).getD t 0 := by
  intro t ht
  by_cases h : t = i
  · subst h
    rw [va_up_self]
    simp [List.getD, ← hp]
  · rw [va_up_ne _ _ h, hf t (by omega)]
    simp [List.getD, List.getElem?_append_left (show t < pre.length by omega)]
def DecR (D : Option (List Nat)) (r : Int32) (u : Nat × (Nat → Nat)) : Prop := (r = nI 1 ∧ ∃ L, D = some L ∧ u.1 = L.length ∧ (∀ t, t < L.length → u.2 t = L.getD t 0) ∧ u.1 ≤ 10) ∨ (r = nI 0 ∧ D = none)
theorem num_in {x : Int32} (h0 : ¬ x < nI 0) (h1 : ¬ nI 1000000000 < x) : ∃ k, k ≤ 1000000000 ∧ x = nI k := by
  obtain ⟨j, hj, rfl⟩ := nI_of (show ¬ x < 0 from h0)
  exact ⟨j, by have := mt (nI_ltI (by decide) hj).mpr h1; omega, rfl⟩
theorem w_in {x : Int32} {n : Nat} (h0 : -1 ≤ x) (h1 : ¬ x = -1) (h2 : ¬ nI n ≤ x) (hn : n < 2 ^ 31) : ∃ j, j < n ∧ x = nI j := by
  have h3 : ¬ x < 0 := fun z => by
    have h4 := Int32.lt_iff_toInt_lt.mp z
    have h5 := Int32.le_iff_toInt_le.mp h0
    have h6 : (0 : Int32).toInt = 0 := by decide
    have h7 : (-1 : Int32).toInt = -1 := by decide
    exact h1 (Int32.toInt_inj.mp (by omega))
  obtain ⟨j, a, b, -⟩ := pk_mu h3 h2 hn
  exact ⟨j, a, b⟩
/-- what decoded answers -/
def A_dec (np : Nat) (D : Nat → Nat → Nat → Nat → Option (List Nat)) (x y z v w : Int32) : Int32 := match ix np x, ix 10 y, ix 10 z with
  | some k, some a, some b => if (v < nI 0 ∨ nI 1000000000 < v) ∨ w < -1 then -2 else match D k a b v.toNatClampNeg with
    | none => -9
    | some L => if w = -1 then nI L.length else match ix L.length w with
      | some j => nI (L.getD (L.length - 1 - j) 0)
      | none => -9
  | _, _, _ => -1
set_option maxHeartbeats 4000000 in
set_option maxRecDepth 100000 in
theorem c_X8_decodes (G : GG) (l : Launch) (o n lim np gm : Nat) (gs : Int32) (dm dp pm ns : Nat) (qa : Nat → Nat) (fr : Nat → Nat) (to : Nat → Nat) (cO : Nat → Nat) (pO : Nat → Int32) (wO : Nat → Nat) (dO : Nat → Nat) (dc : Nat → Nat) (k stt r0 num : Nat) (rk : Nat → Nat) (hk : k < 8) (hc : cO k ≤ 24) (hst : stt < 10) (hr0 : r0 < 10) (hfr : ∀ j, j < cO k → fr j < 10) (hto : ∀ j, j < cO k → to j < 10) (had : ∀ j, j < cO k → dO (24 * k + j) ≤ 24000000) (hwy : ∀ j, j < 10 → 1 ≤ wO (10 * k + j) ∧ wO (10 * k + j) ≤ 1000000) (hnum : num ≤ 1000000000) (hrk1 : ∀ t, rk t < 10) (hrk2 : ∀ j, j < cO k → hbt (pO k) j = true → rk (to j) < rk (fr j)) (sz : Nat) : Met l yX8_decodes wsX8_decodes { frames := 3, cells := 0, slots := 0, locals := 68 } (WPc G [.ref o, .int (nI k), .int (nI stt), .int (nI r0), .int (nI num)] [(o, ob 8 (mo n lim np gm gs dm dp pm ns qa)), ((qa 1), iA G 24 (fun j => nI (fr j))), ((qa 2), iA G 24 (fun j => nI (to j))), ((qa 5), iA G 8 (fun j => nI (cO j))), ((qa 9), iA G 8 pO), ((qa 10), iA G 80 (fun j => nI (wO j))), ((qa 11), iA G 192 (fun j => nI (dO j))), ((qa 17), iA G 10 (fun j => nI (dc j)))] sz) (WQi G [(o, ob 8 (mo n lim np gm gs dm dp pm ns qa)), ((qa 1), iA G 24 (fun j => nI (fr j))), ((qa 2), iA G 24 (fun j => nI (to j))), ((qa 5), iA G 8 (fun j => nI (cO j))), ((qa 9), iA G 8 pO), ((qa 10), iA G 80 (fun j => nI (wO j))), ((qa 11), iA G 192 (fun j => nI (dO j))), ((qa 17), iA G 10 (fun j => nI (dc j)))] sz (fun (r : Int32) (u : Nat × (Nat → Nat)) => DecR (decF (fun r num => firstF (lastP (pO k) (fun j => dO (24 * k + j)) (fun j => wO (10 * k + j)) fr to r num) (cO k)) fr (fun j => dO (24 * k + j)) stt 10 r0 num) r u) (fun u => [(o, ob 8 (mo n lim np gm gs u.1 dp pm ns qa)), ((qa 1), iA G 24 (fun j => nI (fr j))), ((qa 2), iA G 24 (fun j => nI (to j))), ((qa 5), iA G 8 (fun j => nI (cO j))), ((qa 9), iA G 8 pO), ((qa 10), iA G 80 (fun j => nI (wO j))), ((qa 11), iA G 192 (fun j => nI (dO j))), ((qa 17), iA G 10 (fun j => nI (u.2 j)))])) 0 0 (va_A [(o, ob 8 (mo n lim np gm gs dm dp pm ns qa)), ((qa 1), iA G 24 (fun j => nI (fr j))), ((qa 2), iA G 24 (fun j => nI (to j))), ((qa 5), iA G 8 (fun j => nI (cO j))), ((qa 9), iA G 8 pO), ((qa 10), iA G 80 (fun j => nI (wO j))), ((qa 11), iA G 192 (fun j => nI (dO j))), ((qa 17), iA G 10 (fun j => nI (dc j)))] sz) := by
  refine Met.ofW (cc := cX8_decodes) (maxL := 8) (ret := (some .boolean)) (by decide) rfl ?_
  intro p e s m args below meth c s₁ B hml hv
  obtain ⟨rfl, hsz, hP, hK, hD0⟩ := hv
  have hx := B.exec
  have hb := B.bytes
  have hr := B.returns
  have hts := atoms_spec (ws := wsX8_decodes) B.pre
  have hown : s.vm.findClass RX8 = some m.cls := findClass_of_methodNamed B.named
  have hlocks := B.notSynchronized
  subst hsz
  have hD := hD0.self (sz := s.heap.size)
  unfold WQi
  generalize hAe : va_A [(o, ob 8 (mo n lim np gm gs dm dp pm ns qa)), ((qa 1), iA G 24 (fun j => nI (fr j))), ((qa 2), iA G 24 (fun j => nI (to j))), ((qa 5), iA G 8 (fun j => nI (cO j))), ((qa 9), iA G 8 pO), ((qa 10), iA G 80 (fun j => nI (wO j))), ((qa 11), iA G 192 (fun j => nI (dO j))), ((qa 17), iA G 10 (fun j => nI (dc j)))] s.heap.size = A at hD ⊢
  have hA : ∀ q : Nat, s.heap.size ≤ q → A q := fun q h => by rw [← hAe]; exact Or.inr h
  have hl := lv_entry ([.ref o, .int (nI k), .int (nI stt), .int (nI r0), .int (nI num)]) (n := 8) (Nat.le_of_ble_eq_true rfl)
  rw [lg_entry_eq]
  generalize (lg_sl ([.ref o, .int (nI k), .int (nI stt), .int (nI r0), .int (nI num)]) ++ List.replicate (8 - (lg_sl ([.ref o, .int (nI k), .int (nI stt), .int (nI r0), .int (nI num)])).length) Slot.unset).toArray = ls at hl ⊢
  have hl : lv_has ls 8 [(0, .ref o), (1, .int (nI k)), (2, .int (nI stt)), (3, .int (nI r0)), (4, .int (nI num))] := hl
  refine nameHL (fun H locs hH hL => ?_)
  have hP : PP G [(o, ob 8 (mo n lim np gm gs dm dp pm ns qa)), ((qa 1), iA G 24 (fun j => nI (fr j))), ((qa 2), iA G 24 (fun j => nI (to j))), ((qa 5), iA G 8 (fun j => nI (cO j))), ((qa 9), iA G 8 pO), ((qa 10), iA G 80 (fun j => nI (wO j))), ((qa 11), iA G 192 (fun j => nI (dO j))), ((qa 17), iA G 10 (fun j => nI (dc j)))] H := by rw [hH]; exact hP
  have hS : va_S A s.heap H locs := by rw [hH, hL]; exact va_S.rf
  refine lv_aload_n hx hb dX8_decodes_0 rfl (lv_at hl 0 rfl) ?_
  refine lv_iconst (v := nI 0) hx hb dX8_decodes_1 (by decide) ?_
  refine va_put (D := G.1) (ci := 8) (v := .int (nI 0)) (ty := .int) (C := RX8) (T := TX8) (N := 28) hx hb hts (by decide +kernel) tyX8 tyX8_ok nmX8 hown hK.1 hP hD hS 0 rfl rfl 16 (by decide) (hts (.fieldLink RX8 131 "CallNumbersModel" "decodedMany" "I") (by decide +kernel)) (fun _ h9 => h9) rfl (by decide +kernel) rfl rfl (Nat.le_of_ble_eq_true rfl) dX8_decodes_2 (fun H locs hP hD hS => ?_)
  have hP : PP G [(o, ob 8 (mo n lim np gm gs 0 dp pm ns qa)), ((qa 1), iA G 24 (fun j => nI (fr j))), ((qa 2), iA G 24 (fun j => nI (to j))), ((qa 5), iA G 8 (fun j => nI (cO j))), ((qa 9), iA G 8 pO), ((qa 10), iA G 80 (fun j => nI (wO j))), ((qa 11), iA G 192 (fun j => nI (dO j))), ((qa 17), iA G 10 (fun j => nI (dc j)))] H := hP
  have hD : va_D A [(o, ob 8 (mo n lim np gm gs 0 dp pm ns qa)), ((qa 1), iA G 24 (fun j => nI (fr j))), ((qa 2), iA G 24 (fun j => nI (to j))), ((qa 5), iA G 8 (fun j => nI (cO j))), ((qa 9), iA G 8 pO), ((qa 10), iA G 80 (fun j => nI (wO j))), ((qa 11), iA G 192 (fun j => nI (dO j))), ((qa 17), iA G 10 (fun j => nI (dc j)))] := hD
  refine lv_iload_n hx hb dX8_decodes_5 rfl (lv_at hl 3 rfl) ?_
  refine lv_istore (lv' := [(5, .int (nI r0)), (0, .ref o), (1, .int (nI k)), (2, .int (nI stt)), (3, .int (nI r0)), (4, .int (nI num))]) hx hb dX8_decodes_6 hl (by decide) rfl (fun ls hl => ?_)
  refine lv_iload hx hb dX8_decodes_8 (lv_at hl 5 rfl) ?_
  refine lv_istore (lv' := [(6, .int (nI num)), (5, .int (nI r0)), (0, .ref o), (1, .int (nI k)), (2, .int (nI stt)), (3, .int (nI r0)), (4, .int (nI num))]) hx hb dX8_decodes_10 hl (by decide) rfl (fun ls hl => ?_)
  have loop_1 : ∀ (N : Nat) (i : Nat) (at9 : Nat) (lf : Nat) (f : Nat → Nat) (pre : List Nat), (pre.length = i) → (∀ t, t < i → f t = pre.getD t 0) → ((decF (fun r num => firstF (lastP (pO k) (fun j => dO (24 * k + j)) (fun j => wO (10 * k + j)) fr to r num) (cO k)) fr (fun j => dO (24 * k + j)) stt 10 r0 num) = (decF (fun r num => firstF (lastP (pO k) (fun j => dO (24 * k + j)) (fun j => wO (10 * k + j)) fr to r num) (cO k)) fr (fun j => dO (24 * k + j)) stt (10 - i) at9 lf).map (fun L => pre ++ L)) → (i ≤ rk at9) → (at9 < 10) → (lf ≤ 1000000000) → (10 - i) < N → ∀ (H : Heap) (locs : List Loc), PP G [(o, ob 8 (mo n lim np gm gs i dp pm ns qa)), ((qa 1), iA G 24 (fun j => nI (fr j))), ((qa 2), iA G 24 (fun j => nI (to j))), ((qa 5), iA G 8 (fun j => nI (cO j))), ((qa 9), iA G 8 pO), ((qa 10), iA G 80 (fun j => nI (wO j))), ((qa 11), iA G 192 (fun j => nI (dO j))), ((qa 17), iA G 10 (fun j => nI (f j)))] H → va_D A [(o, ob 8 (mo n lim np gm gs i dp pm ns qa)), ((qa 1), iA G 24 (fun j => nI (fr j))), ((qa 2), iA G 24 (fun j => nI (to j))), ((qa 5), iA G 8 (fun j => nI (cO j))), ((qa 9), iA G 8 pO), ((qa 10), iA G 80 (fun j => nI (wO j))), ((qa 11), iA G 192 (fun j => nI (dO j))), ((qa 17), iA G 10 (fun j => nI (f j)))] → va_S A s.heap H locs → ∀ (ls : Array Slot), lv_has ls 8 [(0, .ref o), (1, .int (nI k)), (2, .int (nI stt)), (3, .int (nI r0)), (4, .int (nI num)), (5, .int (nI at9)), (6, .int (nI lf))] → W p l e (headSpec wsX8_decodes { frames := 3, cells := 0, slots := 0, locals := 68 }).room s m ([.ref o, .int (nI k), .int (nI stt), .int (nI r0), .int (nI num)]).toArray below meth c H locs 0 0 (MQ below (va_Qi (fun (r : Int32) (u : Nat × (Nat → Nat)) => DecR (decF (fun r num => firstF (lastP (pO k) (fun j => dO (24 * k + j)) (fun j => wO (10 * k + j)) fr to r num) (cO k)) fr (fun j => dO (24 * k + j)) stt 10 r0 num) r u) (fun (u : Nat × (Nat → Nat)) (t : State) => PP G ([(o, ob 8 (mo n lim np gm gs u.1 dp pm ns qa)), ((qa 1), iA G 24 (fun j => nI (fr j))), ((qa 2), iA G 24 (fun j => nI (to j))), ((qa 5), iA G 8 (fun j => nI (cO j))), ((qa 9), iA G 8 pO), ((qa 10), iA G 80 (fun j => nI (wO j))), ((qa 11), iA G 192 (fun j => nI (dO j))), ((qa 17), iA G 10 (fun j => nI (u.2 j)))]) t.heap ∧ va_D A ([(o, ob 8 (mo n lim np gm gs u.1 dp pm ns qa)), ((qa 1), iA G 24 (fun j => nI (fr j))), ((qa 2), iA G 24 (fun j => nI (to j))), ((qa 5), iA G 8 (fun j => nI (cO j))), ((qa 9), iA G 8 pO), ((qa 10), iA G 80 (fun j => nI (wO j))), ((qa 11), iA G 192 (fun j => nI (dO j))), ((qa 17), iA G 10 (fun j => nI (u.2 j)))])) A) ([.ref o, .int (nI k), .int (nI stt), .int (nI r0), .int (nI num)]).toArray s 0 0 A) (F0 m 12 ls []) := by
    intro N
    induction N with
    | zero =>
      intro i at9 lf f pre hpre hf hdec hrk hat hlf hm
      exact absurd hm (Nat.not_lt_zero _)
    | succ N ih =>
      intro i at9 lf f pre hpre hf hdec hrk hat hlf hm H locs hP hD hS ls hl
      have hr9 := hrk1 at9
      refine lv_iload hx hb dX8_decodes_12 (lv_at hl 5 rfl) ?_
      refine lv_iload_n hx hb dX8_decodes_14 rfl (lv_at hl 2 rfl) ?_
      refine lv_icmp_eq (tgt := 88) hx hb dX8_decodes_15 (by decide) (fun c15 => ?_) (fun c15 => ?_)
      · skip
        have c15 := (nI_eq (a := at9) (b := stt) (by omega) (by omega)).mp c15
        refine lv_iload hx hb dX8_decodes_88 (lv_at hl 6 rfl) ?_
        refine lv_if_ne (tgt := 97) hx hb dX8_decodes_90 (by decide) (fun c90 => ?_) (fun c90 => ?_)
        · skip
          have c90 := mt (z_eq (k := lf) (by omega)).mpr c90
          refine lv_iconst (v := nI 0) hx hb dX8_decodes_97 (by decide) ?_
          exact W.zret (v := nI 0) hx hb hr (by rfl) (fun t ht _ => ⟨⟨nI 0, (i, f), rfl, Or.inr ⟨rfl, by rw [hdec, show 10 - i = (9 - i) + 1 by omega, decF_stop c15]; simp [c90]⟩, by rw [ht]; exact hP, hD⟩, hS.F ht⟩) hS.2.2 dX8_decodes_98
        · skip
          have c90 := (z_eq (k := lf) (by omega)).mp c90
          refine lv_iconst (v := nI 1) hx hb dX8_decodes_93 (by decide) ?_
          refine lv_goto (tgt := 98) hx hb dX8_decodes_94 (by decide) ?_
          exact W.zret (v := nI 1) hx hb hr (by rfl) (fun t ht _ => ⟨⟨nI 1, (i, f), rfl, Or.inl ⟨rfl, pre, by rw [hdec, show 10 - i = (9 - i) + 1 by omega, decF_stop c15]; simp [c90], hpre.symm, fun t ht => hf t (by omega), by show i ≤ 10; omega⟩, by rw [ht]; exact hP, hD⟩, hS.F ht⟩) hS.2.2 dX8_decodes_98
      · skip
        have c15 := mt (nI_eq (a := at9) (b := stt) (by omega) (by omega)).mpr c15
        refine lv_aload_n hx hb dX8_decodes_18 rfl (lv_at hl 0 rfl) ?_
        refine lv_iload_n hx hb dX8_decodes_19 rfl (lv_at hl 1 rfl) ?_
        refine lv_iload hx hb dX8_decodes_20 (lv_at hl 5 rfl) ?_
        refine lv_iload hx hb dX8_decodes_22 (lv_at hl 6 rfl) ?_
        have hP_2 : PP G [(o, ob 8 (mo n lim np gm gs i dp pm ns qa)), ((qa 1), iA G 24 (fun j => nI (fr j))), ((qa 2), iA G 24 (fun j => nI (to j))), ((qa 5), iA G 8 (fun j => nI (cO j))), ((qa 9), iA G 8 pO), ((qa 10), iA G 80 (fun j => nI (wO j))), ((qa 11), iA G 192 (fun j => nI (dO j)))] H := hP.sub [0, 1, 2, 3, 4, 5, 6] rfl
        refine csi (va_runV (As := [.int (nI k), .int (nI at9), .int (nI lf)]) (rest := []) ⟨hx, hb, hml, hown, hts⟩ (c_X8_lastTo G l o (mo n lim np gm gs i dp pm ns qa) (qa 1) fr (qa 2) to (qa 5) cO (qa 9) pO (qa 10) wO (qa 11) dO rfl rfl rfl rfl rfl rfl k at9 lf (hk) (hc) (by omega) (hfr) (hto) (had) (hwy) (by omega)) (cwV 3 hts gX8_decodes_X8_lastTo rfl rfl rfl (by decide +kernel) ⟨Nat.le_of_ble_eq_true rfl, Nat.le_of_ble_eq_true rfl⟩) (preRV hK hP_2 0 8 rfl rfl) rfl rfl hl.1 rfl (lv_room (Nat.le_of_ble_eq_true rfl)) dX8_decodes_24 ⟨Nat.zero_le _, Nat.zero_le _⟩) (fun r_3 h_4 => ?_)
        rcases h_4 with ⟨jn, h24L, rfl⟩ | ⟨h24L, rfl⟩
        · skip
          have hj9 := firstF_lt h24L
          have hj8 := lastP_spec hj9.2
          have hj7 := hfr jn hj9.1
          refine lv_istore (lv' := [(7, .int (nI jn)), (0, .ref o), (1, .int (nI k)), (2, .int (nI stt)), (3, .int (nI r0)), (4, .int (nI num)), (5, .int (nI at9)), (6, .int (nI lf))]) hx hb dX8_decodes_27 hl (by decide) rfl (fun ls hl => ?_)
          refine lv_iload hx hb dX8_decodes_29 (lv_at hl 0 rfl) ?_
          refine lv_bipush (v := (-9)) hx hb dX8_decodes_31 (by decide) ?_
          refine lv_icmp_ne (tgt := 38) hx hb dX8_decodes_33 (by decide) (fun _ => ?_) (fun c9 => absurd c9 (nI_n9 (by omega)))
          refine lv_aload_n hx hb dX8_decodes_38 rfl (lv_at hl 1 rfl) ?_
          refine va_get (D := G.1) (ci := 8) (v := .ref (qa 17)) (C := RX8) (T := TX8) (N := 28) hx hb hts (by decide +kernel) hown hK.1 hP 0 rfl rfl 17 (by decide) (hts (.fieldLink RX8 47 "CallNumbersModel" "decodedCall" "[I") (by decide +kernel)) (fun _ h9 => h9) rfl dX8_decodes_39 ?_
          refine lv_aload_n hx hb dX8_decodes_42 rfl (lv_at hl 1 rfl) ?_
          refine va_get (D := G.1) (ci := 8) (v := .int (nI i)) (C := RX8) (T := TX8) (N := 28) hx hb hts (by decide +kernel) hown hK.1 hP 0 rfl rfl 16 (by decide) (hts (.fieldLink RX8 131 "CallNumbersModel" "decodedMany" "I") (by decide +kernel)) (fun _ h9 => h9) rfl dX8_decodes_43 ?_
          refine lv_iload hx hb dX8_decodes_46 (lv_at hl 0 rfl) ?_
          refine iastN (k := i) (f := f) (x := jn) hx hb hK.1 hP hD hS 7 0 rfl rfl (rfl) (by omega) (Nat.le_of_ble_eq_true rfl) dX8_decodes_48 (fun H locs hP hD hS => ?_)
          have hP : PP G [(o, ob 8 (mo n lim np gm gs i dp pm ns qa)), ((qa 1), iA G 24 (fun j => nI (fr j))), ((qa 2), iA G 24 (fun j => nI (to j))), ((qa 5), iA G 8 (fun j => nI (cO j))), ((qa 9), iA G 8 pO), ((qa 10), iA G 80 (fun j => nI (wO j))), ((qa 11), iA G 192 (fun j => nI (dO j))), ((qa 17), iA G 10 (fun j => nI ((va_up f i jn) j)))] H := hP
          have hD : va_D A [(o, ob 8 (mo n lim np gm gs i dp pm ns qa)), ((qa 1), iA G 24 (fun j => nI (fr j))), ((qa 2), iA G 24 (fun j => nI (to j))), ((qa 5), iA G 8 (fun j => nI (cO j))), ((qa 9), iA G 8 pO), ((qa 10), iA G 80 (fun j => nI (wO j))), ((qa 11), iA G 192 (fun j => nI (dO j))), ((qa 17), iA G 10 (fun j => nI ((va_up f i jn) j)))] := hD
          refine lv_aload_n hx hb dX8_decodes_49 rfl (lv_at hl 1 rfl) ?_
          refine lv_dup hx hb dX8_decodes_50 rfl ?_
          refine va_get (D := G.1) (ci := 8) (v := .int (nI i)) (C := RX8) (T := TX8) (N := 28) hx hb hts (by decide +kernel) hown hK.1 hP 0 rfl rfl 16 (by decide) (hts (.fieldLink RX8 131 "CallNumbersModel" "decodedMany" "I") (by decide +kernel)) (fun _ h9 => h9) rfl dX8_decodes_51 ?_
          refine lv_iconst (v := nI 1) hx hb dX8_decodes_54 (by decide) ?_
          refine lv_iadd hx hb dX8_decodes_55 ?_
          refine lv_topi (fun v ev => ?_)
          obtain rfl : v = nI (i + 1) := ev.trans (nI_add _ _)
          refine va_put (D := G.1) (ci := 8) (v := .int (nI (i + 1))) (ty := .int) (C := RX8) (T := TX8) (N := 28) hx hb hts (by decide +kernel) tyX8 tyX8_ok nmX8 hown hK.1 hP hD hS 0 rfl rfl 16 (by decide) (hts (.fieldLink RX8 131 "CallNumbersModel" "decodedMany" "I") (by decide +kernel)) (fun _ h9 => h9) rfl (by decide +kernel) rfl rfl (Nat.le_of_ble_eq_true rfl) dX8_decodes_56 (fun H locs hP hD hS => ?_)
          have hP : PP G [(o, ob 8 (mo n lim np gm gs (i + 1) dp pm ns qa)), ((qa 1), iA G 24 (fun j => nI (fr j))), ((qa 2), iA G 24 (fun j => nI (to j))), ((qa 5), iA G 8 (fun j => nI (cO j))), ((qa 9), iA G 8 pO), ((qa 10), iA G 80 (fun j => nI (wO j))), ((qa 11), iA G 192 (fun j => nI (dO j))), ((qa 17), iA G 10 (fun j => nI ((va_up f i jn) j)))] H := hP
          have hD : va_D A [(o, ob 8 (mo n lim np gm gs (i + 1) dp pm ns qa)), ((qa 1), iA G 24 (fun j => nI (fr j))), ((qa 2), iA G 24 (fun j => nI (to j))), ((qa 5), iA G 8 (fun j => nI (cO j))), ((qa 9), iA G 8 pO), ((qa 10), iA G 80 (fun j => nI (wO j))), ((qa 11), iA G 192 (fun j => nI (dO j))), ((qa 17), iA G 10 (fun j => nI ((va_up f i jn) j)))] := hD
          refine lv_iload hx hb dX8_decodes_59 (lv_at hl 7 rfl) ?_
          refine lv_aload_n hx hb dX8_decodes_61 rfl (lv_at hl 1 rfl) ?_
          refine va_get (D := G.1) (ci := 8) (v := .ref (qa 11)) (C := RX8) (T := TX8) (N := 28) hx hb hts (by decide +kernel) hown hK.1 hP 0 rfl rfl 11 (by decide) (hts (.fieldLink RX8 38 "CallNumbersModel" "addOf" "[I") (by decide +kernel)) (fun _ h9 => h9) rfl dX8_decodes_62 ?_
          refine lv_bipush (v := nI 24) hx hb dX8_decodes_65 (by decide) ?_
          refine lv_iload_n hx hb dX8_decodes_67 rfl (lv_at hl 2 rfl) ?_
          refine lv_imul hx hb dX8_decodes_68 ?_
          refine lv_topi (fun v ev => ?_)
          obtain rfl : v = nI (24 * k) := ev.trans (pk_mul _ _)
          refine lv_iload hx hb dX8_decodes_69 (lv_at hl 0 rfl) ?_
          refine lv_iadd hx hb dX8_decodes_71 ?_
          refine lv_topi (fun v ev => ?_)
          obtain rfl : v = nI ((24 * k) + jn) := ev.trans (nI_add _ _)
          refine ialdN (k := (24 * k) + jn) (f := dO) hx hb hK.1 hP 6 0 rfl rfl (rfl) (by omega) (Nat.le_of_ble_eq_true rfl) dX8_decodes_72 ?_
          refine lv_isub hx hb dX8_decodes_73 ?_
          refine lv_topi (fun v ev => ?_)
          obtain rfl : v = nI (lf - dO ((24 * k) + jn)) := ev.trans (pk_sub (by omega))
          refine lv_istore (lv' := [(6, .int (nI (lf - dO ((24 * k) + jn)))), (7, .int (nI jn)), (0, .ref o), (1, .int (nI k)), (2, .int (nI stt)), (3, .int (nI r0)), (4, .int (nI num)), (5, .int (nI at9))]) hx hb dX8_decodes_74 hl (by decide) rfl (fun ls hl => ?_)
          refine lv_aload_n hx hb dX8_decodes_76 rfl (lv_at hl 2 rfl) ?_
          refine va_get (D := G.1) (ci := 8) (v := .ref (qa 1)) (C := RX8) (T := TX8) (N := 28) hx hb hts (by decide +kernel) hown hK.1 hP 0 rfl rfl 1 (by decide) (hts (.fieldLink RX8 7 "CallNumbersModel" "fromOf" "[I") (by decide +kernel)) (fun _ h9 => h9) rfl dX8_decodes_77 ?_
          refine lv_iload hx hb dX8_decodes_80 (lv_at hl 1 rfl) ?_
          refine ialdN (k := jn) (f := fr) hx hb hK.1 hP 1 0 rfl rfl (rfl) (by omega) (Nat.le_of_ble_eq_true rfl) dX8_decodes_82 ?_
          refine lv_istore (lv' := [(5, .int (nI (fr jn))), (6, .int (nI (lf - dO ((24 * k) + jn)))), (7, .int (nI jn)), (0, .ref o), (1, .int (nI k)), (2, .int (nI stt)), (3, .int (nI r0)), (4, .int (nI num))]) hx hb dX8_decodes_83 hl (by decide) rfl (fun ls hl => ?_)
          refine lv_goto (tgt := 12) hx hb dX8_decodes_85 (by decide) ?_
          exact ih (i + 1) (fr jn) (lf - dO (24 * k + jn)) (va_up f i jn) (pre ++ [jn]) (by simp [hpre]) (fun t ht => pre_up hpre hf t ht) (by rw [hdec, show 10 - i = (10 - (i + 1)) + 1 by omega, decF_step c15 h24L, Option.map_map]; congr 1; funext L; simp) (by have h6 := hrk2 jn hj9.1 hj8.1; rw [hj8.2.1] at h6; omega) (hj7) (by omega) (by omega) H locs hP hD hS ls (lv_sub hl [3, 4, 5, 6, 7, 0, 1] rfl)
        · skip
          refine lv_istore (lv' := [(7, .int (-9)), (0, .ref o), (1, .int (nI k)), (2, .int (nI stt)), (3, .int (nI r0)), (4, .int (nI num)), (5, .int (nI at9)), (6, .int (nI lf))]) hx hb dX8_decodes_27 hl (by decide) rfl (fun ls hl => ?_)
          refine lv_iload hx hb dX8_decodes_29 (lv_at hl 0 rfl) ?_
          refine lv_bipush (v := (-9)) hx hb dX8_decodes_31 (by decide) ?_
          refine lv_icmp_ne (tgt := 38) hx hb dX8_decodes_33 (by decide) (fun c9 => absurd rfl c9) (fun _ => ?_)
          refine lv_iconst (v := nI 0) hx hb dX8_decodes_36 (by decide) ?_
          exact W.zret (v := nI 0) hx hb hr (by rfl) (fun t ht _ => ⟨⟨nI 0, (i, f), rfl, Or.inr ⟨rfl, by rw [hdec, show 10 - i = (9 - i) + 1 by omega, decF_none c15 h24L]; rfl⟩, by rw [ht]; exact hP, hD⟩, hS.F ht⟩) hS.2.2 dX8_decodes_37
  exact loop_1 _ 0 r0 num dc ([]) (rfl) (lt_0) (by cases h8 : (decF (fun r num => firstF (lastP (pO k) (fun j => dO (24 * k + j)) (fun j => wO (10 * k + j)) fr to r num) (cO k)) fr (fun j => dO (24 * k + j)) stt 10 r0 num) <;> simp [h8]) (Nat.zero_le _) (hr0) (hnum) (Nat.lt_succ_self _) H locs hP hD hS ls (lv_sub hl [2, 3, 4, 5, 6, 1, 0] rfl)
set_option maxHeartbeats 4000000 in
set_option maxRecDepth 100000 in
theorem c_X8_decoded (G : GG) (l : Launch) (o n lim np gm : Nat) (gs : Int32) (dm dp pm ns : Nat) (qa : Nat → Nat) (fr : Nat → Nat) (to : Nat → Nat) (cO : Nat → Nat) (pO : Nat → Int32) (wO : Nat → Nat) (dO : Nat → Nat) (dc : Nat → Nat) (x y z v w : Int32) (rk : Nat → Nat → Nat) (hp : np ≤ 8) (hc : ∀ k, k < np → cO k ≤ 24) (hcn : ∀ k, k < np → cO k ≤ n) (hfr : ∀ j, j < n → fr j < 10) (hto : ∀ j, j < n → to j < 10) (had : ∀ k, k < np → ∀ j, j < cO k → dO (24 * k + j) ≤ 24000000) (hwy : ∀ k, k < np → ∀ j, j < 10 → 1 ≤ wO (10 * k + j) ∧ wO (10 * k + j) ≤ 1000000) (hrk1 : ∀ k, k < np → ∀ t, rk k t < 10) (hrk2 : ∀ k, k < np → ∀ j, j < cO k → hbt (pO k) j = true → rk k (to j) < rk k (fr j)) (sz : Nat) : Met l yX8_decoded wsX8_decoded { frames := 4, cells := 0, slots := 0, locals := 95 } (WPc G [.ref o, .int x, .int y, .int z, .int v, .int w] [(o, ob 8 (mo n lim np gm gs dm dp pm ns qa)), ((qa 1), iA G 24 (fun j => nI (fr j))), ((qa 2), iA G 24 (fun j => nI (to j))), ((qa 5), iA G 8 (fun j => nI (cO j))), ((qa 9), iA G 8 pO), ((qa 10), iA G 80 (fun j => nI (wO j))), ((qa 11), iA G 192 (fun j => nI (dO j))), ((qa 17), iA G 10 (fun j => nI (dc j)))] sz) (WQi G [(o, ob 8 (mo n lim np gm gs dm dp pm ns qa)), ((qa 1), iA G 24 (fun j => nI (fr j))), ((qa 2), iA G 24 (fun j => nI (to j))), ((qa 5), iA G 8 (fun j => nI (cO j))), ((qa 9), iA G 8 pO), ((qa 10), iA G 80 (fun j => nI (wO j))), ((qa 11), iA G 192 (fun j => nI (dO j))), ((qa 17), iA G 10 (fun j => nI (dc j)))] sz (fun (r : Int32) (u : Nat × (Nat → Nat)) => r = A_dec np (fun k stt r0 num => decF (fun r num => firstF (lastP (pO k) (fun j => dO (24 * k + j)) (fun j => wO (10 * k + j)) fr to r num) (cO k)) fr (fun j => dO (24 * k + j)) stt 10 r0 num) x y z v w) (fun u => [(o, ob 8 (mo n lim np gm gs u.1 dp pm ns qa)), ((qa 1), iA G 24 (fun j => nI (fr j))), ((qa 2), iA G 24 (fun j => nI (to j))), ((qa 5), iA G 8 (fun j => nI (cO j))), ((qa 9), iA G 8 pO), ((qa 10), iA G 80 (fun j => nI (wO j))), ((qa 11), iA G 192 (fun j => nI (dO j))), ((qa 17), iA G 10 (fun j => nI (u.2 j)))])) 0 0 (va_A [(o, ob 8 (mo n lim np gm gs dm dp pm ns qa)), ((qa 1), iA G 24 (fun j => nI (fr j))), ((qa 2), iA G 24 (fun j => nI (to j))), ((qa 5), iA G 8 (fun j => nI (cO j))), ((qa 9), iA G 8 pO), ((qa 10), iA G 80 (fun j => nI (wO j))), ((qa 11), iA G 192 (fun j => nI (dO j))), ((qa 17), iA G 10 (fun j => nI (dc j)))] sz) := by
  refine Met.ofW (cc := cX8_decoded) (maxL := 6) (ret := (some .int)) (by decide) rfl ?_
  intro p e s m args below meth c s₁ B hml hv
  obtain ⟨rfl, hsz, hP, hK, hD0⟩ := hv
  have hx := B.exec
  have hb := B.bytes
  have hr := B.returns
  have hts := atoms_spec (ws := wsX8_decoded) B.pre
  have hown : s.vm.findClass RX8 = some m.cls := findClass_of_methodNamed B.named
  have hlocks := B.notSynchronized
  subst hsz
  have hD := hD0.self (sz := s.heap.size)
  unfold WQi
  generalize hAe : va_A [(o, ob 8 (mo n lim np gm gs dm dp pm ns qa)), ((qa 1), iA G 24 (fun j => nI (fr j))), ((qa 2), iA G 24 (fun j => nI (to j))), ((qa 5), iA G 8 (fun j => nI (cO j))), ((qa 9), iA G 8 pO), ((qa 10), iA G 80 (fun j => nI (wO j))), ((qa 11), iA G 192 (fun j => nI (dO j))), ((qa 17), iA G 10 (fun j => nI (dc j)))] s.heap.size = A at hD ⊢
  have hA : ∀ q : Nat, s.heap.size ≤ q → A q := fun q h => by rw [← hAe]; exact Or.inr h
  have hl := lv_entry ([.ref o, .int x, .int y, .int z, .int v, .int w]) (n := 6) (Nat.le_of_ble_eq_true rfl)
  rw [lg_entry_eq]
  generalize (lg_sl ([.ref o, .int x, .int y, .int z, .int v, .int w]) ++ List.replicate (6 - (lg_sl ([.ref o, .int x, .int y, .int z, .int v, .int w])).length) Slot.unset).toArray = ls at hl ⊢
  have hl : lv_has ls 6 [(0, .ref o), (1, .int x), (2, .int y), (3, .int z), (4, .int v), (5, .int w)] := hl
  refine nameHL (fun H locs hH hL => ?_)
  have hP : PP G [(o, ob 8 (mo n lim np gm gs dm dp pm ns qa)), ((qa 1), iA G 24 (fun j => nI (fr j))), ((qa 2), iA G 24 (fun j => nI (to j))), ((qa 5), iA G 8 (fun j => nI (cO j))), ((qa 9), iA G 8 pO), ((qa 10), iA G 80 (fun j => nI (wO j))), ((qa 11), iA G 192 (fun j => nI (dO j))), ((qa 17), iA G 10 (fun j => nI (dc j)))] H := by rw [hH]; exact hP
  have hS : va_S A s.heap H locs := by rw [hH, hL]; exact va_S.rf
  refine lv_aload_n hx hb dX8_decoded_0 rfl (lv_at hl 0 rfl) ?_
  refine lv_iload_n hx hb dX8_decoded_1 rfl (lv_at hl 1 rfl) ?_
  have hP_1 : PP G [(o, ob 8 (mo n lim np gm gs dm dp pm ns qa))] H := hP.sub [0] rfl
  refine csi (va_runV (As := [.int x]) (rest := []) ⟨hx, hb, hml, hown, hts⟩ (c_X8_isPlan G l o (mo n lim np gm gs dm dp pm ns qa) np rfl x (by omega)) (cwV 1 hts gX8_decoded_X8_isPlan rfl rfl rfl (by decide +kernel) ⟨Nat.le_of_ble_eq_true rfl, Nat.le_of_ble_eq_true rfl⟩) (preRV hK hP_1 0 8 rfl rfl) rfl rfl hl.1 rfl (lv_room (Nat.le_of_ble_eq_true rfl)) dX8_decoded_2 ⟨Nat.zero_le _, Nat.zero_le _⟩) (fun r_2 h_3 => ?_)
  rcases h_3 with ⟨rfl, k2, b2, rfl⟩ | ⟨rfl, b2⟩
  · skip
    refine lv_if_eq (tgt := 22) hx hb dX8_decoded_5 (by decide) (fun c9 => absurd c9 (by decide)) (fun _ => ?_)
    refine lv_iload_n hx hb dX8_decoded_8 rfl (lv_at hl 2 rfl) ?_
    have hP_4 : PP G [] H := hP.sub [] rfl
    refine csi (va_runS (As := [.int y]) (rest := []) ⟨hx, hb, hml, hown, hts⟩ (c_X8_isRoutine G l y) (va_cwS 1 hts gX8_decoded_X8_isRoutine rfl rfl rfl (by decide +kernel) ⟨Nat.le_of_ble_eq_true rfl, Nat.le_of_ble_eq_true rfl⟩) (preR hK hP_4) rfl rfl hl.1 rfl (lv_room (Nat.le_of_ble_eq_true rfl)) dX8_decoded_9 ⟨Nat.zero_le _, Nat.zero_le _⟩) (fun r_5 h_6 => ?_)
    rcases h_6 with ⟨rfl, k9, b9, rfl⟩ | ⟨rfl, b9⟩
    · skip
      refine lv_if_eq (tgt := 22) hx hb dX8_decoded_12 (by decide) (fun c9 => absurd c9 (by decide)) (fun _ => ?_)
      refine lv_iload_n hx hb dX8_decoded_15 rfl (lv_at hl 3 rfl) ?_
      have hP_7 : PP G [] H := hP.sub [] rfl
      refine csi (va_runS (As := [.int z]) (rest := []) ⟨hx, hb, hml, hown, hts⟩ (c_X8_isRoutine G l z) (va_cwS 1 hts gX8_decoded_X8_isRoutine rfl rfl rfl (by decide +kernel) ⟨Nat.le_of_ble_eq_true rfl, Nat.le_of_ble_eq_true rfl⟩) (preR hK hP_7) rfl rfl hl.1 rfl (lv_room (Nat.le_of_ble_eq_true rfl)) dX8_decoded_16 ⟨Nat.zero_le _, Nat.zero_le _⟩) (fun r_8 h_9 => ?_)
      rcases h_9 with ⟨rfl, k16, b16, rfl⟩ | ⟨rfl, b16⟩
      · skip
        refine lv_if_ne (tgt := 24) hx hb dX8_decoded_19 (by decide) (fun _ => ?_) (fun c9 => absurd c9 (by decide))
        refine lv_iload hx hb dX8_decoded_24 (lv_at hl 4 rfl) ?_
        refine lv_iconst (v := nI 0) hx hb dX8_decoded_26 (by decide) ?_
        refine lv_ldc (v := 1000000000) hx hb hown (hts (.constant RX8 138 1000000000) (by decide +kernel)) dX8_decoded_27 ?_
        refine lv_topi (fun v ev => ?_)
        obtain rfl : v = nI 1000000000 := ev
        have hP_10 : PP G [] H := hP.sub [] rfl
        refine csi (va_runS (As := [.int v, .int (nI 0), .int (nI 1000000000)]) (rest := []) ⟨hx, hb, hml, hown, hts⟩ (c_X8_within G l v (nI 0) (nI 1000000000)) (va_cwS 3 hts gX8_decoded_X8_within rfl rfl rfl (by decide +kernel) ⟨Nat.le_of_ble_eq_true rfl, Nat.le_of_ble_eq_true rfl⟩) (preR hK hP_10) rfl rfl hl.1 rfl (lv_room (Nat.le_of_ble_eq_true rfl)) dX8_decoded_29 ⟨Nat.zero_le _, Nat.zero_le _⟩) (fun r_11 h_12 => ?_)
        rcases h_12 with ⟨rfl, g29, g29'⟩ | ⟨rfl, g29⟩
        · skip
          obtain ⟨num, hnum, rfl⟩ := num_in g29 g29'
          refine lv_if_eq (tgt := 41) hx hb dX8_decoded_32 (by decide) (fun c9 => absurd c9 (by decide)) (fun _ => ?_)
          refine lv_iload hx hb dX8_decoded_35 (lv_at hl 5 rfl) ?_
          refine lv_iconst (v := (-1)) hx hb dX8_decoded_37 (by decide) ?_
          refine lv_icmp_ge (tgt := 44) hx hb dX8_decoded_38 (by decide) (fun c38 => ?_) (fun c38 => ?_)
          · skip
            refine lv_aload_n hx hb dX8_decoded_44 rfl (lv_at hl 0 rfl) ?_
            refine lv_iload_n hx hb dX8_decoded_45 rfl (lv_at hl 1 rfl) ?_
            refine lv_iload_n hx hb dX8_decoded_46 rfl (lv_at hl 2 rfl) ?_
            refine lv_iload_n hx hb dX8_decoded_47 rfl (lv_at hl 3 rfl) ?_
            refine lv_iload hx hb dX8_decoded_48 (lv_at hl 4 rfl) ?_
            have hP_13 : PP G [(o, ob 8 (mo n lim np gm gs dm dp pm ns qa)), ((qa 1), iA G 24 (fun j => nI (fr j))), ((qa 2), iA G 24 (fun j => nI (to j))), ((qa 5), iA G 8 (fun j => nI (cO j))), ((qa 9), iA G 8 pO), ((qa 10), iA G 80 (fun j => nI (wO j))), ((qa 11), iA G 192 (fun j => nI (dO j))), ((qa 17), iA G 10 (fun j => nI (dc j)))] H := hP.sub [0, 1, 2, 3, 4, 5, 6, 7] rfl
            have hD_14 : va_D A [(o, ob 8 (mo n lim np gm gs dm dp pm ns qa)), ((qa 1), iA G 24 (fun j => nI (fr j))), ((qa 2), iA G 24 (fun j => nI (to j))), ((qa 5), iA G 8 (fun j => nI (cO j))), ((qa 9), iA G 8 pO), ((qa 10), iA G 80 (fun j => nI (wO j))), ((qa 11), iA G 192 (fun j => nI (dO j))), ((qa 17), iA G 10 (fun j => nI (dc j)))] := hD.sub [0, 1, 2, 3, 4, 5, 6, 7] (by decide) rfl
            refine cwi (va_runV (As := [.int (nI k2), .int (nI k9), .int (nI k16), .int (nI num)]) (rest := []) ⟨hx, hb, hml, hown, hts⟩ (c_X8_decodes G l o n lim np gm gs dm dp pm ns qa fr to cO pO wO dO dc k2 k9 k16 num (rk k2) (by omega) (hc k2 b2) (by omega) (by omega) (fun j hj => hfr j (Nat.lt_of_lt_of_le hj (hcn k2 b2))) (fun j hj => hto j (Nat.lt_of_lt_of_le hj (hcn k2 b2))) (had k2 b2) (hwy k2 b2) (by omega) (hrk1 k2 b2) (hrk2 k2 b2) H.size) (cwV 4 hts gX8_decoded_X8_decodes rfl rfl rfl (by decide +kernel) ⟨Nat.le_of_ble_eq_true rfl, Nat.le_of_ble_eq_true rfl⟩) (preWV hK hP_13 hD_14 0 8 rfl rfl) rfl rfl hl.1 rfl (lv_room (Nat.le_of_ble_eq_true rfl)) dX8_decoded_50 ⟨Nat.zero_le _, Nat.zero_le _⟩) hS hA hP hD [0, 1, 2, 3, 4, 5, 6, 7] rfl (fun _ => rfl) (fun r_15 u_16 H locs h_17 hP hD hS => ?_)
            rcases h_17 with ⟨rfl, L, hL, hu1, hu2, hu3⟩ | ⟨rfl, hN⟩
            · skip
              have hP : PP G [(o, ob 8 (mo n lim np gm gs u_16.1 dp pm ns qa)), ((qa 1), iA G 24 (fun j => nI (fr j))), ((qa 2), iA G 24 (fun j => nI (to j))), ((qa 5), iA G 8 (fun j => nI (cO j))), ((qa 9), iA G 8 pO), ((qa 10), iA G 80 (fun j => nI (wO j))), ((qa 11), iA G 192 (fun j => nI (dO j))), ((qa 17), iA G 10 (fun j => nI (u_16.2 j)))] H := hP
              have hD : va_D A [(o, ob 8 (mo n lim np gm gs u_16.1 dp pm ns qa)), ((qa 1), iA G 24 (fun j => nI (fr j))), ((qa 2), iA G 24 (fun j => nI (to j))), ((qa 5), iA G 8 (fun j => nI (cO j))), ((qa 9), iA G 8 pO), ((qa 10), iA G 80 (fun j => nI (wO j))), ((qa 11), iA G 192 (fun j => nI (dO j))), ((qa 17), iA G 10 (fun j => nI (u_16.2 j)))] := hD
              refine lv_if_ne (tgt := 59) hx hb dX8_decoded_53 (by decide) (fun _ => ?_) (fun c9 => absurd c9 (by decide))
              refine lv_iload hx hb dX8_decoded_59 (lv_at hl 5 rfl) ?_
              refine lv_iconst (v := (-1)) hx hb dX8_decoded_61 (by decide) ?_
              refine lv_icmp_ne (tgt := 72) hx hb dX8_decoded_62 (by decide) (fun c62 => ?_) (fun c62 => ?_)
              · skip
                refine lv_iload hx hb dX8_decoded_72 (lv_at hl 5 rfl) ?_
                refine lv_aload_n hx hb dX8_decoded_74 rfl (lv_at hl 0 rfl) ?_
                refine va_get (D := G.1) (ci := 8) (v := .int (nI u_16.1)) (C := RX8) (T := TX8) (N := 28) hx hb hts (by decide +kernel) hown hK.1 hP 0 rfl rfl 16 (by decide) (hts (.fieldLink RX8 131 "CallNumbersModel" "decodedMany" "I") (by decide +kernel)) (fun _ h9 => h9) rfl dX8_decoded_75 ?_
                refine lv_icmp_ge (tgt := 98) hx hb dX8_decoded_78 (by decide) (fun c78 => ?_) (fun c78 => ?_)
                · skip
                  refine lv_bipush (v := (-9)) hx hb dX8_decoded_98 (by decide) ?_
                  exact W.iret (v := (-9)) hx hb hr (fun t ht _ => ⟨⟨(-9), (u_16.1, u_16.2), rfl, by simp [A_dec, ix_in b2 (show np < 2 ^ 31 by omega), ix_in b9 (show 10 < 2 ^ 31 by omega), ix_in b16 (show 10 < 2 ^ 31 by omega), g29, g29', nI_clamp (show num < 2 ^ 31 by omega), Int32.not_lt.mpr c38, hL, c62, ix_out (n := L.length) (out_g c78 (by omega) (by omega))], by rw [ht]; exact hP, hD⟩, hS.F ht⟩) hS.2.2 dX8_decoded_100
                · skip
                  obtain ⟨jw, hjw, rfl⟩ := w_in c38 c62 c78 (by omega)
                  refine lv_aload_n hx hb dX8_decoded_81 rfl (lv_at hl 0 rfl) ?_
                  refine va_get (D := G.1) (ci := 8) (v := .ref (qa 17)) (C := RX8) (T := TX8) (N := 28) hx hb hts (by decide +kernel) hown hK.1 hP 0 rfl rfl 17 (by decide) (hts (.fieldLink RX8 47 "CallNumbersModel" "decodedCall" "[I") (by decide +kernel)) (fun _ h9 => h9) rfl dX8_decoded_82 ?_
                  refine lv_aload_n hx hb dX8_decoded_85 rfl (lv_at hl 0 rfl) ?_
                  refine va_get (D := G.1) (ci := 8) (v := .int (nI u_16.1)) (C := RX8) (T := TX8) (N := 28) hx hb hts (by decide +kernel) hown hK.1 hP 0 rfl rfl 16 (by decide) (hts (.fieldLink RX8 131 "CallNumbersModel" "decodedMany" "I") (by decide +kernel)) (fun _ h9 => h9) rfl dX8_decoded_86 ?_
                  refine lv_iconst (v := nI 1) hx hb dX8_decoded_89 (by decide) ?_
                  refine lv_isub hx hb dX8_decoded_90 ?_
                  refine lv_topi (fun v ev => ?_)
                  obtain rfl : v = nI (u_16.1 - 1) := ev.trans (pk_sub (by omega))
                  refine lv_iload hx hb dX8_decoded_91 (lv_at hl 5 rfl) ?_
                  refine lv_isub hx hb dX8_decoded_93 ?_
                  refine lv_topi (fun v ev => ?_)
                  obtain rfl : v = nI ((u_16.1 - 1) - jw) := ev.trans (pk_sub (by omega))
                  refine ialdN (k := (u_16.1 - 1) - jw) (f := u_16.2) hx hb hK.1 hP 7 0 rfl rfl (rfl) (by omega) (Nat.le_of_ble_eq_true rfl) dX8_decoded_94 ?_
                  refine lv_goto (tgt := 100) hx hb dX8_decoded_95 (by decide) ?_
                  exact W.iret (v := nI (u_16.2 ((u_16.1 - 1) - jw))) hx hb hr (fun t ht _ => ⟨⟨nI (u_16.2 ((u_16.1 - 1) - jw)), (u_16.1, u_16.2), rfl, by rw [hu1, hu2 _ (by omega)]; simp [A_dec, ix_in b2 (show np < 2 ^ 31 by omega), ix_in b9 (show 10 < 2 ^ 31 by omega), ix_in b16 (show 10 < 2 ^ 31 by omega), g29, g29', nI_clamp (show num < 2 ^ 31 by omega), Int32.not_lt.mpr c38, hL, c62, ix_in (n := L.length) (k := jw) (by omega) (by omega)], by rw [ht]; exact hP, hD⟩, hS.F ht⟩) hS.2.2 dX8_decoded_100
              · skip
                refine lv_aload_n hx hb dX8_decoded_65 rfl (lv_at hl 0 rfl) ?_
                refine va_get (D := G.1) (ci := 8) (v := .int (nI u_16.1)) (C := RX8) (T := TX8) (N := 28) hx hb hts (by decide +kernel) hown hK.1 hP 0 rfl rfl 16 (by decide) (hts (.fieldLink RX8 131 "CallNumbersModel" "decodedMany" "I") (by decide +kernel)) (fun _ h9 => h9) rfl dX8_decoded_66 ?_
                refine lv_goto (tgt := 100) hx hb dX8_decoded_69 (by decide) ?_
                exact W.iret (v := nI u_16.1) hx hb hr (fun t ht _ => ⟨⟨nI u_16.1, (u_16.1, u_16.2), rfl, by simp [A_dec, ix_in b2 (show np < 2 ^ 31 by omega), ix_in b9 (show 10 < 2 ^ 31 by omega), ix_in b16 (show 10 < 2 ^ 31 by omega), g29, g29', nI_clamp (show num < 2 ^ 31 by omega), Int32.not_lt.mpr c38, hL, c62, hu1], by rw [ht]; exact hP, hD⟩, hS.F ht⟩) hS.2.2 dX8_decoded_100
            · skip
              have hP : PP G [(o, ob 8 (mo n lim np gm gs u_16.1 dp pm ns qa)), ((qa 1), iA G 24 (fun j => nI (fr j))), ((qa 2), iA G 24 (fun j => nI (to j))), ((qa 5), iA G 8 (fun j => nI (cO j))), ((qa 9), iA G 8 pO), ((qa 10), iA G 80 (fun j => nI (wO j))), ((qa 11), iA G 192 (fun j => nI (dO j))), ((qa 17), iA G 10 (fun j => nI (u_16.2 j)))] H := hP
              have hD : va_D A [(o, ob 8 (mo n lim np gm gs u_16.1 dp pm ns qa)), ((qa 1), iA G 24 (fun j => nI (fr j))), ((qa 2), iA G 24 (fun j => nI (to j))), ((qa 5), iA G 8 (fun j => nI (cO j))), ((qa 9), iA G 8 pO), ((qa 10), iA G 80 (fun j => nI (wO j))), ((qa 11), iA G 192 (fun j => nI (dO j))), ((qa 17), iA G 10 (fun j => nI (u_16.2 j)))] := hD
              refine lv_if_ne (tgt := 59) hx hb dX8_decoded_53 (by decide) (fun c9 => absurd c9 (by decide)) (fun _ => ?_)
              refine lv_bipush (v := (-9)) hx hb dX8_decoded_56 (by decide) ?_
              exact W.iret (v := (-9)) hx hb hr (fun t ht _ => ⟨⟨(-9), (u_16.1, u_16.2), rfl, by simp [A_dec, ix_in b2 (show np < 2 ^ 31 by omega), ix_in b9 (show 10 < 2 ^ 31 by omega), ix_in b16 (show 10 < 2 ^ 31 by omega), g29, g29', nI_clamp (show num < 2 ^ 31 by omega), Int32.not_lt.mpr c38, hN], by rw [ht]; exact hP, hD⟩, hS.F ht⟩) hS.2.2 dX8_decoded_58
          · skip
            refine lv_bipush (v := (-2)) hx hb dX8_decoded_41 (by decide) ?_
            exact W.iret (v := (-2)) hx hb hr (fun t ht _ => ⟨⟨(-2), (dm, dc), rfl, by simp [A_dec, ix_in b2 (show np < 2 ^ 31 by omega), ix_in b9 (show 10 < 2 ^ 31 by omega), ix_in b16 (show 10 < 2 ^ 31 by omega), g29, g29', nI_clamp (show num < 2 ^ 31 by omega), Int32.not_le.mp c38], by rw [ht]; exact hP, hD⟩, hS.F ht⟩) hS.2.2 dX8_decoded_43
        · skip
          refine lv_if_eq (tgt := 41) hx hb dX8_decoded_32 (by decide) (fun _ => ?_) (fun c9 => absurd c9 (by decide))
          refine lv_bipush (v := (-2)) hx hb dX8_decoded_41 (by decide) ?_
          exact W.iret (v := (-2)) hx hb hr (fun t ht _ => ⟨⟨(-2), (dm, dc), rfl, by simp [A_dec, ix_in b2 (show np < 2 ^ 31 by omega), ix_in b9 (show 10 < 2 ^ 31 by omega), ix_in b16 (show 10 < 2 ^ 31 by omega), g29], by rw [ht]; exact hP, hD⟩, hS.F ht⟩) hS.2.2 dX8_decoded_43
      · skip
        refine lv_if_ne (tgt := 24) hx hb dX8_decoded_19 (by decide) (fun c9 => absurd c9 (by decide)) (fun _ => ?_)
        refine lv_iconst (v := (-1)) hx hb dX8_decoded_22 (by decide) ?_
        exact W.iret (v := (-1)) hx hb hr (fun t ht _ => ⟨⟨(-1), (dm, dc), rfl, by simp [A_dec, ix_in b2 (show np < 2 ^ 31 by omega), ix_in b9 (show 10 < 2 ^ 31 by omega), ix_out b16], by rw [ht]; exact hP, hD⟩, hS.F ht⟩) hS.2.2 dX8_decoded_23
    · skip
      refine lv_if_eq (tgt := 22) hx hb dX8_decoded_12 (by decide) (fun _ => ?_) (fun c9 => absurd c9 (by decide))
      refine lv_iconst (v := (-1)) hx hb dX8_decoded_22 (by decide) ?_
      exact W.iret (v := (-1)) hx hb hr (fun t ht _ => ⟨⟨(-1), (dm, dc), rfl, by simp [A_dec, ix_in b2 (show np < 2 ^ 31 by omega), ix_out b9], by rw [ht]; exact hP, hD⟩, hS.F ht⟩) hS.2.2 dX8_decoded_23
  · skip
    refine lv_if_eq (tgt := 22) hx hb dX8_decoded_5 (by decide) (fun _ => ?_) (fun c9 => absurd c9 (by decide))
    refine lv_iconst (v := (-1)) hx hb dX8_decoded_22 (by decide) ?_
    exact W.iret (v := (-1)) hx hb hr (fun t ht _ => ⟨⟨(-1), (dm, dc), rfl, by simp [A_dec, ix_out b2], by rw [ht]; exact hP, hD⟩, hS.F ht⟩) hS.2.2 dX8_decoded_23
end
section
def WPt (G : GG) (av : List Value) (ws rs : va_W) (sz : Nat) : Array Value → State → Prop := va_Pc av (fun U => U.heap.size = sz ∧ PP G ws U.heap ∧ KK G U ∧ va_D (fun _ => True) ws ∧ PP G rs U.heap ∧ ∀ q ∈ rs, ∀ c ∈ ws, q.1 ≠ c.1)
theorem WPt.blind {G : GG} {av : List Value} {ws rs : va_W} {sz : Nat} : FrameBlind (WPt G av ws rs sz) := fun _ _ _ _ q => ⟨q.1, q.2.1, q.2.2.1, KK.call q.2.2.2.1, q.2.2.2.2⟩
theorem preWt {G : GG} {s : State} {H : Heap} {As : List Value} {ws rs : va_W} {A : Nat → Prop} (hK : KK G s) (hP : PP G ws H) (hD : va_D A ws) (hR : PP G rs H) (hd : ∀ q ∈ rs, ∀ c ∈ ws, q.1 ≠ c.1) : PreS s H (WPt G As ws rs H.size) As := ⟨WPt.blind, fun U hU hW => ⟨rfl, by rw [hU], by rw [hU]; exact hP, hK.warm hW, hD.weaken (fun _ _ _ _ => trivial), by rw [hU]; exact hR, hd⟩⟩
theorem preWtV {G : GG} {s : State} {H : Heap} {b : Nat} {As : List Value} {ws rs : va_W} {A : Nat → Prop} (hK : KK G s) (hP : PP G ws H) (hD : va_D A ws) (hR : PP G rs H) (hd : ∀ q ∈ rs, ∀ c ∈ ws, q.1 ≠ c.1) (q0 ci : Nat) {q : vw_C} {fs : List Value} (hc : vwCl[ci]? = some q) (he : ws[q0]? = some (b, .inr (ci, fs))) : PreV s H q.1 b (WPt G (.ref b :: As) ws rs H.size) As := ⟨WPt.blind, va_recv hK.1 hP hc he, fun U hU hW => ⟨rfl, by rw [hU], by rw [hU]; exact hP, hK.warm hW, hD.weaken (fun _ _ _ _ => trivial), by rw [hU]; exact hR, hd⟩⟩
theorem notA {G : GG} {rs ws : va_W} {H : Heap} (hR : PP G rs H) (hd : ∀ q ∈ rs, ∀ c ∈ ws, q.1 ≠ c.1) : ∀ q ∈ rs, ¬ va_A ws H.size q.1 := by
  intro q hq h
  rcases h with ⟨k, e, h⟩ | h
  · exact hd q hq (q.1, e) (List.mem_of_getElem? h) rfl
  · have := (va_P.get hR hq).lt
    omega
theorem keepT {G : GG} {rs : va_W} {A : Nat → Prop} {H0 H : Heap} {locs : List Loc} (hR0 : PP G rs H0) (hS : va_S A H0 H locs) (hTA : ∀ q ∈ rs, ¬ A q.1) : PP G rs H := fun k q hk => (hR0 k q hk).kept (hS.2.1 q.1 ((hR0 k q hk).lt) (hTA q (List.mem_of_getElem? hk)))
/-- cells of a world are apart from others of it -/
theorem dis_D {A : Nat → Prop} {W a b : va_W} (hD : va_D A W) (is js : List Nat) (ha : is.map (fun i => W[i]?) = a.map some) (hb : js.map (fun i => W[i]?) = b.map some) (hn : ∀ i ∈ is, i ∉ js) : ∀ q ∈ a, ∀ c ∈ b, q.1 ≠ c.1 := by
  have key : ∀ (is : List Nat) (a : va_W), is.map (fun i => W[i]?) = a.map some → ∀ q ∈ a, ∃ i ∈ is, W[i]? = some q := by
    intro is a ha q hq
    have h1 : some q ∈ a.map some := List.mem_map.mpr ⟨q, hq, rfl⟩
    rw [← ha] at h1
    obtain ⟨i, h2, h3⟩ := List.mem_map.mp h1
    exact ⟨i, h2, h3⟩
  intro q hq c hc e
  obtain ⟨i, h1, h2⟩ := key is a ha q hq
  obtain ⟨j, h3, h4⟩ := key js b hb c hc
  have := hD.1 i j q c h2 h4 e
  subst this
  exact hn i h1 h3
/-- cells outside a footprint are apart from those in it -/
theorem dis_A {A : Nat → Prop} {W rs a : va_W} (hTA : ∀ q ∈ rs, ¬ A q.1) (hD : va_D A W) (ha : ∀ q ∈ a, q ∈ rs) : ∀ q ∈ a, ∀ c ∈ W, q.1 ≠ c.1 := fun q hq c hc e => hTA q (ha q hq) (by
  obtain ⟨i, hi⟩ := List.getElem?_of_mem hc
  rw [e]
  exact hD.2 i c hi)
theorem dis_app {a b W : va_W} (h1 : ∀ q ∈ a, ∀ c ∈ W, q.1 ≠ c.1) (h2 : ∀ q ∈ b, ∀ c ∈ W, q.1 ≠ c.1) : ∀ q ∈ a ++ b, ∀ c ∈ W, q.1 ≠ c.1 := fun q hq => (List.mem_append.mp hq).elim (h1 q) (h2 q)
theorem mem_picks {W a : va_W} (is : List Nat) (ha : is.map (fun i => W[i]?) = a.map some) : ∀ q ∈ a, q ∈ W := by
  intro q hq
  have h1 : some q ∈ a.map some := List.mem_map.mpr ⟨q, hq, rfl⟩
  rw [← ha] at h1
  obtain ⟨i, -, h3⟩ := List.mem_map.mp h1
  exact List.mem_of_getElem? h3
theorem dec1 {t : Nat} (h : 1 ≤ t) : nI t - nI 1 + Int32.ofInt (-1) = nI (t - 1) - nI 1 := by
  obtain ⟨j, rfl⟩ : ∃ j, t = j + 1 := ⟨t - 1, by omega⟩
  rw [nI_succ]
  show nI j + 1 - 1 + (-1) = nI j - 1
  rw [Int32.add_sub_cancel, Int32.sub_eq_add_neg]
set_option maxHeartbeats 4000000 in
set_option maxRecDepth 100000 in
theorem c_X0_init (G : GG) (l : Launch) (q : Nat) (sz : Nat) : Met l yX0_init wsX0_init { frames := 1, cells := 1, slots := 30, locals := 12 } (WPc G [.ref q] [(q, ob 0 [.null, .int (nI 0)])] sz) (WQv G [(q, ob 0 [.null, .int (nI 0)])] sz (fun u : Nat => True) (fun u => [(q, ob 0 [.ref u, .int (nI 0)]), (u, iA G 30 (fun _ => nI 0))])) 1 30 (va_A [(q, ob 0 [.null, .int (nI 0)])] sz) := by
  refine Met.ofW (cc := cX0_init) (maxL := 1) (ret := none) (by decide) rfl ?_
  intro p e s m args below meth c s₁ B hml hv
  obtain ⟨rfl, hsz, hP, hK, hD0⟩ := hv
  have hx := B.exec
  have hb := B.bytes
  have hr := B.returns
  have hts := atoms_spec (ws := wsX0_init) B.pre
  have hown : s.vm.findClass RX0 = some m.cls := findClass_of_methodNamed B.named
  have hlocks := B.notSynchronized
  have hin : meth.name = "<init>" := (name_of_methodNamed B.named B.method).1
  subst hsz
  have hD := hD0.self (sz := s.heap.size)
  unfold WQv
  generalize hAe : va_A [(q, ob 0 [.null, .int (nI 0)])] s.heap.size = A at hD ⊢
  have hA : ∀ q : Nat, s.heap.size ≤ q → A q := fun q h => by rw [← hAe]; exact Or.inr h
  have hl := lv_entry ([.ref q]) (n := 1) (Nat.le_of_ble_eq_true rfl)
  rw [lg_entry_eq]
  generalize (lg_sl ([.ref q]) ++ List.replicate (1 - (lg_sl ([.ref q])).length) Slot.unset).toArray = ls at hl ⊢
  have hl : lv_has ls 1 [(0, .ref q)] := hl
  refine nameHL (fun H locs hH hL => ?_)
  have hP : PP G [(q, ob 0 [.null, .int (nI 0)])] H := by rw [hH]; exact hP
  have hS : va_S A s.heap H locs := by rw [hH, hL]; exact va_S.rf
  refine lv_aload_n hx hb dX0_init_0 rfl (lv_at hl 0 rfl) ?_
  refine W.objInit hx hb hown (hts (.methodLink RX0 3 objectInit) (by decide +kernel)) (hts (.instanceMethod objectInit) (by decide +kernel)) (hts (.code objectInit ⟨#[0xb1]⟩ 1 none) (by decide +kernel)) rfl (by rw [hml]; exact hl.1) rfl dX0_init_1 (Nat.le_of_ble_eq_true rfl) (Nat.le_of_ble_eq_true rfl) ?_
  refine W.eq (g2 := F0 m 4 ls []) rfl ?_
  refine lv_aload_n hx hb dX0_init_4 rfl (lv_at hl 0 rfl) ?_
  refine lv_bipush (v := nI 30) hx hb dX0_init_5 (by decide) ?_
  refine newI (N := 30) hx hb (hts (.arrayClass .int) (by decide +kernel)) hK.1 hP hD hS hA (Nat.le_of_ble_eq_true rfl) (Nat.le_of_ble_eq_true rfl) (Nat.le_of_ble_eq_true rfl) dX0_init_7 (fun q_1 H hP hD hS => ?_)
  have hP : PP G [(q, ob 0 [.null, .int (nI 0)]), (q_1, iA G 30 (fun j => nI ((fun _ => 0) j)))] H := hP
  have hD : va_D A [(q, ob 0 [.null, .int (nI 0)]), (q_1, iA G 30 (fun j => nI ((fun _ => 0) j)))] := hD
  refine va_putF (D := G.1) (ci := 0) (v := .ref q_1) (ty := (.array .int)) (C := RX0) (T := TX0) (N := 2) hx hb hts (by decide +kernel) tyX0 tyX0_ok nmX0 hown hK.1 hP hD hS 0 rfl rfl 0 (by decide) (hts (.fieldLink RX0 9 "CallNumbers$CallStack" "row" "[I") (by decide +kernel)) (fun _ h9 => h9) rfl hin rfl (by decide +kernel) rfl rfl (Nat.le_of_ble_eq_true rfl) dX0_init_9 (fun H locs hP hD hS => ?_)
  have hP : PP G [(q, ob 0 [.ref q_1, .int (nI 0)]), (q_1, iA G 30 (fun j => nI ((fun _ => 0) j)))] H := hP
  have hD : va_D A [(q, ob 0 [.ref q_1, .int (nI 0)]), (q_1, iA G 30 (fun j => nI ((fun _ => 0) j)))] := hD
  exact W.vret hx hb hr (fun t ht _ => ⟨⟨q_1, rfl, trivial, by rw [ht]; exact hP, hD⟩, hS.F ht⟩) hS.2.2 dX0_init_12
set_option maxHeartbeats 4000000 in
set_option maxRecDepth 100000 in
theorem c_X1_init (G : GG) (l : Launch) (q : Nat) (sz : Nat) : Met l yX1_init wsX1_init { frames := 1, cells := 2, slots := 48, locals := 12 } (WPc G [.ref q] [(q, ob 1 [.null, .null, .int (nI 0)])] sz) (WQv G [(q, ob 1 [.null, .null, .int (nI 0)])] sz (fun u : Nat × Nat => True) (fun u => [(q, ob 1 [.ref u.1, .ref u.2, .int (nI 0)]), (u.1, iA G 24 (fun _ => nI 0)), (u.2, iA G 24 (fun _ => nI 0))])) 2 48 (va_A [(q, ob 1 [.null, .null, .int (nI 0)])] sz) := by
  refine Met.ofW (cc := cX1_init) (maxL := 1) (ret := none) (by decide) rfl ?_
  intro p e s m args below meth c s₁ B hml hv
  obtain ⟨rfl, hsz, hP, hK, hD0⟩ := hv
  have hx := B.exec
  have hb := B.bytes
  have hr := B.returns
  have hts := atoms_spec (ws := wsX1_init) B.pre
  have hown : s.vm.findClass RX1 = some m.cls := findClass_of_methodNamed B.named
  have hlocks := B.notSynchronized
  have hin : meth.name = "<init>" := (name_of_methodNamed B.named B.method).1
  subst hsz
  have hD := hD0.self (sz := s.heap.size)
  unfold WQv
  generalize hAe : va_A [(q, ob 1 [.null, .null, .int (nI 0)])] s.heap.size = A at hD ⊢
  have hA : ∀ q : Nat, s.heap.size ≤ q → A q := fun q h => by rw [← hAe]; exact Or.inr h
  have hl := lv_entry ([.ref q]) (n := 1) (Nat.le_of_ble_eq_true rfl)
  rw [lg_entry_eq]
  generalize (lg_sl ([.ref q]) ++ List.replicate (1 - (lg_sl ([.ref q])).length) Slot.unset).toArray = ls at hl ⊢
  have hl : lv_has ls 1 [(0, .ref q)] := hl
  refine nameHL (fun H locs hH hL => ?_)
  have hP : PP G [(q, ob 1 [.null, .null, .int (nI 0)])] H := by rw [hH]; exact hP
  have hS : va_S A s.heap H locs := by rw [hH, hL]; exact va_S.rf
  refine lv_aload_n hx hb dX1_init_0 rfl (lv_at hl 0 rfl) ?_
  refine W.objInit hx hb hown (hts (.methodLink RX1 3 objectInit) (by decide +kernel)) (hts (.instanceMethod objectInit) (by decide +kernel)) (hts (.code objectInit ⟨#[0xb1]⟩ 1 none) (by decide +kernel)) rfl (by rw [hml]; exact hl.1) rfl dX1_init_1 (Nat.le_of_ble_eq_true rfl) (Nat.le_of_ble_eq_true rfl) ?_
  refine W.eq (g2 := F0 m 4 ls []) rfl ?_
  refine lv_aload_n hx hb dX1_init_4 rfl (lv_at hl 0 rfl) ?_
  refine lv_bipush (v := nI 24) hx hb dX1_init_5 (by decide) ?_
  refine newI (N := 24) hx hb (hts (.arrayClass .int) (by decide +kernel)) hK.1 hP hD hS hA (Nat.le_of_ble_eq_true rfl) (Nat.le_of_ble_eq_true rfl) (Nat.le_of_ble_eq_true rfl) dX1_init_7 (fun q_1 H hP hD hS => ?_)
  have hP : PP G [(q, ob 1 [.null, .null, .int (nI 0)]), (q_1, iA G 24 (fun j => nI ((fun _ => 0) j)))] H := hP
  have hD : va_D A [(q, ob 1 [.null, .null, .int (nI 0)]), (q_1, iA G 24 (fun j => nI ((fun _ => 0) j)))] := hD
  refine va_putF (D := G.1) (ci := 1) (v := .ref q_1) (ty := (.array .int)) (C := RX1) (T := TX1) (N := 3) hx hb hts (by decide +kernel) tyX1 tyX1_ok nmX1 hown hK.1 hP hD hS 0 rfl rfl 0 (by decide) (hts (.fieldLink RX1 9 "CallNumbers$Calls" "from" "[I") (by decide +kernel)) (fun _ h9 => h9) rfl hin rfl (by decide +kernel) rfl rfl (Nat.le_of_ble_eq_true rfl) dX1_init_9 (fun H locs hP hD hS => ?_)
  have hP : PP G [(q, ob 1 [.ref q_1, .null, .int (nI 0)]), (q_1, iA G 24 (fun j => nI ((fun _ => 0) j)))] H := hP
  have hD : va_D A [(q, ob 1 [.ref q_1, .null, .int (nI 0)]), (q_1, iA G 24 (fun j => nI ((fun _ => 0) j)))] := hD
  refine lv_aload_n hx hb dX1_init_12 rfl (lv_at hl 0 rfl) ?_
  refine lv_bipush (v := nI 24) hx hb dX1_init_13 (by decide) ?_
  refine newI (N := 24) hx hb (hts (.arrayClass .int) (by decide +kernel)) hK.1 hP hD hS hA (Nat.le_of_ble_eq_true rfl) (Nat.le_of_ble_eq_true rfl) (Nat.le_of_ble_eq_true rfl) dX1_init_15 (fun q_2 H hP hD hS => ?_)
  have hP : PP G [(q, ob 1 [.ref q_1, .null, .int (nI 0)]), (q_1, iA G 24 (fun j => nI ((fun _ => 0) j))), (q_2, iA G 24 (fun j => nI ((fun _ => 0) j)))] H := hP
  have hD : va_D A [(q, ob 1 [.ref q_1, .null, .int (nI 0)]), (q_1, iA G 24 (fun j => nI ((fun _ => 0) j))), (q_2, iA G 24 (fun j => nI ((fun _ => 0) j)))] := hD
  refine va_putF (D := G.1) (ci := 1) (v := .ref q_2) (ty := (.array .int)) (C := RX1) (T := TX1) (N := 3) hx hb hts (by decide +kernel) tyX1 tyX1_ok nmX1 hown hK.1 hP hD hS 0 rfl rfl 1 (by decide) (hts (.fieldLink RX1 15 "CallNumbers$Calls" "to" "[I") (by decide +kernel)) (fun _ h9 => h9) rfl hin rfl (by decide +kernel) rfl rfl (Nat.le_of_ble_eq_true rfl) dX1_init_17 (fun H locs hP hD hS => ?_)
  have hP : PP G [(q, ob 1 [.ref q_1, .ref q_2, .int (nI 0)]), (q_1, iA G 24 (fun j => nI ((fun _ => 0) j))), (q_2, iA G 24 (fun j => nI ((fun _ => 0) j)))] H := hP
  have hD : va_D A [(q, ob 1 [.ref q_1, .ref q_2, .int (nI 0)]), (q_1, iA G 24 (fun j => nI ((fun _ => 0) j))), (q_2, iA G 24 (fun j => nI ((fun _ => 0) j)))] := hD
  exact W.vret hx hb hr (fun t ht _ => ⟨⟨(q_1, q_2), rfl, trivial, by rw [ht]; exact hP, hD⟩, hS.F ht⟩) hS.2.2 dX1_init_20
set_option maxHeartbeats 4000000 in
set_option maxRecDepth 100000 in
theorem c_X2_init (G : GG) (l : Launch) (q : Nat) (sz : Nat) : Met l yX2_init wsX2_init { frames := 1, cells := 3, slots := 93, locals := 12 } (WPc G [.ref q] [(q, ob 2 [.null, .null, .null, .int (nI 0)])] sz) (WQv G [(q, ob 2 [.null, .null, .null, .int (nI 0)])] sz (fun u : Nat × Nat × Nat => True) (fun u => [(q, ob 2 [.ref u.1, .ref u.2.1, .ref u.2.2, .int (nI 0)]), (u.1, iA G 31 (fun _ => nI 0)), (u.2.1, iA G 31 (fun _ => nI 0)), (u.2.2, iA G 31 (fun _ => nI 0))])) 3 93 (va_A [(q, ob 2 [.null, .null, .null, .int (nI 0)])] sz) := by
  refine Met.ofW (cc := cX2_init) (maxL := 1) (ret := none) (by decide) rfl ?_
  intro p e s m args below meth c s₁ B hml hv
  obtain ⟨rfl, hsz, hP, hK, hD0⟩ := hv
  have hx := B.exec
  have hb := B.bytes
  have hr := B.returns
  have hts := atoms_spec (ws := wsX2_init) B.pre
  have hown : s.vm.findClass RX2 = some m.cls := findClass_of_methodNamed B.named
  have hlocks := B.notSynchronized
  have hin : meth.name = "<init>" := (name_of_methodNamed B.named B.method).1
  subst hsz
  have hD := hD0.self (sz := s.heap.size)
  unfold WQv
  generalize hAe : va_A [(q, ob 2 [.null, .null, .null, .int (nI 0)])] s.heap.size = A at hD ⊢
  have hA : ∀ q : Nat, s.heap.size ≤ q → A q := fun q h => by rw [← hAe]; exact Or.inr h
  have hl := lv_entry ([.ref q]) (n := 1) (Nat.le_of_ble_eq_true rfl)
  rw [lg_entry_eq]
  generalize (lg_sl ([.ref q]) ++ List.replicate (1 - (lg_sl ([.ref q])).length) Slot.unset).toArray = ls at hl ⊢
  have hl : lv_has ls 1 [(0, .ref q)] := hl
  refine nameHL (fun H locs hH hL => ?_)
  have hP : PP G [(q, ob 2 [.null, .null, .null, .int (nI 0)])] H := by rw [hH]; exact hP
  have hS : va_S A s.heap H locs := by rw [hH, hL]; exact va_S.rf
  refine lv_aload_n hx hb dX2_init_0 rfl (lv_at hl 0 rfl) ?_
  refine W.objInit hx hb hown (hts (.methodLink RX2 3 objectInit) (by decide +kernel)) (hts (.instanceMethod objectInit) (by decide +kernel)) (hts (.code objectInit ⟨#[0xb1]⟩ 1 none) (by decide +kernel)) rfl (by rw [hml]; exact hl.1) rfl dX2_init_1 (Nat.le_of_ble_eq_true rfl) (Nat.le_of_ble_eq_true rfl) ?_
  refine W.eq (g2 := F0 m 4 ls []) rfl ?_
  refine lv_aload_n hx hb dX2_init_4 rfl (lv_at hl 0 rfl) ?_
  refine lv_bipush (v := nI 31) hx hb dX2_init_5 (by decide) ?_
  refine newI (N := 31) hx hb (hts (.arrayClass .int) (by decide +kernel)) hK.1 hP hD hS hA (Nat.le_of_ble_eq_true rfl) (Nat.le_of_ble_eq_true rfl) (Nat.le_of_ble_eq_true rfl) dX2_init_7 (fun q_1 H hP hD hS => ?_)
  have hP : PP G [(q, ob 2 [.null, .null, .null, .int (nI 0)]), (q_1, iA G 31 (fun j => nI ((fun _ => 0) j)))] H := hP
  have hD : va_D A [(q, ob 2 [.null, .null, .null, .int (nI 0)]), (q_1, iA G 31 (fun j => nI ((fun _ => 0) j)))] := hD
  refine va_putF (D := G.1) (ci := 2) (v := .ref q_1) (ty := (.array .int)) (C := RX2) (T := TX2) (N := 4) hx hb hts (by decide +kernel) tyX2 tyX2_ok nmX2 hown hK.1 hP hD hS 0 rfl rfl 0 (by decide) (hts (.fieldLink RX2 9 "CallNumbers$Code" "start" "[I") (by decide +kernel)) (fun _ h9 => h9) rfl hin rfl (by decide +kernel) rfl rfl (Nat.le_of_ble_eq_true rfl) dX2_init_9 (fun H locs hP hD hS => ?_)
  have hP : PP G [(q, ob 2 [.ref q_1, .null, .null, .int (nI 0)]), (q_1, iA G 31 (fun j => nI ((fun _ => 0) j)))] H := hP
  have hD : va_D A [(q, ob 2 [.ref q_1, .null, .null, .int (nI 0)]), (q_1, iA G 31 (fun j => nI ((fun _ => 0) j)))] := hD
  refine lv_aload_n hx hb dX2_init_12 rfl (lv_at hl 0 rfl) ?_
  refine lv_bipush (v := nI 31) hx hb dX2_init_13 (by decide) ?_
  refine newI (N := 31) hx hb (hts (.arrayClass .int) (by decide +kernel)) hK.1 hP hD hS hA (Nat.le_of_ble_eq_true rfl) (Nat.le_of_ble_eq_true rfl) (Nat.le_of_ble_eq_true rfl) dX2_init_15 (fun q_2 H hP hD hS => ?_)
  have hP : PP G [(q, ob 2 [.ref q_1, .null, .null, .int (nI 0)]), (q_1, iA G 31 (fun j => nI ((fun _ => 0) j))), (q_2, iA G 31 (fun j => nI ((fun _ => 0) j)))] H := hP
  have hD : va_D A [(q, ob 2 [.ref q_1, .null, .null, .int (nI 0)]), (q_1, iA G 31 (fun j => nI ((fun _ => 0) j))), (q_2, iA G 31 (fun j => nI ((fun _ => 0) j)))] := hD
  refine va_putF (D := G.1) (ci := 2) (v := .ref q_2) (ty := (.array .int)) (C := RX2) (T := TX2) (N := 4) hx hb hts (by decide +kernel) tyX2 tyX2_ok nmX2 hown hK.1 hP hD hS 0 rfl rfl 1 (by decide) (hts (.fieldLink RX2 15 "CallNumbers$Code" "number" "[I") (by decide +kernel)) (fun _ h9 => h9) rfl hin rfl (by decide +kernel) rfl rfl (Nat.le_of_ble_eq_true rfl) dX2_init_17 (fun H locs hP hD hS => ?_)
  have hP : PP G [(q, ob 2 [.ref q_1, .ref q_2, .null, .int (nI 0)]), (q_1, iA G 31 (fun j => nI ((fun _ => 0) j))), (q_2, iA G 31 (fun j => nI ((fun _ => 0) j)))] H := hP
  have hD : va_D A [(q, ob 2 [.ref q_1, .ref q_2, .null, .int (nI 0)]), (q_1, iA G 31 (fun j => nI ((fun _ => 0) j))), (q_2, iA G 31 (fun j => nI ((fun _ => 0) j)))] := hD
  refine lv_aload_n hx hb dX2_init_20 rfl (lv_at hl 0 rfl) ?_
  refine lv_bipush (v := nI 31) hx hb dX2_init_21 (by decide) ?_
  refine newI (N := 31) hx hb (hts (.arrayClass .int) (by decide +kernel)) hK.1 hP hD hS hA (Nat.le_of_ble_eq_true rfl) (Nat.le_of_ble_eq_true rfl) (Nat.le_of_ble_eq_true rfl) dX2_init_23 (fun q_3 H hP hD hS => ?_)
  have hP : PP G [(q, ob 2 [.ref q_1, .ref q_2, .null, .int (nI 0)]), (q_1, iA G 31 (fun j => nI ((fun _ => 0) j))), (q_2, iA G 31 (fun j => nI ((fun _ => 0) j))), (q_3, iA G 31 (fun j => nI ((fun _ => 0) j)))] H := hP
  have hD : va_D A [(q, ob 2 [.ref q_1, .ref q_2, .null, .int (nI 0)]), (q_1, iA G 31 (fun j => nI ((fun _ => 0) j))), (q_2, iA G 31 (fun j => nI ((fun _ => 0) j))), (q_3, iA G 31 (fun j => nI ((fun _ => 0) j)))] := hD
  refine va_putF (D := G.1) (ci := 2) (v := .ref q_3) (ty := (.array .int)) (C := RX2) (T := TX2) (N := 4) hx hb hts (by decide +kernel) tyX2 tyX2_ok nmX2 hown hK.1 hP hD hS 0 rfl rfl 2 (by decide) (hts (.fieldLink RX2 18 "CallNumbers$Code" "via" "[I") (by decide +kernel)) (fun _ h9 => h9) rfl hin rfl (by decide +kernel) rfl rfl (Nat.le_of_ble_eq_true rfl) dX2_init_25 (fun H locs hP hD hS => ?_)
  have hP : PP G [(q, ob 2 [.ref q_1, .ref q_2, .ref q_3, .int (nI 0)]), (q_1, iA G 31 (fun j => nI ((fun _ => 0) j))), (q_2, iA G 31 (fun j => nI ((fun _ => 0) j))), (q_3, iA G 31 (fun j => nI ((fun _ => 0) j)))] H := hP
  have hD : va_D A [(q, ob 2 [.ref q_1, .ref q_2, .ref q_3, .int (nI 0)]), (q_1, iA G 31 (fun j => nI ((fun _ => 0) j))), (q_2, iA G 31 (fun j => nI ((fun _ => 0) j))), (q_3, iA G 31 (fun j => nI ((fun _ => 0) j)))] := hD
  exact W.vret hx hb hr (fun t ht _ => ⟨⟨(q_1, q_2, q_3), rfl, trivial, by rw [ht]; exact hP, hD⟩, hS.F ht⟩) hS.2.2 dX2_init_28
set_option maxHeartbeats 4000000 in
set_option maxRecDepth 100000 in
theorem c_X3_init (G : GG) (l : Launch) (q : Nat) (sz : Nat) : Met l yX3_init wsX3_init { frames := 1, cells := 1, slots := 10, locals := 12 } (WPc G [.ref q] [(q, ob 3 [.null, .int (nI 0)])] sz) (WQv G [(q, ob 3 [.null, .int (nI 0)])] sz (fun u : Nat => True) (fun u => [(q, ob 3 [.ref u, .int (nI 0)]), (u, iA G 10 (fun _ => nI 0))])) 1 10 (va_A [(q, ob 3 [.null, .int (nI 0)])] sz) := by
  refine Met.ofW (cc := cX3_init) (maxL := 1) (ret := none) (by decide) rfl ?_
  intro p e s m args below meth c s₁ B hml hv
  obtain ⟨rfl, hsz, hP, hK, hD0⟩ := hv
  have hx := B.exec
  have hb := B.bytes
  have hr := B.returns
  have hts := atoms_spec (ws := wsX3_init) B.pre
  have hown : s.vm.findClass RX3 = some m.cls := findClass_of_methodNamed B.named
  have hlocks := B.notSynchronized
  have hin : meth.name = "<init>" := (name_of_methodNamed B.named B.method).1
  subst hsz
  have hD := hD0.self (sz := s.heap.size)
  unfold WQv
  generalize hAe : va_A [(q, ob 3 [.null, .int (nI 0)])] s.heap.size = A at hD ⊢
  have hA : ∀ q : Nat, s.heap.size ≤ q → A q := fun q h => by rw [← hAe]; exact Or.inr h
  have hl := lv_entry ([.ref q]) (n := 1) (Nat.le_of_ble_eq_true rfl)
  rw [lg_entry_eq]
  generalize (lg_sl ([.ref q]) ++ List.replicate (1 - (lg_sl ([.ref q])).length) Slot.unset).toArray = ls at hl ⊢
  have hl : lv_has ls 1 [(0, .ref q)] := hl
  refine nameHL (fun H locs hH hL => ?_)
  have hP : PP G [(q, ob 3 [.null, .int (nI 0)])] H := by rw [hH]; exact hP
  have hS : va_S A s.heap H locs := by rw [hH, hL]; exact va_S.rf
  refine lv_aload_n hx hb dX3_init_0 rfl (lv_at hl 0 rfl) ?_
  refine W.objInit hx hb hown (hts (.methodLink RX3 3 objectInit) (by decide +kernel)) (hts (.instanceMethod objectInit) (by decide +kernel)) (hts (.code objectInit ⟨#[0xb1]⟩ 1 none) (by decide +kernel)) rfl (by rw [hml]; exact hl.1) rfl dX3_init_1 (Nat.le_of_ble_eq_true rfl) (Nat.le_of_ble_eq_true rfl) ?_
  refine W.eq (g2 := F0 m 4 ls []) rfl ?_
  refine lv_aload_n hx hb dX3_init_4 rfl (lv_at hl 0 rfl) ?_
  refine lv_bipush (v := nI 10) hx hb dX3_init_5 (by decide) ?_
  refine newI (N := 10) hx hb (hts (.arrayClass .int) (by decide +kernel)) hK.1 hP hD hS hA (Nat.le_of_ble_eq_true rfl) (Nat.le_of_ble_eq_true rfl) (Nat.le_of_ble_eq_true rfl) dX3_init_7 (fun q_1 H hP hD hS => ?_)
  have hP : PP G [(q, ob 3 [.null, .int (nI 0)]), (q_1, iA G 10 (fun j => nI ((fun _ => 0) j)))] H := hP
  have hD : va_D A [(q, ob 3 [.null, .int (nI 0)]), (q_1, iA G 10 (fun j => nI ((fun _ => 0) j)))] := hD
  refine va_putF (D := G.1) (ci := 3) (v := .ref q_1) (ty := (.array .int)) (C := RX3) (T := TX3) (N := 2) hx hb hts (by decide +kernel) tyX3 tyX3_ok nmX3 hown hK.1 hP hD hS 0 rfl rfl 0 (by decide) (hts (.fieldLink RX3 9 "CallNumbers$Decoder" "backward" "[I") (by decide +kernel)) (fun _ h9 => h9) rfl hin rfl (by decide +kernel) rfl rfl (Nat.le_of_ble_eq_true rfl) dX3_init_9 (fun H locs hP hD hS => ?_)
  have hP : PP G [(q, ob 3 [.ref q_1, .int (nI 0)]), (q_1, iA G 10 (fun j => nI ((fun _ => 0) j)))] H := hP
  have hD : va_D A [(q, ob 3 [.ref q_1, .int (nI 0)]), (q_1, iA G 10 (fun j => nI ((fun _ => 0) j)))] := hD
  exact W.vret hx hb hr (fun t ht _ => ⟨⟨q_1, rfl, trivial, by rw [ht]; exact hP, hD⟩, hS.F ht⟩) hS.2.2 dX3_init_12
set_option maxHeartbeats 4000000 in
set_option maxRecDepth 100000 in
theorem c_X4_init (G : GG) (l : Launch) (q : Nat) (sz : Nat) : Met l yX4_init wsX4_init { frames := 1, cells := 2, slots := 34, locals := 12 } (WPc G [.ref q] [(q, ob 4 [.null, .null, .int (nI 0), .int (nI 0), .int (nI 0), .int (nI 0), .int (nI 0)])] sz) (WQv G [(q, ob 4 [.null, .null, .int (nI 0), .int (nI 0), .int (nI 0), .int (nI 0), .int (nI 0)])] sz (fun u : Nat × Nat => True) (fun u => [(q, ob 4 [.ref u.1, .ref u.2, .int (nI 0), .int (nI 0), .int (nI 0), .int (nI 0), .int (nI 0)]), (u.1, iA G 10 (fun _ => nI 0)), (u.2, iA G 24 (fun _ => nI 0))])) 2 34 (va_A [(q, ob 4 [.null, .null, .int (nI 0), .int (nI 0), .int (nI 0), .int (nI 0), .int (nI 0)])] sz) := by
  refine Met.ofW (cc := cX4_init) (maxL := 1) (ret := none) (by decide) rfl ?_
  intro p e s m args below meth c s₁ B hml hv
  obtain ⟨rfl, hsz, hP, hK, hD0⟩ := hv
  have hx := B.exec
  have hb := B.bytes
  have hr := B.returns
  have hts := atoms_spec (ws := wsX4_init) B.pre
  have hown : s.vm.findClass RX4 = some m.cls := findClass_of_methodNamed B.named
  have hlocks := B.notSynchronized
  have hin : meth.name = "<init>" := (name_of_methodNamed B.named B.method).1
  subst hsz
  have hD := hD0.self (sz := s.heap.size)
  unfold WQv
  generalize hAe : va_A [(q, ob 4 [.null, .null, .int (nI 0), .int (nI 0), .int (nI 0), .int (nI 0), .int (nI 0)])] s.heap.size = A at hD ⊢
  have hA : ∀ q : Nat, s.heap.size ≤ q → A q := fun q h => by rw [← hAe]; exact Or.inr h
  have hl := lv_entry ([.ref q]) (n := 1) (Nat.le_of_ble_eq_true rfl)
  rw [lg_entry_eq]
  generalize (lg_sl ([.ref q]) ++ List.replicate (1 - (lg_sl ([.ref q])).length) Slot.unset).toArray = ls at hl ⊢
  have hl : lv_has ls 1 [(0, .ref q)] := hl
  refine nameHL (fun H locs hH hL => ?_)
  have hP : PP G [(q, ob 4 [.null, .null, .int (nI 0), .int (nI 0), .int (nI 0), .int (nI 0), .int (nI 0)])] H := by rw [hH]; exact hP
  have hS : va_S A s.heap H locs := by rw [hH, hL]; exact va_S.rf
  refine lv_aload_n hx hb dX4_init_0 rfl (lv_at hl 0 rfl) ?_
  refine W.objInit hx hb hown (hts (.methodLink RX4 3 objectInit) (by decide +kernel)) (hts (.instanceMethod objectInit) (by decide +kernel)) (hts (.code objectInit ⟨#[0xb1]⟩ 1 none) (by decide +kernel)) rfl (by rw [hml]; exact hl.1) rfl dX4_init_1 (Nat.le_of_ble_eq_true rfl) (Nat.le_of_ble_eq_true rfl) ?_
  refine W.eq (g2 := F0 m 4 ls []) rfl ?_
  refine lv_aload_n hx hb dX4_init_4 rfl (lv_at hl 0 rfl) ?_
  refine lv_bipush (v := nI 10) hx hb dX4_init_5 (by decide) ?_
  refine newI (N := 10) hx hb (hts (.arrayClass .int) (by decide +kernel)) hK.1 hP hD hS hA (Nat.le_of_ble_eq_true rfl) (Nat.le_of_ble_eq_true rfl) (Nat.le_of_ble_eq_true rfl) dX4_init_7 (fun q_1 H hP hD hS => ?_)
  have hP : PP G [(q, ob 4 [.null, .null, .int (nI 0), .int (nI 0), .int (nI 0), .int (nI 0), .int (nI 0)]), (q_1, iA G 10 (fun j => nI ((fun _ => 0) j)))] H := hP
  have hD : va_D A [(q, ob 4 [.null, .null, .int (nI 0), .int (nI 0), .int (nI 0), .int (nI 0), .int (nI 0)]), (q_1, iA G 10 (fun j => nI ((fun _ => 0) j)))] := hD
  refine va_putF (D := G.1) (ci := 4) (v := .ref q_1) (ty := (.array .int)) (C := RX4) (T := TX4) (N := 7) hx hb hts (by decide +kernel) tyX4 tyX4_ok nmX4 hown hK.1 hP hD hS 0 rfl rfl 0 (by decide) (hts (.fieldLink RX4 9 "CallNumbers$Plan" "ways" "[I") (by decide +kernel)) (fun _ h9 => h9) rfl hin rfl (by decide +kernel) rfl rfl (Nat.le_of_ble_eq_true rfl) dX4_init_9 (fun H locs hP hD hS => ?_)
  have hP : PP G [(q, ob 4 [.ref q_1, .null, .int (nI 0), .int (nI 0), .int (nI 0), .int (nI 0), .int (nI 0)]), (q_1, iA G 10 (fun j => nI ((fun _ => 0) j)))] H := hP
  have hD : va_D A [(q, ob 4 [.ref q_1, .null, .int (nI 0), .int (nI 0), .int (nI 0), .int (nI 0), .int (nI 0)]), (q_1, iA G 10 (fun j => nI ((fun _ => 0) j)))] := hD
  refine lv_aload_n hx hb dX4_init_12 rfl (lv_at hl 0 rfl) ?_
  refine lv_bipush (v := nI 24) hx hb dX4_init_13 (by decide) ?_
  refine newI (N := 24) hx hb (hts (.arrayClass .int) (by decide +kernel)) hK.1 hP hD hS hA (Nat.le_of_ble_eq_true rfl) (Nat.le_of_ble_eq_true rfl) (Nat.le_of_ble_eq_true rfl) dX4_init_15 (fun q_2 H hP hD hS => ?_)
  have hP : PP G [(q, ob 4 [.ref q_1, .null, .int (nI 0), .int (nI 0), .int (nI 0), .int (nI 0), .int (nI 0)]), (q_1, iA G 10 (fun j => nI ((fun _ => 0) j))), (q_2, iA G 24 (fun j => nI ((fun _ => 0) j)))] H := hP
  have hD : va_D A [(q, ob 4 [.ref q_1, .null, .int (nI 0), .int (nI 0), .int (nI 0), .int (nI 0), .int (nI 0)]), (q_1, iA G 10 (fun j => nI ((fun _ => 0) j))), (q_2, iA G 24 (fun j => nI ((fun _ => 0) j)))] := hD
  refine va_putF (D := G.1) (ci := 4) (v := .ref q_2) (ty := (.array .int)) (C := RX4) (T := TX4) (N := 7) hx hb hts (by decide +kernel) tyX4 tyX4_ok nmX4 hown hK.1 hP hD hS 0 rfl rfl 1 (by decide) (hts (.fieldLink RX4 15 "CallNumbers$Plan" "adds" "[I") (by decide +kernel)) (fun _ h9 => h9) rfl hin rfl (by decide +kernel) rfl rfl (Nat.le_of_ble_eq_true rfl) dX4_init_17 (fun H locs hP hD hS => ?_)
  have hP : PP G [(q, ob 4 [.ref q_1, .ref q_2, .int (nI 0), .int (nI 0), .int (nI 0), .int (nI 0), .int (nI 0)]), (q_1, iA G 10 (fun j => nI ((fun _ => 0) j))), (q_2, iA G 24 (fun j => nI ((fun _ => 0) j)))] H := hP
  have hD : va_D A [(q, ob 4 [.ref q_1, .ref q_2, .int (nI 0), .int (nI 0), .int (nI 0), .int (nI 0), .int (nI 0)]), (q_1, iA G 10 (fun j => nI ((fun _ => 0) j))), (q_2, iA G 24 (fun j => nI ((fun _ => 0) j)))] := hD
  exact W.vret hx hb hr (fun t ht _ => ⟨⟨(q_1, q_2), rfl, trivial, by rw [ht]; exact hP, hD⟩, hS.F ht⟩) hS.2.2 dX4_init_20
set_option maxHeartbeats 4000000 in
set_option maxRecDepth 100000 in
theorem c_X6_init (G : GG) (l : Launch) (q : Nat) (sz : Nat) : Met l yX6_init wsX6_init { frames := 1, cells := 1, slots := 10, locals := 12 } (WPc G [.ref q] [(q, ob 6 [.null, .int (nI 0), .int (nI 0), .int (nI 0), .int (nI 0)])] sz) (WQv G [(q, ob 6 [.null, .int (nI 0), .int (nI 0), .int (nI 0), .int (nI 0)])] sz (fun u : Nat => True) (fun u => [(q, ob 6 [.ref u, .int (nI 0), .int (nI 0), .int (nI 0), .int (nI 0)]), (u, iA G 10 (fun _ => nI 0))])) 1 10 (va_A [(q, ob 6 [.null, .int (nI 0), .int (nI 0), .int (nI 0), .int (nI 0)])] sz) := by
  refine Met.ofW (cc := cX6_init) (maxL := 1) (ret := none) (by decide) rfl ?_
  intro p e s m args below meth c s₁ B hml hv
  obtain ⟨rfl, hsz, hP, hK, hD0⟩ := hv
  have hx := B.exec
  have hb := B.bytes
  have hr := B.returns
  have hts := atoms_spec (ws := wsX6_init) B.pre
  have hown : s.vm.findClass RX6 = some m.cls := findClass_of_methodNamed B.named
  have hlocks := B.notSynchronized
  have hin : meth.name = "<init>" := (name_of_methodNamed B.named B.method).1
  subst hsz
  have hD := hD0.self (sz := s.heap.size)
  unfold WQv
  generalize hAe : va_A [(q, ob 6 [.null, .int (nI 0), .int (nI 0), .int (nI 0), .int (nI 0)])] s.heap.size = A at hD ⊢
  have hA : ∀ q : Nat, s.heap.size ≤ q → A q := fun q h => by rw [← hAe]; exact Or.inr h
  have hl := lv_entry ([.ref q]) (n := 1) (Nat.le_of_ble_eq_true rfl)
  rw [lg_entry_eq]
  generalize (lg_sl ([.ref q]) ++ List.replicate (1 - (lg_sl ([.ref q])).length) Slot.unset).toArray = ls at hl ⊢
  have hl : lv_has ls 1 [(0, .ref q)] := hl
  refine nameHL (fun H locs hH hL => ?_)
  have hP : PP G [(q, ob 6 [.null, .int (nI 0), .int (nI 0), .int (nI 0), .int (nI 0)])] H := by rw [hH]; exact hP
  have hS : va_S A s.heap H locs := by rw [hH, hL]; exact va_S.rf
  refine lv_aload_n hx hb dX6_init_0 rfl (lv_at hl 0 rfl) ?_
  refine W.objInit hx hb hown (hts (.methodLink RX6 3 objectInit) (by decide +kernel)) (hts (.instanceMethod objectInit) (by decide +kernel)) (hts (.code objectInit ⟨#[0xb1]⟩ 1 none) (by decide +kernel)) rfl (by rw [hml]; exact hl.1) rfl dX6_init_1 (Nat.le_of_ble_eq_true rfl) (Nat.le_of_ble_eq_true rfl) ?_
  refine W.eq (g2 := F0 m 4 ls []) rfl ?_
  refine lv_aload_n hx hb dX6_init_4 rfl (lv_at hl 0 rfl) ?_
  refine lv_bipush (v := nI 10) hx hb dX6_init_5 (by decide) ?_
  refine newI (N := 10) hx hb (hts (.arrayClass .int) (by decide +kernel)) hK.1 hP hD hS hA (Nat.le_of_ble_eq_true rfl) (Nat.le_of_ble_eq_true rfl) (Nat.le_of_ble_eq_true rfl) dX6_init_7 (fun q_1 H hP hD hS => ?_)
  have hP : PP G [(q, ob 6 [.null, .int (nI 0), .int (nI 0), .int (nI 0), .int (nI 0)]), (q_1, iA G 10 (fun j => nI ((fun _ => 0) j)))] H := hP
  have hD : va_D A [(q, ob 6 [.null, .int (nI 0), .int (nI 0), .int (nI 0), .int (nI 0)]), (q_1, iA G 10 (fun j => nI ((fun _ => 0) j)))] := hD
  refine va_putF (D := G.1) (ci := 6) (v := .ref q_1) (ty := (.array .int)) (C := RX6) (T := TX6) (N := 5) hx hb hts (by decide +kernel) tyX6 tyX6_ok nmX6 hown hK.1 hP hD hS 0 rfl rfl 0 (by decide) (hts (.fieldLink RX6 9 "CallNumbers$Walk" "ended" "[I") (by decide +kernel)) (fun _ h9 => h9) rfl hin rfl (by decide +kernel) rfl rfl (Nat.le_of_ble_eq_true rfl) dX6_init_9 (fun H locs hP hD hS => ?_)
  have hP : PP G [(q, ob 6 [.ref q_1, .int (nI 0), .int (nI 0), .int (nI 0), .int (nI 0)]), (q_1, iA G 10 (fun j => nI ((fun _ => 0) j)))] H := hP
  have hD : va_D A [(q, ob 6 [.ref q_1, .int (nI 0), .int (nI 0), .int (nI 0), .int (nI 0)]), (q_1, iA G 10 (fun j => nI ((fun _ => 0) j)))] := hD
  exact W.vret hx hb hr (fun t ht _ => ⟨⟨q_1, rfl, trivial, by rw [ht]; exact hP, hD⟩, hS.F ht⟩) hS.2.2 dX6_init_12
set_option maxHeartbeats 4000000 in
set_option maxRecDepth 100000 in
theorem c_X2_begin (G : GG) (l : Launch) (qk k1 k2 k3 kc : Nat) (ks kn : Nat → Nat) (kv : Nat → Int32) (r0 : Nat) (hk : kc < 31) (sz : Nat) : Met l yX2_begin wsX2_begin { frames := 0, cells := 0, slots := 0, locals := 0 } (WPc G [.ref qk, .int (nI r0)] [(qk, ob 2 [.ref k1, .ref k2, .ref k3, .int (nI kc)]), (k1, iA G 31 (fun j => nI (ks j))), (k2, iA G 31 (fun j => nI (kn j))), (k3, iA G 31 kv)] sz) (WQv G [(qk, ob 2 [.ref k1, .ref k2, .ref k3, .int (nI kc)]), (k1, iA G 31 (fun j => nI (ks j))), (k2, iA G 31 (fun j => nI (kn j))), (k3, iA G 31 kv)] sz (fun u : Unit => True) (fun u => [(qk, ob 2 [.ref k1, .ref k2, .ref k3, .int (nI (kc + 1))]), (k1, iA G 31 (fun j => nI ((va_up ks kc r0) j))), (k2, iA G 31 (fun j => nI ((va_up kn kc 0) j))), (k3, iA G 31 (va_up kv kc (-9)))])) 0 0 (va_A [(qk, ob 2 [.ref k1, .ref k2, .ref k3, .int (nI kc)]), (k1, iA G 31 (fun j => nI (ks j))), (k2, iA G 31 (fun j => nI (kn j))), (k3, iA G 31 kv)] sz) := by
  refine Met.ofW (cc := cX2_begin) (maxL := 2) (ret := none) (by decide) rfl ?_
  intro p e s m args below meth c s₁ B hml hv
  obtain ⟨rfl, hsz, hP, hK, hD0⟩ := hv
  have hx := B.exec
  have hb := B.bytes
  have hr := B.returns
  have hts := atoms_spec (ws := wsX2_begin) B.pre
  have hown : s.vm.findClass RX2 = some m.cls := findClass_of_methodNamed B.named
  have hlocks := B.notSynchronized
  subst hsz
  have hD := hD0.self (sz := s.heap.size)
  unfold WQv
  generalize hAe : va_A [(qk, ob 2 [.ref k1, .ref k2, .ref k3, .int (nI kc)]), (k1, iA G 31 (fun j => nI (ks j))), (k2, iA G 31 (fun j => nI (kn j))), (k3, iA G 31 kv)] s.heap.size = A at hD ⊢
  have hA : ∀ q : Nat, s.heap.size ≤ q → A q := fun q h => by rw [← hAe]; exact Or.inr h
  have hl := lv_entry ([.ref qk, .int (nI r0)]) (n := 2) (Nat.le_of_ble_eq_true rfl)
  rw [lg_entry_eq]
  generalize (lg_sl ([.ref qk, .int (nI r0)]) ++ List.replicate (2 - (lg_sl ([.ref qk, .int (nI r0)])).length) Slot.unset).toArray = ls at hl ⊢
  have hl : lv_has ls 2 [(0, .ref qk), (1, .int (nI r0))] := hl
  refine nameHL (fun H locs hH hL => ?_)
  have hP : PP G [(qk, ob 2 [.ref k1, .ref k2, .ref k3, .int (nI kc)]), (k1, iA G 31 (fun j => nI (ks j))), (k2, iA G 31 (fun j => nI (kn j))), (k3, iA G 31 kv)] H := by rw [hH]; exact hP
  have hS : va_S A s.heap H locs := by rw [hH, hL]; exact va_S.rf
  refine lv_aload_n hx hb dX2_begin_0 rfl (lv_at hl 0 rfl) ?_
  refine va_get (D := G.1) (ci := 2) (v := .int (nI kc)) (C := RX2) (T := TX2) (N := 4) hx hb hts (by decide +kernel) hown hK.1 hP 0 rfl rfl 3 (by decide) (hts (.fieldLink RX2 21 "CallNumbers$Code" "count" "I") (by decide +kernel)) (fun _ h9 => h9) rfl dX2_begin_1 ?_
  refine lv_bipush (v := nI 30) hx hb dX2_begin_4 (by decide) ?_
  refine lv_icmp_gt (tgt := 50) hx hb dX2_begin_6 (by decide) (fun c6 => ?_) (fun c6 => ?_)
  · skip
    have c6 := (nI_ltI (a := 30) (b := kc) (by omega) (by omega)).mp c6
    exact absurd c6 (by omega)
  · skip
    have c6 := mt (nI_ltI (a := 30) (b := kc) (by omega) (by omega)).mpr c6
    refine lv_aload_n hx hb dX2_begin_9 rfl (lv_at hl 0 rfl) ?_
    refine va_get (D := G.1) (ci := 2) (v := .ref k1) (C := RX2) (T := TX2) (N := 4) hx hb hts (by decide +kernel) hown hK.1 hP 0 rfl rfl 0 (by decide) (hts (.fieldLink RX2 9 "CallNumbers$Code" "start" "[I") (by decide +kernel)) (fun _ h9 => h9) rfl dX2_begin_10 ?_
    refine lv_aload_n hx hb dX2_begin_13 rfl (lv_at hl 0 rfl) ?_
    refine va_get (D := G.1) (ci := 2) (v := .int (nI kc)) (C := RX2) (T := TX2) (N := 4) hx hb hts (by decide +kernel) hown hK.1 hP 0 rfl rfl 3 (by decide) (hts (.fieldLink RX2 21 "CallNumbers$Code" "count" "I") (by decide +kernel)) (fun _ h9 => h9) rfl dX2_begin_14 ?_
    refine lv_iload_n hx hb dX2_begin_17 rfl (lv_at hl 1 rfl) ?_
    refine iastN (k := kc) (f := ks) (x := r0) hx hb hK.1 hP hD hS 1 0 rfl rfl (rfl) (by omega) (Nat.le_of_ble_eq_true rfl) dX2_begin_18 (fun H locs hP hD hS => ?_)
    have hP : PP G [(qk, ob 2 [.ref k1, .ref k2, .ref k3, .int (nI kc)]), (k1, iA G 31 (fun j => nI ((va_up ks kc r0) j))), (k2, iA G 31 (fun j => nI (kn j))), (k3, iA G 31 kv)] H := hP
    have hD : va_D A [(qk, ob 2 [.ref k1, .ref k2, .ref k3, .int (nI kc)]), (k1, iA G 31 (fun j => nI ((va_up ks kc r0) j))), (k2, iA G 31 (fun j => nI (kn j))), (k3, iA G 31 kv)] := hD
    refine lv_aload_n hx hb dX2_begin_19 rfl (lv_at hl 0 rfl) ?_
    refine va_get (D := G.1) (ci := 2) (v := .ref k2) (C := RX2) (T := TX2) (N := 4) hx hb hts (by decide +kernel) hown hK.1 hP 0 rfl rfl 1 (by decide) (hts (.fieldLink RX2 15 "CallNumbers$Code" "number" "[I") (by decide +kernel)) (fun _ h9 => h9) rfl dX2_begin_20 ?_
    refine lv_aload_n hx hb dX2_begin_23 rfl (lv_at hl 0 rfl) ?_
    refine va_get (D := G.1) (ci := 2) (v := .int (nI kc)) (C := RX2) (T := TX2) (N := 4) hx hb hts (by decide +kernel) hown hK.1 hP 0 rfl rfl 3 (by decide) (hts (.fieldLink RX2 21 "CallNumbers$Code" "count" "I") (by decide +kernel)) (fun _ h9 => h9) rfl dX2_begin_24 ?_
    refine lv_iconst (v := nI 0) hx hb dX2_begin_27 (by decide) ?_
    refine iastN (k := kc) (f := kn) (x := 0) hx hb hK.1 hP hD hS 2 0 rfl rfl (rfl) (by omega) (Nat.le_of_ble_eq_true rfl) dX2_begin_28 (fun H locs hP hD hS => ?_)
    have hP : PP G [(qk, ob 2 [.ref k1, .ref k2, .ref k3, .int (nI kc)]), (k1, iA G 31 (fun j => nI ((va_up ks kc r0) j))), (k2, iA G 31 (fun j => nI ((va_up kn kc 0) j))), (k3, iA G 31 kv)] H := hP
    have hD : va_D A [(qk, ob 2 [.ref k1, .ref k2, .ref k3, .int (nI kc)]), (k1, iA G 31 (fun j => nI ((va_up ks kc r0) j))), (k2, iA G 31 (fun j => nI ((va_up kn kc 0) j))), (k3, iA G 31 kv)] := hD
    refine lv_aload_n hx hb dX2_begin_29 rfl (lv_at hl 0 rfl) ?_
    refine va_get (D := G.1) (ci := 2) (v := .ref k3) (C := RX2) (T := TX2) (N := 4) hx hb hts (by decide +kernel) hown hK.1 hP 0 rfl rfl 2 (by decide) (hts (.fieldLink RX2 18 "CallNumbers$Code" "via" "[I") (by decide +kernel)) (fun _ h9 => h9) rfl dX2_begin_30 ?_
    refine lv_aload_n hx hb dX2_begin_33 rfl (lv_at hl 0 rfl) ?_
    refine va_get (D := G.1) (ci := 2) (v := .int (nI kc)) (C := RX2) (T := TX2) (N := 4) hx hb hts (by decide +kernel) hown hK.1 hP 0 rfl rfl 3 (by decide) (hts (.fieldLink RX2 21 "CallNumbers$Code" "count" "I") (by decide +kernel)) (fun _ h9 => h9) rfl dX2_begin_34 ?_
    refine lv_bipush (v := (-9)) hx hb dX2_begin_37 (by decide) ?_
    refine iastK (k := kc) (f := kv) (x := (-9)) hx hb hK.1 hP hD hS 3 0 rfl rfl (rfl) (by omega) (Nat.le_of_ble_eq_true rfl) dX2_begin_39 (fun H locs hP hD hS => ?_)
    have hP : PP G [(qk, ob 2 [.ref k1, .ref k2, .ref k3, .int (nI kc)]), (k1, iA G 31 (fun j => nI ((va_up ks kc r0) j))), (k2, iA G 31 (fun j => nI ((va_up kn kc 0) j))), (k3, iA G 31 (va_up kv kc (-9)))] H := hP
    have hD : va_D A [(qk, ob 2 [.ref k1, .ref k2, .ref k3, .int (nI kc)]), (k1, iA G 31 (fun j => nI ((va_up ks kc r0) j))), (k2, iA G 31 (fun j => nI ((va_up kn kc 0) j))), (k3, iA G 31 (va_up kv kc (-9)))] := hD
    refine lv_aload_n hx hb dX2_begin_40 rfl (lv_at hl 0 rfl) ?_
    refine lv_dup hx hb dX2_begin_41 rfl ?_
    refine va_get (D := G.1) (ci := 2) (v := .int (nI kc)) (C := RX2) (T := TX2) (N := 4) hx hb hts (by decide +kernel) hown hK.1 hP 0 rfl rfl 3 (by decide) (hts (.fieldLink RX2 21 "CallNumbers$Code" "count" "I") (by decide +kernel)) (fun _ h9 => h9) rfl dX2_begin_42 ?_
    refine lv_iconst (v := nI 1) hx hb dX2_begin_45 (by decide) ?_
    refine lv_iadd hx hb dX2_begin_46 ?_
    refine lv_topi (fun v ev => ?_)
    obtain rfl : v = nI (kc + 1) := ev.trans (nI_add _ _)
    refine va_put (D := G.1) (ci := 2) (v := .int (nI (kc + 1))) (ty := .int) (C := RX2) (T := TX2) (N := 4) hx hb hts (by decide +kernel) tyX2 tyX2_ok nmX2 hown hK.1 hP hD hS 0 rfl rfl 3 (by decide) (hts (.fieldLink RX2 21 "CallNumbers$Code" "count" "I") (by decide +kernel)) (fun _ h9 => h9) rfl (by decide +kernel) rfl rfl (Nat.le_of_ble_eq_true rfl) dX2_begin_47 (fun H locs hP hD hS => ?_)
    have hP : PP G [(qk, ob 2 [.ref k1, .ref k2, .ref k3, .int (nI (kc + 1))]), (k1, iA G 31 (fun j => nI ((va_up ks kc r0) j))), (k2, iA G 31 (fun j => nI ((va_up kn kc 0) j))), (k3, iA G 31 (va_up kv kc (-9)))] H := hP
    have hD : va_D A [(qk, ob 2 [.ref k1, .ref k2, .ref k3, .int (nI (kc + 1))]), (k1, iA G 31 (fun j => nI ((va_up ks kc r0) j))), (k2, iA G 31 (fun j => nI ((va_up kn kc 0) j))), (k3, iA G 31 (va_up kv kc (-9)))] := hD
    exact W.vret hx hb hr (fun t ht _ => ⟨⟨(), rfl, trivial, by rw [ht]; exact hP, hD⟩, hS.F ht⟩) hS.2.2 dX2_begin_50
set_option maxHeartbeats 4000000 in
set_option maxRecDepth 100000 in
theorem c_X2_write (G : GG) (l : Launch) (qk k1 k2 k3 kc : Nat) (ks kn : Nat → Nat) (kv : Nat → Int32) (q4 qd qc qt qs qr dp : Nat) (fs gs hs : List Value) (pl : Int32) (ad to row : Nat → Nat) (f1 : fs[1]? = some (.ref qd)) (f6 : fs[6]? = some (.int pl)) (g1 : gs[1]? = some (.ref qt)) (h0 : hs[0]? = some (.ref qr)) (h1 : hs[1]? = some (.int (nI dp))) (hd : dp ≤ 30) (hrow : ∀ j, j < dp → row j < 24) (sz : Nat) : Met l yX2_write wsX2_write { frames := 1, cells := 0, slots := 0, locals := 21 } (WPt G [.ref qk, .ref q4, .ref qc, .ref qs] [(qk, ob 2 [.ref k1, .ref k2, .ref k3, .int (nI kc)]), (k1, iA G 31 (fun j => nI (ks j))), (k2, iA G 31 (fun j => nI (kn j))), (k3, iA G 31 kv)] [(q4, ob 4 fs), (qd, iA G 24 (fun j => nI (ad j))), (qc, ob 1 gs), (qt, iA G 24 (fun j => nI (to j))), (qs, ob 0 hs), (qr, iA G 30 (fun j => nI (row j)))] sz) (WQv G [(qk, ob 2 [.ref k1, .ref k2, .ref k3, .int (nI kc)]), (k1, iA G 31 (fun j => nI (ks j))), (k2, iA G 31 (fun j => nI (kn j))), (k3, iA G 31 kv)] sz (fun u : Unit => True) (fun u => [(qk, ob 2 [.ref k1, .ref k2, .ref k3, .int (nI ((codeA pl ad to row ks kn kv dp).1))]), (k1, iA G 31 (fun j => nI ((codeA pl ad to row ks kn kv dp).2.1 j))), (k2, iA G 31 (fun j => nI ((codeA pl ad to row ks kn kv dp).2.2.1 j))), (k3, iA G 31 ((codeA pl ad to row ks kn kv dp).2.2.2))])) 0 0 (va_A [(qk, ob 2 [.ref k1, .ref k2, .ref k3, .int (nI kc)]), (k1, iA G 31 (fun j => nI (ks j))), (k2, iA G 31 (fun j => nI (kn j))), (k3, iA G 31 kv)] sz) := by
  refine Met.ofW (cc := cX2_write) (maxL := 6) (ret := none) (by decide) rfl ?_
  intro p e s m args below meth c s₁ B hml hv
  obtain ⟨rfl, hsz, hP, hK, hD0, hT0, hTd⟩ := hv
  have hx := B.exec
  have hb := B.bytes
  have hr := B.returns
  have hts := atoms_spec (ws := wsX2_write) B.pre
  have hown : s.vm.findClass RX2 = some m.cls := findClass_of_methodNamed B.named
  have hlocks := B.notSynchronized
  subst hsz
  have hTA := notA hT0 hTd
  have hD := hD0.self (sz := s.heap.size)
  unfold WQv
  generalize hAe : va_A [(qk, ob 2 [.ref k1, .ref k2, .ref k3, .int (nI kc)]), (k1, iA G 31 (fun j => nI (ks j))), (k2, iA G 31 (fun j => nI (kn j))), (k3, iA G 31 kv)] s.heap.size = A at hD hTA ⊢
  have hA : ∀ q : Nat, s.heap.size ≤ q → A q := fun q h => by rw [← hAe]; exact Or.inr h
  have hl := lv_entry ([.ref qk, .ref q4, .ref qc, .ref qs]) (n := 6) (Nat.le_of_ble_eq_true rfl)
  rw [lg_entry_eq]
  generalize (lg_sl ([.ref qk, .ref q4, .ref qc, .ref qs]) ++ List.replicate (6 - (lg_sl ([.ref qk, .ref q4, .ref qc, .ref qs])).length) Slot.unset).toArray = ls at hl ⊢
  have hl : lv_has ls 6 [(0, .ref qk), (1, .ref q4), (2, .ref qc), (3, .ref qs)] := hl
  refine nameHL (fun H locs hH hL => ?_)
  have hP : PP G [(qk, ob 2 [.ref k1, .ref k2, .ref k3, .int (nI kc)]), (k1, iA G 31 (fun j => nI (ks j))), (k2, iA G 31 (fun j => nI (kn j))), (k3, iA G 31 kv)] H := by rw [hH]; exact hP
  have hS : va_S A s.heap H locs := by rw [hH, hL]; exact va_S.rf
  have hR : PP G [(q4, ob 4 fs), (qd, iA G 24 (fun j => nI (ad j))), (qc, ob 1 gs), (qt, iA G 24 (fun j => nI (to j))), (qs, ob 0 hs), (qr, iA G 30 (fun j => nI (row j)))] H := keepT hT0 hS hTA
  refine lv_aload_n hx hb dX2_write_0 rfl (lv_at hl 0 rfl) ?_
  refine lv_iconst (v := nI 0) hx hb dX2_write_1 (by decide) ?_
  refine va_put (D := G.1) (ci := 2) (v := .int (nI 0)) (ty := .int) (C := RX2) (T := TX2) (N := 4) hx hb hts (by decide +kernel) tyX2 tyX2_ok nmX2 hown hK.1 hP hD hS 0 rfl rfl 3 (by decide) (hts (.fieldLink RX2 21 "CallNumbers$Code" "count" "I") (by decide +kernel)) (fun _ h9 => h9) rfl (by decide +kernel) rfl rfl (Nat.le_of_ble_eq_true rfl) dX2_write_2 (fun H locs hP hD hS => ?_)
  have hP : PP G [(qk, ob 2 [.ref k1, .ref k2, .ref k3, .int (nI 0)]), (k1, iA G 31 (fun j => nI (ks j))), (k2, iA G 31 (fun j => nI (kn j))), (k3, iA G 31 kv)] H := hP
  have hD : va_D A [(qk, ob 2 [.ref k1, .ref k2, .ref k3, .int (nI 0)]), (k1, iA G 31 (fun j => nI (ks j))), (k2, iA G 31 (fun j => nI (kn j))), (k3, iA G 31 kv)] := hD
  have hR : PP G [(q4, ob 4 fs), (qd, iA G 24 (fun j => nI (ad j))), (qc, ob 1 gs), (qt, iA G 24 (fun j => nI (to j))), (qs, ob 0 hs), (qr, iA G 30 (fun j => nI (row j)))] H := keepT hT0 hS hTA
  refine lv_aload_n hx hb dX2_write_5 rfl (lv_at hl 0 rfl) ?_
  refine lv_iconst (v := nI 0) hx hb dX2_write_6 (by decide) ?_
  have hP_1 : PP G [(qk, ob 2 [.ref k1, .ref k2, .ref k3, .int (nI 0)]), (k1, iA G 31 (fun j => nI (ks j))), (k2, iA G 31 (fun j => nI (kn j))), (k3, iA G 31 kv)] H := hP.sub [0, 1, 2, 3] rfl
  have hD_2 : va_D A [(qk, ob 2 [.ref k1, .ref k2, .ref k3, .int (nI 0)]), (k1, iA G 31 (fun j => nI (ks j))), (k2, iA G 31 (fun j => nI (kn j))), (k3, iA G 31 kv)] := hD.sub [0, 1, 2, 3] (by decide) rfl
  refine cwv (va_runV (As := [.int (nI 0)]) (rest := []) ⟨hx, hb, hml, hown, hts⟩ (c_X2_begin G l qk k1 k2 k3 0 ks kn kv 0 (by omega) H.size) (cwV 1 hts gX2_write_X2_begin rfl rfl rfl (by decide +kernel) ⟨Nat.le_of_ble_eq_true rfl, Nat.le_of_ble_eq_true rfl⟩) (preWV hK hP_1 hD_2 0 2 rfl rfl) rfl rfl hl.1 rfl (lv_room (Nat.le_of_ble_eq_true rfl)) dX2_write_7 ⟨Nat.zero_le _, Nat.zero_le _⟩) hS hA hP hD [0, 1, 2, 3] rfl (fun _ => rfl) (fun u_4 H locs h_5 hP hD hS => ?_)
  have hP : PP G [(qk, ob 2 [.ref k1, .ref k2, .ref k3, .int (nI 1)]), (k1, iA G 31 (fun j => nI ((va_up ks 0 0) j))), (k2, iA G 31 (fun j => nI ((va_up kn 0 0) j))), (k3, iA G 31 (va_up kv 0 (-9)))] H := hP
  have hD : va_D A [(qk, ob 2 [.ref k1, .ref k2, .ref k3, .int (nI 1)]), (k1, iA G 31 (fun j => nI ((va_up ks 0 0) j))), (k2, iA G 31 (fun j => nI ((va_up kn 0 0) j))), (k3, iA G 31 (va_up kv 0 (-9)))] := hD
  have hR : PP G [(q4, ob 4 fs), (qd, iA G 24 (fun j => nI (ad j))), (qc, ob 1 gs), (qt, iA G 24 (fun j => nI (to j))), (qs, ob 0 hs), (qr, iA G 30 (fun j => nI (row j)))] H := keepT hT0 hS hTA
  refine lv_iconst (v := nI 0) hx hb dX2_write_10 (by decide) ?_
  refine lv_istore (lv' := [(4, .int (nI 0)), (0, .ref qk), (1, .ref q4), (2, .ref qc), (3, .ref qs)]) hx hb dX2_write_11 hl (by decide) rfl (fun ls hl => ?_)
  have loop_6 : ∀ (N : Nat) (i : Nat) (w : Nat × (Nat → Nat) × (Nat → Nat) × (Nat → Int32)), (i ≤ dp) → (w = (codeA pl ad to row ks kn kv i)) → (1 ≤ w.1) → (w.1 ≤ i + 1) → (dp - i) < N → ∀ (H : Heap) (locs : List Loc), PP G [(qk, ob 2 [.ref k1, .ref k2, .ref k3, .int (nI w.1)]), (k1, iA G 31 (fun j => nI (w.2.1 j))), (k2, iA G 31 (fun j => nI (w.2.2.1 j))), (k3, iA G 31 w.2.2.2)] H → va_D A [(qk, ob 2 [.ref k1, .ref k2, .ref k3, .int (nI w.1)]), (k1, iA G 31 (fun j => nI (w.2.1 j))), (k2, iA G 31 (fun j => nI (w.2.2.1 j))), (k3, iA G 31 w.2.2.2)] → va_S A s.heap H locs → ∀ (ls : Array Slot), lv_has ls 6 [(0, .ref qk), (1, .ref q4), (2, .ref qc), (3, .ref qs), (4, .int (nI i))] → W p l e (headSpec wsX2_write { frames := 1, cells := 0, slots := 0, locals := 21 }).room s m ([.ref qk, .ref q4, .ref qc, .ref qs]).toArray below meth c H locs 0 0 (MQ below (va_Qv (fun u : Unit => True) (fun (u : Unit) (t : State) => PP G ([(qk, ob 2 [.ref k1, .ref k2, .ref k3, .int (nI ((codeA pl ad to row ks kn kv dp).1))]), (k1, iA G 31 (fun j => nI ((codeA pl ad to row ks kn kv dp).2.1 j))), (k2, iA G 31 (fun j => nI ((codeA pl ad to row ks kn kv dp).2.2.1 j))), (k3, iA G 31 ((codeA pl ad to row ks kn kv dp).2.2.2))]) t.heap ∧ va_D A ([(qk, ob 2 [.ref k1, .ref k2, .ref k3, .int (nI ((codeA pl ad to row ks kn kv dp).1))]), (k1, iA G 31 (fun j => nI ((codeA pl ad to row ks kn kv dp).2.1 j))), (k2, iA G 31 (fun j => nI ((codeA pl ad to row ks kn kv dp).2.2.1 j))), (k3, iA G 31 ((codeA pl ad to row ks kn kv dp).2.2.2))])) A) ([.ref qk, .ref q4, .ref qc, .ref qs]).toArray s 0 0 A) (F0 m 13 ls []) := by
    intro N
    induction N with
    | zero =>
      intro i w hi hw hw1 hw2 hm
      exact absurd hm (Nat.not_lt_zero _)
    | succ N ih =>
      intro i w hi hw hw1 hw2 hm H locs hP hD hS ls hl
      have hR : PP G [(q4, ob 4 fs), (qd, iA G 24 (fun j => nI (ad j))), (qc, ob 1 gs), (qt, iA G 24 (fun j => nI (to j))), (qs, ob 0 hs), (qr, iA G 30 (fun j => nI (row j)))] H := keepT hT0 hS hTA
      refine lv_iload hx hb dX2_write_13 (lv_at hl 4 rfl) ?_
      refine lv_aload_n hx hb dX2_write_15 rfl (lv_at hl 3 rfl) ?_
      refine va_getN (D := G.1) (ci := 0) (v := .int (nI dp)) (C := RX0) (T := TX0) (N := 2) hx hb hts (by decide +kernel) hown hK.1 hR 4 rfl rfl 1 (by decide) (hK.2.1.f 17 rfl) (fun _ h9 => h9) h1 dX2_write_16 ?_
      refine lv_icmp_ge (tgt := 97) hx hb dX2_write_19 (by decide) (fun c19 => ?_) (fun c19 => ?_)
      · skip
        have c19 := Nat.not_lt.mpr ((nI_leI (a := dp) (b := i) (by omega) (by omega)).mp c19)
        obtain rfl : i = dp := by omega
        subst hw
        exact W.vret hx hb hr (fun t ht _ => ⟨⟨(), rfl, trivial, by rw [ht]; exact hP, hD⟩, hS.F ht⟩) hS.2.2 dX2_write_97
      · skip
        have c19 := Nat.not_le.mp (mt (nI_leI (a := dp) (b := i) (by omega) (by omega)).mpr c19)
        refine lv_aload_n hx hb dX2_write_22 rfl (lv_at hl 3 rfl) ?_
        refine va_getN (D := G.1) (ci := 0) (v := .ref qr) (C := RX0) (T := TX0) (N := 2) hx hb hts (by decide +kernel) hown hK.1 hR 4 rfl rfl 0 (by decide) (hK.2.1.f 14 rfl) (fun _ h9 => h9) h0 dX2_write_23 ?_
        refine lv_iload hx hb dX2_write_26 (lv_at hl 4 rfl) ?_
        refine ialdN (k := i) (f := row) hx hb hK.1 hR 5 0 rfl rfl (rfl) (by omega) (Nat.le_of_ble_eq_true rfl) dX2_write_28 ?_
        have he9 := hrow i (by omega)
        refine lv_istore (lv' := [(5, .int (nI (row i))), (0, .ref qk), (1, .ref q4), (2, .ref qc), (3, .ref qs), (4, .int (nI i))]) hx hb dX2_write_29 hl (by decide) rfl (fun ls hl => ?_)
        refine lv_aload_n hx hb dX2_write_31 rfl (lv_at hl 2 rfl) ?_
        refine va_getN (D := G.1) (ci := 4) (v := .int pl) (C := RX4) (T := TX4) (N := 7) hx hb hts (by decide +kernel) hown hK.1 hR 0 rfl rfl 6 (by decide) (hK.2.1.f 34 rfl) (fun _ h9 => h9) f6 dX2_write_32 ?_
        refine lv_iload hx hb dX2_write_35 (lv_at hl 0 rfl) ?_
        have hP_7 : PP G [] H := hP.sub [] rfl
        refine csi (va_runSN (As := [.int pl, .int (nI (row i))]) (rest := []) ⟨hx, hb, hml, hown, hts⟩ (c_X7_has G l pl (row i)) (⟨va_cnB 2 hts gX2_write_X7_has_n40 rfl rfl rfl (hK.2.1.m 16 rfl) (hts (.initialized RX7) (by decide +kernel)) (by decide +kernel) ⟨Nat.le_of_ble_eq_true rfl, Nat.le_of_ble_eq_true rfl⟩, hts (.static yX7_has) (by decide +kernel), trivial⟩) (preR hK hP_7) rfl rfl hl.1 rfl (lv_room (Nat.le_of_ble_eq_true rfl)) dX2_write_37 ⟨Nat.zero_le _, Nat.zero_le _⟩) (fun r_8 h_9 => ?_)
        rcases h_9 with ⟨rfl, g37⟩ | ⟨rfl, g37⟩
        · skip
          refine lv_if_eq (tgt := 67) hx hb dX2_write_40 (by decide) (fun c9 => absurd c9 (by decide)) (fun _ => ?_)
          refine lv_aload_n hx hb dX2_write_43 rfl (lv_at hl 1 rfl) ?_
          refine va_get (D := G.1) (ci := 2) (v := .ref k2) (C := RX2) (T := TX2) (N := 4) hx hb hts (by decide +kernel) hown hK.1 hP 0 rfl rfl 1 (by decide) (hts (.fieldLink RX2 15 "CallNumbers$Code" "number" "[I") (by decide +kernel)) (fun _ h9 => h9) rfl dX2_write_44 ?_
          refine lv_aload_n hx hb dX2_write_47 rfl (lv_at hl 1 rfl) ?_
          refine va_get (D := G.1) (ci := 2) (v := .int (nI w.1)) (C := RX2) (T := TX2) (N := 4) hx hb hts (by decide +kernel) hown hK.1 hP 0 rfl rfl 3 (by decide) (hts (.fieldLink RX2 21 "CallNumbers$Code" "count" "I") (by decide +kernel)) (fun _ h9 => h9) rfl dX2_write_48 ?_
          refine lv_iconst (v := nI 1) hx hb dX2_write_51 (by decide) ?_
          refine lv_isub hx hb dX2_write_52 ?_
          refine lv_topi (fun v ev => ?_)
          obtain rfl : v = nI (w.1 - 1) := ev.trans (pk_sub (by omega))
          refine lv_dup2_11 hx hb dX2_write_53 rfl rfl ?_
          refine ialdN (k := w.1 - 1) (f := w.2.2.1) hx hb hK.1 hP 2 0 rfl rfl (rfl) (by omega) (Nat.le_of_ble_eq_true rfl) dX2_write_54 ?_
          refine lv_aload_n hx hb dX2_write_55 rfl (lv_at hl 2 rfl) ?_
          refine va_getN (D := G.1) (ci := 4) (v := .ref qd) (C := RX4) (T := TX4) (N := 7) hx hb hts (by decide +kernel) hown hK.1 hR 0 rfl rfl 1 (by decide) (hK.2.1.f 27 rfl) (fun _ h9 => h9) f1 dX2_write_56 ?_
          refine lv_iload hx hb dX2_write_59 (lv_at hl 0 rfl) ?_
          refine ialdN (k := row i) (f := ad) hx hb hK.1 hR 1 0 rfl rfl (rfl) (by omega) (Nat.le_of_ble_eq_true rfl) dX2_write_61 ?_
          refine lv_iadd hx hb dX2_write_62 ?_
          refine lv_topi (fun v ev => ?_)
          obtain rfl : v = nI ((w.2.2.1 (w.1 - 1)) + (ad (row i))) := ev.trans (nI_add _ _)
          refine iastN (k := w.1 - 1) (f := w.2.2.1) (x := (w.2.2.1 (w.1 - 1)) + (ad (row i))) hx hb hK.1 hP hD hS 2 0 rfl rfl (rfl) (by omega) (Nat.le_of_ble_eq_true rfl) dX2_write_63 (fun H locs hP hD hS => ?_)
          have hP : PP G [(qk, ob 2 [.ref k1, .ref k2, .ref k3, .int (nI w.1)]), (k1, iA G 31 (fun j => nI (w.2.1 j))), (k2, iA G 31 (fun j => nI ((va_up w.2.2.1 (w.1 - 1) ((w.2.2.1 (w.1 - 1)) + (ad (row i)))) j))), (k3, iA G 31 w.2.2.2)] H := hP
          have hD : va_D A [(qk, ob 2 [.ref k1, .ref k2, .ref k3, .int (nI w.1)]), (k1, iA G 31 (fun j => nI (w.2.1 j))), (k2, iA G 31 (fun j => nI ((va_up w.2.2.1 (w.1 - 1) ((w.2.2.1 (w.1 - 1)) + (ad (row i)))) j))), (k3, iA G 31 w.2.2.2)] := hD
          have hR : PP G [(q4, ob 4 fs), (qd, iA G 24 (fun j => nI (ad j))), (qc, ob 1 gs), (qt, iA G 24 (fun j => nI (to j))), (qs, ob 0 hs), (qr, iA G 30 (fun j => nI (row j)))] H := keepT hT0 hS hTA
          refine lv_goto (tgt := 91) hx hb dX2_write_64 (by decide) ?_
          refine lv_iinc (v := nI (i + 1)) (lv' := [(4, .int (nI (i + 1))), (5, .int (nI (row i))), (0, .ref qk), (1, .ref q4), (2, .ref qc), (3, .ref qs)]) hx hb dX2_write_91 hl (k := 5) rfl (iinc1 i) (by decide) rfl (fun ls hl => ?_)
          refine lv_goto (tgt := 13) hx hb dX2_write_94 (by decide) ?_
          exact ih (i + 1) (w.1, w.2.1, (va_up w.2.2.1 (w.1 - 1) ((w.2.2.1 (w.1 - 1)) + (ad (row i)))), w.2.2.2) (by omega) (by rw [show (codeA pl ad to row ks kn kv (i + 1)) = codeStep pl ad to (codeA pl ad to row ks kn kv i) (row i) from rfl, ← hw]; simp [codeStep, g37]) (by first | omega | exact hw1) (by first | omega | exact Nat.le_succ_of_le hw2) (by omega) H locs hP hD hS ls (lv_sub hl [2, 3, 4, 5, 0] rfl)
        · skip
          refine lv_if_eq (tgt := 67) hx hb dX2_write_40 (by decide) (fun _ => ?_) (fun c9 => absurd c9 (by decide))
          refine lv_aload_n hx hb dX2_write_67 rfl (lv_at hl 1 rfl) ?_
          refine va_get (D := G.1) (ci := 2) (v := .ref k3) (C := RX2) (T := TX2) (N := 4) hx hb hts (by decide +kernel) hown hK.1 hP 0 rfl rfl 2 (by decide) (hts (.fieldLink RX2 18 "CallNumbers$Code" "via" "[I") (by decide +kernel)) (fun _ h9 => h9) rfl dX2_write_68 ?_
          refine lv_aload_n hx hb dX2_write_71 rfl (lv_at hl 1 rfl) ?_
          refine va_get (D := G.1) (ci := 2) (v := .int (nI w.1)) (C := RX2) (T := TX2) (N := 4) hx hb hts (by decide +kernel) hown hK.1 hP 0 rfl rfl 3 (by decide) (hts (.fieldLink RX2 21 "CallNumbers$Code" "count" "I") (by decide +kernel)) (fun _ h9 => h9) rfl dX2_write_72 ?_
          refine lv_iconst (v := nI 1) hx hb dX2_write_75 (by decide) ?_
          refine lv_isub hx hb dX2_write_76 ?_
          refine lv_topi (fun v ev => ?_)
          obtain rfl : v = nI (w.1 - 1) := ev.trans (pk_sub (by omega))
          refine lv_iload hx hb dX2_write_77 (lv_at hl 0 rfl) ?_
          refine iastK (k := w.1 - 1) (f := w.2.2.2) (x := nI (row i)) hx hb hK.1 hP hD hS 3 0 rfl rfl (rfl) (by omega) (Nat.le_of_ble_eq_true rfl) dX2_write_79 (fun H locs hP hD hS => ?_)
          have hP : PP G [(qk, ob 2 [.ref k1, .ref k2, .ref k3, .int (nI w.1)]), (k1, iA G 31 (fun j => nI (w.2.1 j))), (k2, iA G 31 (fun j => nI (w.2.2.1 j))), (k3, iA G 31 (va_up w.2.2.2 (w.1 - 1) (nI (row i))))] H := hP
          have hD : va_D A [(qk, ob 2 [.ref k1, .ref k2, .ref k3, .int (nI w.1)]), (k1, iA G 31 (fun j => nI (w.2.1 j))), (k2, iA G 31 (fun j => nI (w.2.2.1 j))), (k3, iA G 31 (va_up w.2.2.2 (w.1 - 1) (nI (row i))))] := hD
          have hR : PP G [(q4, ob 4 fs), (qd, iA G 24 (fun j => nI (ad j))), (qc, ob 1 gs), (qt, iA G 24 (fun j => nI (to j))), (qs, ob 0 hs), (qr, iA G 30 (fun j => nI (row j)))] H := keepT hT0 hS hTA
          refine lv_aload_n hx hb dX2_write_80 rfl (lv_at hl 1 rfl) ?_
          refine lv_aload_n hx hb dX2_write_81 rfl (lv_at hl 3 rfl) ?_
          refine va_getN (D := G.1) (ci := 1) (v := .ref qt) (C := RX1) (T := TX1) (N := 3) hx hb hts (by decide +kernel) hown hK.1 hR 2 rfl rfl 1 (by decide) (hK.2.1.f 7 rfl) (fun _ h9 => h9) g1 dX2_write_82 ?_
          refine lv_iload hx hb dX2_write_85 (lv_at hl 0 rfl) ?_
          refine ialdN (k := row i) (f := to) hx hb hK.1 hR 3 0 rfl rfl (rfl) (by omega) (Nat.le_of_ble_eq_true rfl) dX2_write_87 ?_
          have hP_10 : PP G [(qk, ob 2 [.ref k1, .ref k2, .ref k3, .int (nI w.1)]), (k1, iA G 31 (fun j => nI (w.2.1 j))), (k2, iA G 31 (fun j => nI (w.2.2.1 j))), (k3, iA G 31 (va_up w.2.2.2 (w.1 - 1) (nI (row i))))] H := hP.sub [0, 1, 2, 3] rfl
          have hD_11 : va_D A [(qk, ob 2 [.ref k1, .ref k2, .ref k3, .int (nI w.1)]), (k1, iA G 31 (fun j => nI (w.2.1 j))), (k2, iA G 31 (fun j => nI (w.2.2.1 j))), (k3, iA G 31 (va_up w.2.2.2 (w.1 - 1) (nI (row i))))] := hD.sub [0, 1, 2, 3] (by decide) rfl
          refine cwv (va_runV (As := [.int (nI (to (row i)))]) (rest := []) ⟨hx, hb, hml, hown, hts⟩ (c_X2_begin G l qk k1 k2 k3 w.1 w.2.1 w.2.2.1 (va_up w.2.2.2 (w.1 - 1) (nI (row i))) (to (row i)) (by omega) H.size) (cwV 1 hts gX2_write_X2_begin rfl rfl rfl (by decide +kernel) ⟨Nat.le_of_ble_eq_true rfl, Nat.le_of_ble_eq_true rfl⟩) (preWV hK hP_10 hD_11 0 2 rfl rfl) rfl rfl hl.1 rfl (lv_room (Nat.le_of_ble_eq_true rfl)) dX2_write_88 ⟨Nat.zero_le _, Nat.zero_le _⟩) hS hA hP hD [0, 1, 2, 3] rfl (fun _ => rfl) (fun u_13 H locs h_14 hP hD hS => ?_)
          have hP : PP G [(qk, ob 2 [.ref k1, .ref k2, .ref k3, .int (nI (w.1 + 1))]), (k1, iA G 31 (fun j => nI ((va_up w.2.1 w.1 (to (row i))) j))), (k2, iA G 31 (fun j => nI ((va_up w.2.2.1 w.1 0) j))), (k3, iA G 31 (va_up (va_up w.2.2.2 (w.1 - 1) (nI (row i))) w.1 (-9)))] H := hP
          have hD : va_D A [(qk, ob 2 [.ref k1, .ref k2, .ref k3, .int (nI (w.1 + 1))]), (k1, iA G 31 (fun j => nI ((va_up w.2.1 w.1 (to (row i))) j))), (k2, iA G 31 (fun j => nI ((va_up w.2.2.1 w.1 0) j))), (k3, iA G 31 (va_up (va_up w.2.2.2 (w.1 - 1) (nI (row i))) w.1 (-9)))] := hD
          have hR : PP G [(q4, ob 4 fs), (qd, iA G 24 (fun j => nI (ad j))), (qc, ob 1 gs), (qt, iA G 24 (fun j => nI (to j))), (qs, ob 0 hs), (qr, iA G 30 (fun j => nI (row j)))] H := keepT hT0 hS hTA
          refine lv_iinc (v := nI (i + 1)) (lv' := [(4, .int (nI (i + 1))), (5, .int (nI (row i))), (0, .ref qk), (1, .ref q4), (2, .ref qc), (3, .ref qs)]) hx hb dX2_write_91 hl (k := 5) rfl (iinc1 i) (by decide) rfl (fun ls hl => ?_)
          refine lv_goto (tgt := 13) hx hb dX2_write_94 (by decide) ?_
          exact ih (i + 1) (w.1 + 1, (va_up w.2.1 w.1 (to (row i))), (va_up w.2.2.1 w.1 0), (va_up (va_up w.2.2.2 (w.1 - 1) (nI (row i))) w.1 (-9))) (by omega) (by rw [show (codeA pl ad to row ks kn kv (i + 1)) = codeStep pl ad to (codeA pl ad to row ks kn kv i) (row i) from rfl, ← hw]; simp [codeStep, g37]) (by first | omega | exact hw1) (by first | omega | exact Nat.le_succ_of_le hw2) (by omega) H locs hP hD hS ls (lv_sub hl [2, 3, 4, 5, 0] rfl)
  exact loop_6 _ 0 (1, va_up ks 0 0, va_up kn 0 0, va_up kv 0 (-9)) (Nat.zero_le _) (rfl) (Nat.le_refl 1) (Nat.le_refl 1) (Nat.lt_succ_self _) H locs hP hD hS ls (lv_sub hl [1, 2, 3, 4, 0] rfl)
set_option maxHeartbeats 4000000 in
set_option maxRecDepth 100000 in
theorem c_X3_read (G : GG) (l : Launch) (qe qb dc : Nat) (df : Nat → Nat) (q4 qc qf qt qw qa sn stt r0 num : Nat) (fs gs : List Value) (fr to wy ad : Nat → Nat) (pl : Int32) (f0 : fs[0]? = some (.ref qw)) (f1 : fs[1]? = some (.ref qa)) (f2 : fs[2]? = some (.int (nI sn))) (f6 : fs[6]? = some (.int pl)) (g0 : gs[0]? = some (.ref qf)) (g1 : gs[1]? = some (.ref qt)) (hst : stt < 10) (hs : sn ≤ 24) (hr0 : r0 < 10) (hfr : ∀ j, j < sn → fr j < 10) (hto : ∀ j, j < sn → to j < 10) (had : ∀ j, j < sn → ad j ≤ 24000000) (hwy : ∀ j, j < 10 → wy j ≤ 1000000) (hnum : num ≤ 1000000000) (sz : Nat) : Met l yX3_read wsX3_read { frames := 2, cells := 0, slots := 0, locals := 46 } (WPt G [.ref qe, .ref q4, .ref qc, .int (nI stt), .int (nI r0), .int (nI num)] [(qe, ob 3 [.ref qb, .int (nI dc)]), (qb, iA G 10 (fun j => nI (df j)))] [(q4, ob 4 fs), (qc, ob 1 gs), (qf, iA G 24 (fun j => nI (fr j))), (qt, iA G 24 (fun j => nI (to j))), (qw, iA G 10 (fun j => nI (wy j))), (qa, iA G 24 (fun j => nI (ad j)))] sz) (WQi G [(qe, ob 3 [.ref qb, .int (nI dc)]), (qb, iA G 10 (fun j => nI (df j)))] sz (fun (r : Int32) (u : Nat × (Nat → Nat)) => DecR (decF (fun r num => firstF (lastP pl ad wy fr to r num) sn) fr ad stt 10 r0 num) r u) (fun u => [(qe, ob 3 [.ref qb, .int (nI u.1)]), (qb, iA G 10 (fun j => nI (u.2 j)))])) 0 0 (va_A [(qe, ob 3 [.ref qb, .int (nI dc)]), (qb, iA G 10 (fun j => nI (df j)))] sz) := by
  refine Met.ofW (cc := cX3_read) (maxL := 10) (ret := (some .boolean)) (by decide) rfl ?_
  intro p e s m args below meth c s₁ B hml hv
  obtain ⟨rfl, hsz, hP, hK, hD0, hT0, hTd⟩ := hv
  have hx := B.exec
  have hb := B.bytes
  have hr := B.returns
  have hts := atoms_spec (ws := wsX3_read) B.pre
  have hown : s.vm.findClass RX3 = some m.cls := findClass_of_methodNamed B.named
  have hlocks := B.notSynchronized
  subst hsz
  have hTA := notA hT0 hTd
  have hD := hD0.self (sz := s.heap.size)
  unfold WQi
  generalize hAe : va_A [(qe, ob 3 [.ref qb, .int (nI dc)]), (qb, iA G 10 (fun j => nI (df j)))] s.heap.size = A at hD hTA ⊢
  have hA : ∀ q : Nat, s.heap.size ≤ q → A q := fun q h => by rw [← hAe]; exact Or.inr h
  have hl := lv_entry ([.ref qe, .ref q4, .ref qc, .int (nI stt), .int (nI r0), .int (nI num)]) (n := 10) (Nat.le_of_ble_eq_true rfl)
  rw [lg_entry_eq]
  generalize (lg_sl ([.ref qe, .ref q4, .ref qc, .int (nI stt), .int (nI r0), .int (nI num)]) ++ List.replicate (10 - (lg_sl ([.ref qe, .ref q4, .ref qc, .int (nI stt), .int (nI r0), .int (nI num)])).length) Slot.unset).toArray = ls at hl ⊢
  have hl : lv_has ls 10 [(0, .ref qe), (1, .ref q4), (2, .ref qc), (3, .int (nI stt)), (4, .int (nI r0)), (5, .int (nI num))] := hl
  refine nameHL (fun H locs hH hL => ?_)
  have hP : PP G [(qe, ob 3 [.ref qb, .int (nI dc)]), (qb, iA G 10 (fun j => nI (df j)))] H := by rw [hH]; exact hP
  have hS : va_S A s.heap H locs := by rw [hH, hL]; exact va_S.rf
  have hR : PP G [(q4, ob 4 fs), (qc, ob 1 gs), (qf, iA G 24 (fun j => nI (fr j))), (qt, iA G 24 (fun j => nI (to j))), (qw, iA G 10 (fun j => nI (wy j))), (qa, iA G 24 (fun j => nI (ad j)))] H := keepT hT0 hS hTA
  refine lv_aload_n hx hb dX3_read_0 rfl (lv_at hl 0 rfl) ?_
  refine lv_iconst (v := nI 0) hx hb dX3_read_1 (by decide) ?_
  refine va_put (D := G.1) (ci := 3) (v := .int (nI 0)) (ty := .int) (C := RX3) (T := TX3) (N := 2) hx hb hts (by decide +kernel) tyX3 tyX3_ok nmX3 hown hK.1 hP hD hS 0 rfl rfl 1 (by decide) (hts (.fieldLink RX3 15 "CallNumbers$Decoder" "count" "I") (by decide +kernel)) (fun _ h9 => h9) rfl (by decide +kernel) rfl rfl (Nat.le_of_ble_eq_true rfl) dX3_read_2 (fun H locs hP hD hS => ?_)
  have hP : PP G [(qe, ob 3 [.ref qb, .int (nI 0)]), (qb, iA G 10 (fun j => nI (df j)))] H := hP
  have hD : va_D A [(qe, ob 3 [.ref qb, .int (nI 0)]), (qb, iA G 10 (fun j => nI (df j)))] := hD
  have hR : PP G [(q4, ob 4 fs), (qc, ob 1 gs), (qf, iA G 24 (fun j => nI (fr j))), (qt, iA G 24 (fun j => nI (to j))), (qw, iA G 10 (fun j => nI (wy j))), (qa, iA G 24 (fun j => nI (ad j)))] H := keepT hT0 hS hTA
  refine lv_iload hx hb dX3_read_5 (lv_at hl 4 rfl) ?_
  refine lv_istore (lv' := [(6, .int (nI r0)), (0, .ref qe), (1, .ref q4), (2, .ref qc), (3, .int (nI stt)), (4, .int (nI r0)), (5, .int (nI num))]) hx hb dX3_read_7 hl (by decide) rfl (fun ls hl => ?_)
  refine lv_iload hx hb dX3_read_9 (lv_at hl 6 rfl) ?_
  refine lv_istore (lv' := [(7, .int (nI num)), (6, .int (nI r0)), (0, .ref qe), (1, .ref q4), (2, .ref qc), (3, .int (nI stt)), (4, .int (nI r0)), (5, .int (nI num))]) hx hb dX3_read_11 hl (by decide) rfl (fun ls hl => ?_)
  refine lv_iconst (v := nI 0) hx hb dX3_read_13 (by decide) ?_
  refine lv_istore (lv' := [(8, .int (nI 0)), (7, .int (nI num)), (6, .int (nI r0)), (0, .ref qe), (1, .ref q4), (2, .ref qc), (3, .int (nI stt)), (4, .int (nI r0)), (5, .int (nI num))]) hx hb dX3_read_14 hl (by decide) rfl (fun ls hl => ?_)
  have loop_1 : ∀ (N : Nat) (i : Nat) (at9 : Nat) (lf : Nat) (f : Nat → Nat) (pre : List Nat), (i ≤ 10) → (pre.length = i) → (∀ t, t < i → f t = pre.getD t 0) → ((decF (fun r num => firstF (lastP pl ad wy fr to r num) sn) fr ad stt 10 r0 num) = (decF (fun r num => firstF (lastP pl ad wy fr to r num) sn) fr ad stt (10 - i) at9 lf).map (fun L => pre ++ L)) → (at9 < 10) → (lf ≤ 1000000000) → (10 - i) < N → ∀ (H : Heap) (locs : List Loc), PP G [(qe, ob 3 [.ref qb, .int (nI i)]), (qb, iA G 10 (fun j => nI (f j)))] H → va_D A [(qe, ob 3 [.ref qb, .int (nI i)]), (qb, iA G 10 (fun j => nI (f j)))] → va_S A s.heap H locs → ∀ (ls : Array Slot), lv_has ls 10 [(0, .ref qe), (1, .ref q4), (2, .ref qc), (3, .int (nI stt)), (4, .int (nI r0)), (5, .int (nI num)), (6, .int (nI at9)), (7, .int (nI lf)), (8, .int (nI i))] → W p l e (headSpec wsX3_read { frames := 2, cells := 0, slots := 0, locals := 46 }).room s m ([.ref qe, .ref q4, .ref qc, .int (nI stt), .int (nI r0), .int (nI num)]).toArray below meth c H locs 0 0 (MQ below (va_Qi (fun (r : Int32) (u : Nat × (Nat → Nat)) => DecR (decF (fun r num => firstF (lastP pl ad wy fr to r num) sn) fr ad stt 10 r0 num) r u) (fun (u : Nat × (Nat → Nat)) (t : State) => PP G ([(qe, ob 3 [.ref qb, .int (nI u.1)]), (qb, iA G 10 (fun j => nI (u.2 j)))]) t.heap ∧ va_D A ([(qe, ob 3 [.ref qb, .int (nI u.1)]), (qb, iA G 10 (fun j => nI (u.2 j)))])) A) ([.ref qe, .ref q4, .ref qc, .int (nI stt), .int (nI r0), .int (nI num)]).toArray s 0 0 A) (F0 m 16 ls []) := by
    intro N
    induction N with
    | zero =>
      intro i at9 lf f pre hi hpre hf hdec hat hlf hm
      exact absurd hm (Nat.not_lt_zero _)
    | succ N ih =>
      intro i at9 lf f pre hi hpre hf hdec hat hlf hm H locs hP hD hS ls hl
      have hR : PP G [(q4, ob 4 fs), (qc, ob 1 gs), (qf, iA G 24 (fun j => nI (fr j))), (qt, iA G 24 (fun j => nI (to j))), (qw, iA G 10 (fun j => nI (wy j))), (qa, iA G 24 (fun j => nI (ad j)))] H := keepT hT0 hS hTA
      refine lv_iload hx hb dX3_read_16 (lv_at hl 8 rfl) ?_
      refine lv_bipush (v := nI 10) hx hb dX3_read_18 (by decide) ?_
      refine lv_icmp_ge (tgt := 104) hx hb dX3_read_20 (by decide) (fun c20 => ?_) (fun c20 => ?_)
      · skip
        have c20 := Nat.not_lt.mpr ((nI_leI (a := 10) (b := i) (by omega) (by omega)).mp c20)
        refine lv_iconst (v := nI 0) hx hb dX3_read_104 (by decide) ?_
        exact W.zret (v := nI 0) hx hb hr (by rfl) (fun t ht _ => ⟨⟨nI 0, (i, f), rfl, Or.inr ⟨rfl, by rw [hdec, show 10 - i = 0 by omega]; rfl⟩, by rw [ht]; exact hP, hD⟩, hS.F ht⟩) hS.2.2 dX3_read_105
      · skip
        have c20 := Nat.not_le.mp (mt (nI_leI (a := 10) (b := i) (by omega) (by omega)).mpr c20)
        refine lv_iload hx hb dX3_read_23 (lv_at hl 6 rfl) ?_
        refine lv_iload_n hx hb dX3_read_25 rfl (lv_at hl 3 rfl) ?_
        refine lv_icmp_ne (tgt := 40) hx hb dX3_read_26 (by decide) (fun c26 => ?_) (fun c26 => ?_)
        · skip
          have c26 := mt (nI_eq (a := at9) (b := stt) (by omega) (by omega)).mpr c26
          refine lv_aload_n hx hb dX3_read_40 rfl (lv_at hl 1 rfl) ?_
          refine lv_aload_n hx hb dX3_read_41 rfl (lv_at hl 2 rfl) ?_
          refine lv_iload hx hb dX3_read_42 (lv_at hl 6 rfl) ?_
          refine lv_iload hx hb dX3_read_44 (lv_at hl 7 rfl) ?_
          refine csi (va_runS (As := [.ref q4, .ref qc, .int (nI at9), .int (nI lf)]) (rest := []) ⟨hx, hb, hml, hown, hts⟩ (c_X3_lastCall G l q4 qc qf qt qw qa sn at9 lf fs gs fr to wy ad pl f0 f1 f2 f6 g0 g1 hs (by omega) hfr hto had hwy (by omega)) (va_cwS 4 hts gX3_read_X3_lastCall rfl rfl rfl (by decide +kernel) ⟨Nat.le_of_ble_eq_true rfl, Nat.le_of_ble_eq_true rfl⟩) (preR hK hR) rfl rfl hl.1 rfl (lv_room (Nat.le_of_ble_eq_true rfl)) dX3_read_46 ⟨Nat.zero_le _, Nat.zero_le _⟩) (fun r_2 h_3 => ?_)
          rcases h_3 with ⟨jn, h46L, rfl⟩ | ⟨h46L, rfl⟩
          · skip
            have hj9 := firstF_lt h46L
            have hj8 := lastP_spec hj9.2
            have hj7 := hfr jn hj9.1
            refine lv_istore (lv' := [(9, .int (nI jn)), (0, .ref qe), (1, .ref q4), (2, .ref qc), (3, .int (nI stt)), (4, .int (nI r0)), (5, .int (nI num)), (6, .int (nI at9)), (7, .int (nI lf)), (8, .int (nI i))]) hx hb dX3_read_49 hl (by decide) rfl (fun ls hl => ?_)
            refine lv_iload hx hb dX3_read_51 (lv_at hl 0 rfl) ?_
            refine lv_bipush (v := (-9)) hx hb dX3_read_53 (by decide) ?_
            refine lv_icmp_ne (tgt := 60) hx hb dX3_read_55 (by decide) (fun _ => ?_) (fun c9 => absurd c9 (nI_n9 (by omega)))
            refine lv_aload_n hx hb dX3_read_60 rfl (lv_at hl 1 rfl) ?_
            refine va_get (D := G.1) (ci := 3) (v := .ref qb) (C := RX3) (T := TX3) (N := 2) hx hb hts (by decide +kernel) hown hK.1 hP 0 rfl rfl 0 (by decide) (hts (.fieldLink RX3 9 "CallNumbers$Decoder" "backward" "[I") (by decide +kernel)) (fun _ h9 => h9) rfl dX3_read_61 ?_
            refine lv_iload hx hb dX3_read_64 (lv_at hl 9 rfl) ?_
            refine lv_iload hx hb dX3_read_66 (lv_at hl 0 rfl) ?_
            refine iastN (k := i) (f := f) (x := jn) hx hb hK.1 hP hD hS 1 0 rfl rfl (rfl) (by omega) (Nat.le_of_ble_eq_true rfl) dX3_read_68 (fun H locs hP hD hS => ?_)
            have hP : PP G [(qe, ob 3 [.ref qb, .int (nI i)]), (qb, iA G 10 (fun j => nI ((va_up f i jn) j)))] H := hP
            have hD : va_D A [(qe, ob 3 [.ref qb, .int (nI i)]), (qb, iA G 10 (fun j => nI ((va_up f i jn) j)))] := hD
            have hR : PP G [(q4, ob 4 fs), (qc, ob 1 gs), (qf, iA G 24 (fun j => nI (fr j))), (qt, iA G 24 (fun j => nI (to j))), (qw, iA G 10 (fun j => nI (wy j))), (qa, iA G 24 (fun j => nI (ad j)))] H := keepT hT0 hS hTA
            refine lv_aload_n hx hb dX3_read_69 rfl (lv_at hl 1 rfl) ?_
            refine lv_iload hx hb dX3_read_70 (lv_at hl 9 rfl) ?_
            refine lv_iconst (v := nI 1) hx hb dX3_read_72 (by decide) ?_
            refine lv_iadd hx hb dX3_read_73 ?_
            refine lv_topi (fun v ev => ?_)
            obtain rfl : v = nI (i + 1) := ev.trans (nI_add _ _)
            refine va_put (D := G.1) (ci := 3) (v := .int (nI (i + 1))) (ty := .int) (C := RX3) (T := TX3) (N := 2) hx hb hts (by decide +kernel) tyX3 tyX3_ok nmX3 hown hK.1 hP hD hS 0 rfl rfl 1 (by decide) (hts (.fieldLink RX3 15 "CallNumbers$Decoder" "count" "I") (by decide +kernel)) (fun _ h9 => h9) rfl (by decide +kernel) rfl rfl (Nat.le_of_ble_eq_true rfl) dX3_read_74 (fun H locs hP hD hS => ?_)
            have hP : PP G [(qe, ob 3 [.ref qb, .int (nI (i + 1))]), (qb, iA G 10 (fun j => nI ((va_up f i jn) j)))] H := hP
            have hD : va_D A [(qe, ob 3 [.ref qb, .int (nI (i + 1))]), (qb, iA G 10 (fun j => nI ((va_up f i jn) j)))] := hD
            have hR : PP G [(q4, ob 4 fs), (qc, ob 1 gs), (qf, iA G 24 (fun j => nI (fr j))), (qt, iA G 24 (fun j => nI (to j))), (qw, iA G 10 (fun j => nI (wy j))), (qa, iA G 24 (fun j => nI (ad j)))] H := keepT hT0 hS hTA
            refine lv_iload hx hb dX3_read_77 (lv_at hl 8 rfl) ?_
            refine lv_aload_n hx hb dX3_read_79 rfl (lv_at hl 2 rfl) ?_
            refine va_getN (D := G.1) (ci := 4) (v := .ref qa) (C := RX4) (T := TX4) (N := 7) hx hb hts (by decide +kernel) hown hK.1 hR 0 rfl rfl 1 (by decide) (hK.2.1.f 28 rfl) (fun _ h9 => h9) f1 dX3_read_80 ?_
            refine lv_iload hx hb dX3_read_83 (lv_at hl 0 rfl) ?_
            refine ialdN (k := jn) (f := ad) hx hb hK.1 hR 5 0 rfl rfl (rfl) (by omega) (Nat.le_of_ble_eq_true rfl) dX3_read_85 ?_
            refine lv_isub hx hb dX3_read_86 ?_
            refine lv_topi (fun v ev => ?_)
            obtain rfl : v = nI (lf - ad jn) := ev.trans (pk_sub (by omega))
            refine lv_istore (lv' := [(7, .int (nI (lf - ad jn))), (9, .int (nI jn)), (0, .ref qe), (1, .ref q4), (2, .ref qc), (3, .int (nI stt)), (4, .int (nI r0)), (5, .int (nI num)), (6, .int (nI at9)), (8, .int (nI i))]) hx hb dX3_read_87 hl (by decide) rfl (fun ls hl => ?_)
            refine lv_aload_n hx hb dX3_read_89 rfl (lv_at hl 4 rfl) ?_
            refine va_getN (D := G.1) (ci := 1) (v := .ref qf) (C := RX1) (T := TX1) (N := 3) hx hb hts (by decide +kernel) hown hK.1 hR 1 rfl rfl 0 (by decide) (hK.2.1.f 2 rfl) (fun _ h9 => h9) g0 dX3_read_90 ?_
            refine lv_iload hx hb dX3_read_93 (lv_at hl 1 rfl) ?_
            refine ialdN (k := jn) (f := fr) hx hb hK.1 hR 2 0 rfl rfl (rfl) (by omega) (Nat.le_of_ble_eq_true rfl) dX3_read_95 ?_
            refine lv_istore (lv' := [(6, .int (nI (fr jn))), (7, .int (nI (lf - ad jn))), (9, .int (nI jn)), (0, .ref qe), (1, .ref q4), (2, .ref qc), (3, .int (nI stt)), (4, .int (nI r0)), (5, .int (nI num)), (8, .int (nI i))]) hx hb dX3_read_96 hl (by decide) rfl (fun ls hl => ?_)
            refine lv_iinc (v := nI (i + 1)) (lv' := [(8, .int (nI (i + 1))), (6, .int (nI (fr jn))), (7, .int (nI (lf - ad jn))), (9, .int (nI jn)), (0, .ref qe), (1, .ref q4), (2, .ref qc), (3, .int (nI stt)), (4, .int (nI r0)), (5, .int (nI num))]) hx hb dX3_read_98 hl (k := 9) rfl (iinc1 i) (by decide) rfl (fun ls hl => ?_)
            refine lv_goto (tgt := 16) hx hb dX3_read_101 (by decide) ?_
            exact ih (i + 1) (fr jn) (lf - ad jn) (va_up f i jn) (pre ++ [jn]) (by omega) (by simp [hpre]) (fun t ht => pre_up hpre hf t ht) (by rw [hdec, show 10 - i = (10 - (i + 1)) + 1 by omega, decF_step c26 h46L, Option.map_map]; congr 1; funext L; simp) (hj7) (by omega) (by omega) H locs hP hD hS ls (lv_sub hl [4, 5, 6, 7, 8, 9, 1, 2, 0] rfl)
          · skip
            refine lv_istore (lv' := [(9, .int (-9)), (0, .ref qe), (1, .ref q4), (2, .ref qc), (3, .int (nI stt)), (4, .int (nI r0)), (5, .int (nI num)), (6, .int (nI at9)), (7, .int (nI lf)), (8, .int (nI i))]) hx hb dX3_read_49 hl (by decide) rfl (fun ls hl => ?_)
            refine lv_iload hx hb dX3_read_51 (lv_at hl 0 rfl) ?_
            refine lv_bipush (v := (-9)) hx hb dX3_read_53 (by decide) ?_
            refine lv_icmp_ne (tgt := 60) hx hb dX3_read_55 (by decide) (fun c9 => absurd rfl c9) (fun _ => ?_)
            refine lv_iconst (v := nI 0) hx hb dX3_read_58 (by decide) ?_
            exact W.zret (v := nI 0) hx hb hr (by rfl) (fun t ht _ => ⟨⟨nI 0, (i, f), rfl, Or.inr ⟨rfl, by rw [hdec, show 10 - i = (9 - i) + 1 by omega, decF_none c26 h46L]; rfl⟩, by rw [ht]; exact hP, hD⟩, hS.F ht⟩) hS.2.2 dX3_read_59
        · skip
          have c26 := (nI_eq (a := at9) (b := stt) (by omega) (by omega)).mp c26
          refine lv_iload hx hb dX3_read_29 (lv_at hl 7 rfl) ?_
          refine lv_if_ne (tgt := 38) hx hb dX3_read_31 (by decide) (fun c31 => ?_) (fun c31 => ?_)
          · skip
            have c31 := mt (z_eq (k := lf) (by omega)).mpr c31
            refine lv_iconst (v := nI 0) hx hb dX3_read_38 (by decide) ?_
            exact W.zret (v := nI 0) hx hb hr (by rfl) (fun t ht _ => ⟨⟨nI 0, (i, f), rfl, Or.inr ⟨rfl, by rw [hdec, show 10 - i = (9 - i) + 1 by omega, decF_stop c26]; simp [c31]⟩, by rw [ht]; exact hP, hD⟩, hS.F ht⟩) hS.2.2 dX3_read_39
          · skip
            have c31 := (z_eq (k := lf) (by omega)).mp c31
            refine lv_iconst (v := nI 1) hx hb dX3_read_34 (by decide) ?_
            refine lv_goto (tgt := 39) hx hb dX3_read_35 (by decide) ?_
            exact W.zret (v := nI 1) hx hb hr (by rfl) (fun t ht _ => ⟨⟨nI 1, (i, f), rfl, Or.inl ⟨rfl, pre, by rw [hdec, show 10 - i = (9 - i) + 1 by omega, decF_stop c26]; simp [c31], hpre.symm, fun t ht => hf t (by omega), by show i ≤ 10; omega⟩, by rw [ht]; exact hP, hD⟩, hS.F ht⟩) hS.2.2 dX3_read_39
  exact loop_1 _ 0 r0 num df ([]) (Nat.zero_le _) (rfl) (lt_0) (by cases h8 : (decF (fun r num => firstF (lastP pl ad wy fr to r num) sn) fr ad stt 10 r0 num) <;> simp [h8]) (hr0) (hnum) (Nat.lt_succ_self _) H locs hP hD hS ls (lv_sub hl [3, 4, 5, 6, 7, 8, 2, 1, 0] rfl)
end
